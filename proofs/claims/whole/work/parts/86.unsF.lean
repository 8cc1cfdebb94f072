/-! when wear is not seen, the class, 3 (specs39.py) -/
theorem le0_lp {L d : Nat} {V : Mv} {b : Bool} {Q : Option AV → Mv → Bool → Prop} {c l wr : Nat} (hl : l ≤ 2) (hwr : wr < 8) (hQ : Ev L d 120 54 [some (.inr (.inr 111)), some (.inr (.inr c)), some (.inl ((l + 1 : Nat) : Int)), some (.inl (((l + 1 : Nat) : Int) * 8)), some (.inl (wr : Int)), some (.inl 8)] [] (fil V 112 (8 * (l + 1)) (one1 (wr : Int)) 8) b Q) : ∀ n k : Nat, k + n = 8 → Ev L (d) 120 20 [some (.inr (.inr 111)), some (.inr (.inr c)), some (.inl ((l + 1 : Nat) : Int)), some (.inl (((l + 1 : Nat) : Int) * 8)), some (.inl (wr : Int)), some (.inl (k : Int))] [] (fil V 112 (8 * (l + 1)) (one1 (wr : Int)) k) b Q
  | 0, k, h => by
    obtain rfl : k = 8 := by omega
    refine Ev.blk 3 (B120_20 _ _ _ _ _ _ _ _ (by first | assumption | omega | decide | exact cmpI_in _ _ | exact ⟨by omega, by omega⟩)) rfl ?_
    refine Ev.ite (fun q => ?_) (fun q => ?_)
    · replace q := of_decide_eq_true q
      exact hQ
    · replace q := of_decide_eq_false q
      exact absurd q (by omega)
  | n + 1, k, h => by
    have ih := le0_lp (L := L) (d := d) (c := c) hl hwr hQ n (k + 1) (by omega)
    refine Ev.blk 3 (B120_20 _ _ _ _ _ _ _ _ (by first | assumption | omega | decide | exact cmpI_in _ _ | exact ⟨by omega, by omega⟩)) rfl ?_
    refine Ev.ite (fun q => ?_) (fun q => ?_)
    · replace q := of_decide_eq_true q
      exact absurd q (by omega)
    · replace q := of_decide_eq_false q
      refine Ev.blk 8 (B120_27 _ _ _ _ _ _ _ _ (by first | assumption | omega | decide | exact cmpI_in _ _ | exact ⟨by omega, by omega⟩) (by first | assumption | omega | decide | exact cmpI_in _ _ | exact ⟨by omega, by omega⟩)) rfl ?_
      refine Ev.ite (fun q => ?_) (fun q => ?_)
      · replace q := nd_t q
        refine Ev.blk 1 (J120_46 _ _ _ _ _ _ _ _ _ _ _ (show TT L 112 = (2, 32) from rfl)) rfl ?_
        refine Ev.blk 3 (J120_47 _ _ _ _ _ _ _ _ _ _ _ _ (by first | exact (show TT L 112 = (2, 32) from rfl) | omega | exact ⟨by omega, by omega⟩) (by first | exact (show TT L 112 = (2, 32) from rfl) | omega | exact ⟨by omega, by omega⟩) (by first | exact (show TT L 112 = (2, 32) from rfl) | omega | exact ⟨by omega, by omega⟩)) rfl ?_
        exact Ev.mem (fil_st (by omega) (by first | exact one1_t q | exact one1_f q)) ih
      · replace q := nd_f q
        refine Ev.blk 2 (J120_42 _ _ _ _ _ _ _ _ _ _ _ (show TT L 112 = (2, 32) from rfl)) rfl ?_
        refine Ev.blk 3 (J120_47 _ _ _ _ _ _ _ _ _ _ _ _ (by first | exact (show TT L 112 = (2, 32) from rfl) | omega | exact ⟨by omega, by omega⟩) (by first | exact (show TT L 112 = (2, 32) from rfl) | omega | exact ⟨by omega, by omega⟩) (by first | exact (show TT L 112 = (2, 32) from rfl) | omega | exact ⟨by omega, by omega⟩)) rfl ?_
        exact Ev.mem (fil_st (by omega) (by first | exact one1_t q | exact one1_f q)) ih

theorem le1_lp {L : Nat} {V : Mv} {b : Bool} {Q : Option AV → Mv → Bool → Prop} {c n1 : Nat} {G : Nat → Nat → Int} {kq co mc mw : Nat → Int} {lk : Int} {l : Nat} (hc : isK c) (hU : UK V c n1 G kq co mc mw lk) (hB : UB n1 G kq co mc mw lk) (hl : l ≤ 2) (hN : LN V G kq co mc mw lk n1 l) (hQ : ∀ W, ((∀ x, x ≠ 111 → x ≠ 112 → x ≠ 113 → W x = V x) ∧ (∀ j, j < 8 * (l + 1) → W 113 j = V 113 j) ∧ (∀ a, a < n1 → W 113 (8 * (l + 1) + a) = uG G kq co mc mw lk n1 l (one1 (a : Int)))) → Ev L (2 * l + 2) 120 75 [some (.inr (.inr 111)), some (.inr (.inr c)), some (.inl ((l + 1 : Nat) : Int)), some (.inl (((l + 1 : Nat) : Int) * 8)), some (.inl (n1 : Int)), none] [] W b Q) : ∀ (n k : Nat) (W : Mv), k + n = n1 → ((∀ x, x ≠ 111 → x ≠ 112 → x ≠ 113 → W x = V x) ∧ (∀ j, j < 8 * (l + 1) → W 113 j = V 113 j) ∧ (∀ a, a < k → W 113 (8 * (l + 1) + a) = uG G kq co mc mw lk n1 l (one1 (a : Int)))) → Ev L (2 * l + 2) 120 8 [some (.inr (.inr 111)), some (.inr (.inr c)), some (.inl ((l + 1 : Nat) : Int)), some (.inl (((l + 1 : Nat) : Int) * 8)), some (.inl (k : Int)), none] [] W b Q
  | 0, k, W, h, hr => by
    obtain rfl : k = n1 := by omega
    have hcK : c = 4 ∨ c = 14 ∨ c = 29 ∨ c = 44 := hc
    have h8 := hB.1.2.1
    have hw0 : W c 0 = (k : Int) := by rw [hr.1 c (by omega) (by omega) (by omega)]; exact hU.1.1
    refine Ev.blk 4 (B120_8 _ _ _ _ _ _ _ hc ⟨by omega, by omega⟩ (by rw [hw0]; exact ⟨by omega, by omega⟩)) rfl ?_
    rw [hw0]
    refine Ev.ite (fun _ => ?_) (fun z => absurd (of_decide_eq_false z) (by omega))
    exact hQ W hr
  | n + 1, k, W, h, hr => by
    have ih := le1_lp (L := L) hc hU hB hl hN hQ n (k + 1)
    have hcK : c = 4 ∨ c = 14 ∨ c = 29 ∨ c = 44 := hc
    have h8 := hB.1.2.1
    have hU2 : UK W c n1 G kq co mc mw lk := hU.frame (fun x q1 q2 => hr.1 x (by omega) (by omega) (by omega))
    have hw0 := hU2.1.1
    refine Ev.blk 4 (B120_8 _ _ _ _ _ _ _ hc ⟨by omega, by omega⟩ (by rw [hw0]; exact ⟨by omega, by omega⟩)) rfl ?_
    rw [hw0]
    refine Ev.ite (fun z => absurd (of_decide_eq_true z) (by omega)) (fun _ => ?_)
    refine Ev.blk 2 (B120_17 _ _ _ _ _ _ _) rfl ?_
    refine Ev.mem (fil_0 W 112 (8 * (l + 1)) (one1 (k : Int))).symm (le0_lp hl (by omega) ?_ 8 0 rfl)
    obtain ⟨Y, hY⟩ : ∃ Y, Y = fil W 112 (8 * (l + 1)) (one1 (k : Int)) 8 := ⟨_, rfl⟩
    rw [← hY]
    have y1 : ∀ x, x ≠ 112 → Y x = W x := fun x hx => by rw [hY, fil_ne hx]
    have y2 : ∀ a, a < n1 → Y 112 (8 * (l + 1) + a) = one1 (k : Int) a := fun a ha => by rw [hY, fil_at (by omega)]
    have U3 : UK Y c n1 G kq co mc mw lk := hU2.frame (fun x q1 q2 => y1 x (by omega))
    have N3 : LN Y G kq co mc mw lk n1 l := fun l' h1 a ha => by
      rw [y1 113 (by omega), y1 114 (by omega), hr.2.1 _ (by omega), hr.1 114 (by omega) (by omega) (by omega)]
      exact hN l' h1 a ha
    have hwb := wB_b hl
    refine Ev.blk 8 (B120_54 _ _ _ _ _ _ _ _) rfl ?_
    refine Ev.call rfl rfl rfl ((xGC hc hB l hl).1 Y b (one1 (k : Int)) U3 N3 y2 (one1_Wn.le hwb.1)) (by omega) ?_
    rintro v V1 b1 ⟨rfl, rfl, g1, g2, g3⟩
    refine Ev.blk 3 (J120_68 _ _ _ _ _ _ _ _ _ _ _ _ (show TT L 113 = (2, 32) from rfl) ⟨by omega, by omega⟩ (by decide)) rfl ?_
    refine Ev.kill [false, false, false, false, false, true] ?_
    dsimp only [mkl]
    have e0 : (((l + 1 : Nat) : Int) * 8 + (k : Int)).toNat = 8 * (l + 1) + k := by omega
    rw [e0]
    refine ih _ (by omega) ⟨fun x q1 q2 q3 => ?_, fun j hj => ?_, fun a ha => ?_⟩
    · rw [uV_ne q3, g1 x q1 q2, y1 x q2, hr.1 x q1 q2 q3]
    · rw [uV_at, if_neg (by omega), g1 113 (by omega) (by omega), y1 113 (by omega), hr.2.1 j hj]
    · rw [uV_at]
      by_cases e : a = k
      · rw [if_pos (by omega), e]
      · rw [if_neg (by omega), g1 113 (by omega) (by omega), y1 113 (by omega), hr.2.2 a (by omega)]
theorem seV_t {mc mw : Nat → Int} {l a i : Nat} {g : (Nat → Int) → Int} (h : ¬ mw i = -9) : seV mc mw l g a (i + 1) = cond (decide (meV mc mw l g i < seV mc mw l g a i)) (meV mc mw l g i) (seV mc mw l g a i) := by
  show (if ¬ mw i = -9 ∧ meV mc mw l g i < seV mc mw l g a i then meV mc mw l g i else seV mc mw l g a i) = _
  by_cases q : meV mc mw l g i < seV mc mw l g a i
  · rw [if_pos ⟨h, q⟩, decide_eq_true q]
    rfl
  · rw [if_neg (fun z => q z.2), decide_eq_false q]
    rfl
theorem seV_f {mc mw : Nat → Int} {l a i : Nat} {g : (Nat → Int) → Int} (h : mw i = -9) : seV mc mw l g a (i + 1) = seV mc mw l g a i := if_neg (fun z => z.1 h)
theorem le2_lp {L d : Nat} {V : Mv} {b : Bool} {Q : Option AV → Mv → Bool → Prop} {c n1 : Nat} {G : Nat → Nat → Int} {kq co mc mw : Nat → Int} {lk : Int} {l a : Nat} (hc : isK c) (hU : UK V c n1 G kq co mc mw lk) (hB : UB n1 G kq co mc mw lk) (hl : l ≤ 2) (ha : a < n1) (hr0 : ∀ a, a < n1 → V 113 (8 * (l + 1) + a) = uG G kq co mc mw lk n1 l (one1 (a : Int))) (hQ : ∀ W, ((∀ x, x ≠ 114 → W x = V x) ∧ (∀ j, j ≠ 8 * (l + 1) + a → W 114 j = V 114 j) ∧ W 114 (8 * (l + 1) + a) = seV mc mw l (uG G kq co mc mw lk n1 l) a 4) → Ev L (d + 2) 120 158 [some (.inr (.inr 111)), some (.inr (.inr c)), some (.inl ((l + 1 : Nat) : Int)), some (.inl (((l + 1 : Nat) : Int) * 8)), some (.inl (a : Int)), some (.inl (4 : Int))] [] W b Q) : ∀ (n k : Nat) (W : Mv), k + n = 4 → ((∀ x, x ≠ 114 → W x = V x) ∧ (∀ j, j ≠ 8 * (l + 1) + a → W 114 j = V 114 j) ∧ W 114 (8 * (l + 1) + a) = seV mc mw l (uG G kq co mc mw lk n1 l) a k) → Ev L (d + 2) 120 108 [some (.inr (.inr 111)), some (.inr (.inr c)), some (.inl ((l + 1 : Nat) : Int)), some (.inl (((l + 1 : Nat) : Int) * 8)), some (.inl (a : Int)), some (.inl (k : Int))] [] W b Q
  | 0, k, W, h, hr => by
    obtain rfl : k = 4 := by omega
    refine Ev.blk 3 (B120_108 _ _ _ _ _ _ _ _ (by decide)) rfl ?_
    refine Ev.ite (fun _ => ?_) (fun h => absurd h (by decide))
    exact hQ W hr
  | n + 1, k, W, h, hr => by
    have ih := le2_lp (L := L) (d := d) hc hU hB hl ha hr0 hQ n (k + 1)
    have hcK : c = 4 ∨ c = 14 ∨ c = 29 ∨ c = 44 := hc
    have h8 := hB.1.2.1
    have hU2 : UK W c n1 G kq co mc mw lk := hU.frame (fun x q1 q2 => hr.1 x (by omega))
    have hmb := hB.1.2.2.2.2.1
    have hg := uG_bd hB l hl
    have hkb := KG_b hl
    have hme := meV_nn (mw := mw) hg hB.1.2.2.2.2.2 hl
    have hsb := seV_bd (mc := mc) (mw := mw) (l := l) (a := a) (B := KG l * 1) (hg (one1 (a : Int)) 1 one1_Wn) (fun i hi => Or.inr (hme i hi).1) k (by omega)
    have hmk1 := hme k (by omega)
    have e0 : (((l + 1 : Nat) : Int) * 8 + (a : Int)).toNat = 8 * (l + 1) + a := by omega
    refine Ev.blk 3 (B120_108 _ _ _ _ _ _ _ _ ⟨by omega, by omega⟩) rfl ?_
    refine Ev.ite (fun z => absurd (of_decide_eq_true z) (by omega)) (fun _ => ?_)
    refine Ev.blk 2 (B120_114 _ _ _ _ _ _ _ _) rfl ?_
    refine Ev.call rfl rfl (vg rfl rfl (isK_0 hc) (congrArg Prod.fst (isK_T (L := L) hc)) rfl) (x_hasMending (d := d) hc ⟨by omega, by omega⟩ (fun j hj => by have h7 := hmb j.toNat (by omega); rw [hU2.1.2.2.2.1 j.toNat (by omega)]; exact ⟨by omega, by omega⟩)) (by omega) ?_
    rintro v V' b' ⟨rfl, h_, g_⟩
    subst V' b'
    rw [Int.toNat_natCast, hU2.1.2.2.2.1 k (by omega)]
    refine Ev.blk 1 (B120_120 _ _ _ _ _ _ _ _ _ (b01_in _)) rfl ?_
    refine Ev.ite (fun z => ?_) (fun z => ?_)
    · replace z := b01_0 (of_decide_eq_true z)
      refine Ev.blk 2 (B120_152 _ _ _ _ _ _ _ _) rfl ?_
      exact ih W (by omega) ⟨hr.1, hr.2.1, by rw [seV_f (Classical.byContradiction (fun y => z ⟨by omega, by omega, y⟩))]; exact hr.2.2⟩
    · replace z := (b01_1 (of_decide_eq_false z)).2.2
      have hmk := hmb k (by omega)
      have hx : W 113 (8 * (l + 1) + (mw k).toNat) = uG G kq co mc mw lk n1 l (one1 (mw k)) := by
        rw [hr.1 113 (by omega), hr0 (mw k).toNat (by omega), show (((mw k).toNat : Nat) : Int) = mw k by omega]
      refine Ev.blk 15 (B120_123 _ _ _ _ _ _ _ _ ⟨by omega, by omega⟩) rfl ?_
      rw [e0, hr.2.2]
      refine Ev.call rfl rfl rfl (x_mended (d := d) (l := l) (i := k) hc hU2 hB hl (by omega) z hx) (by omega) ?_
      rintro v V' b' ⟨rfl, h_, g_⟩
      subst V' b'
      refine Ev.blk 2 (J120_148 _ _ _ _ _ _ _ _ _ _ _ _ _ (show TT L 114 = (2, 32) from rfl) ⟨by omega, by omega⟩ (show in64 (meV mc mw l (uG G kq co mc mw lk n1 l) k) from ⟨by omega, by omega⟩) ⟨by omega, by omega⟩ (by decide)) rfl ?_
      refine Ev.blk 2 (B120_152 _ _ _ _ _ _ _ _) rfl ?_
      refine ih _ (by omega) ⟨fun x q1 => ?_, fun j hj => ?_, ?_⟩
      · rw [uV_ne q1, hr.1 x q1]
      · rw [uV_at, e0, if_neg hj, hr.2.1 j hj]
      · rw [uV_at, e0, if_pos rfl, seV_t z]
        rfl
theorem le3_lp {L d : Nat} {V : Mv} {b : Bool} {Q : Option AV → Mv → Bool → Prop} {c n1 : Nat} {G : Nat → Nat → Int} {kq co mc mw : Nat → Int} {lk : Int} {l : Nat} (hc : isK c) (hU : UK V c n1 G kq co mc mw lk) (hB : UB n1 G kq co mc mw lk) (hl : l ≤ 2) (hr0 : ∀ a, a < n1 → V 113 (8 * (l + 1) + a) = uG G kq co mc mw lk n1 l (one1 (a : Int))) (hQ : ∀ W, ((∀ x, x ≠ 114 → W x = V x) ∧ (∀ j, j < 8 * (l + 1) → W 114 j = V 114 j) ∧ (∀ a, a < n1 → W 114 (8 * (l + 1) + a) = seV mc mw l (uG G kq co mc mw lk n1 l) a 4)) → Q none W b) : ∀ (n k : Nat) (W : Mv), k + n = n1 → ((∀ x, x ≠ 114 → W x = V x) ∧ (∀ j, j < 8 * (l + 1) → W 114 j = V 114 j) ∧ (∀ a, a < k → W 114 (8 * (l + 1) + a) = seV mc mw l (uG G kq co mc mw lk n1 l) a 4)) → Ev L (d + 2) 120 78 [some (.inr (.inr 111)), some (.inr (.inr c)), some (.inl ((l + 1 : Nat) : Int)), some (.inl (((l + 1 : Nat) : Int) * 8)), some (.inl (k : Int)), none] [] W b Q
  | 0, k, W, h, hr => by
    obtain rfl : k = n1 := by omega
    have hcK : c = 4 ∨ c = 14 ∨ c = 29 ∨ c = 44 := hc
    have h8 := hB.1.2.1
    have hw0 : W c 0 = (k : Int) := by rw [hr.1 c (by omega)]; exact hU.1.1
    refine Ev.blk 4 (B120_78 _ _ _ _ _ _ _ hc ⟨by omega, by omega⟩ (by rw [hw0]; exact ⟨by omega, by omega⟩)) rfl ?_
    rw [hw0]
    refine Ev.ite (fun _ => ?_) (fun z => absurd (of_decide_eq_false z) (by omega))
    exact Ev.ret rfl rfl rfl rfl (hQ W hr)
  | n + 1, k, W, h, hr => by
    have ih := le3_lp (L := L) (d := d) hc hU hB hl hr0 hQ n (k + 1)
    have hcK : c = 4 ∨ c = 14 ∨ c = 29 ∨ c = 44 := hc
    have h8 := hB.1.2.1
    have hU2 : UK W c n1 G kq co mc mw lk := hU.frame (fun x q1 q2 => hr.1 x (by omega))
    have hw0 := hU2.1.1
    have e0 : (((l + 1 : Nat) : Int) * 8 + (k : Int)).toNat = 8 * (l + 1) + k := by omega
    refine Ev.blk 4 (B120_78 _ _ _ _ _ _ _ hc ⟨by omega, by omega⟩ (by rw [hw0]; exact ⟨by omega, by omega⟩)) rfl ?_
    rw [hw0]
    refine Ev.ite (fun z => absurd (of_decide_eq_true z) (by omega)) (fun _ => ?_)
    refine Ev.blk 14 (B120_87 _ _ _ _ _ _ _ ⟨by omega, by omega⟩) rfl ?_
    rw [e0]
    obtain ⟨Y, hY⟩ : ∃ Y, Y = uV W 114 (8 * (l + 1) + k) (W 113 (8 * (l + 1) + k)) := ⟨_, rfl⟩
    rw [← hY]
    have y1 : ∀ x, x ≠ 114 → Y x = W x := fun x hx => by rw [hY, uV_ne hx]
    have U3 : UK Y c n1 G kq co mc mw lk := hU2.frame (fun x q1 q2 => y1 x (by omega))
    refine le2_lp (V := Y) (a := k) hc U3 hB hl (by omega) (fun a ha => by rw [y1 113 (by omega), hr.1 113 (by omega)]; exact hr0 a ha) (fun Z hz => ?_) 4 0 Y rfl ⟨fun _ _ => rfl, fun _ _ => rfl, ?_⟩
    · refine Ev.blk 2 (B120_158 _ _ _ _ _ _ _ _) rfl ?_
      refine Ev.kill [false, false, false, false, false, true] ?_
      dsimp only [mkl]
      refine ih Z (by omega) ⟨fun x q1 => by rw [hz.1 x q1, y1 x q1, hr.1 x q1], fun j hj => ?_, fun a ha => ?_⟩
      · rw [hz.2.1 j (by omega), hY, uV_at, if_neg (by omega), hr.2.1 j hj]
      · by_cases e : a = k
        · rw [e, hz.2.2]
        · rw [hz.2.1 _ (by omega), hY, uV_at, if_neg (by omega), hr.2.2 a (by omega)]
    · rw [hY, uV_at, if_pos rfl, hr.1 113 (by omega), hr0 k (by omega)]
      rfl
theorem x_learn {L : Nat} {V : Mv} {b : Bool} {c n1 : Nat} {G : Nat → Nat → Int} {kq co mc mw : Nat → Int} {lk : Int} {l : Nat} (hc : isK c) (hU : UK V c n1 G kq co mc mw lk) (hB : UB n1 G kq co mc mw lk) (hl : l ≤ 2) (hN : LN V G kq co mc mw lk n1 l) : Ex L (2 * l + 2) 120 [.inr (.inr 111), .inr (.inr c), .inl ((l + 1 : Nat) : Int)] V b (fun v V' b' => v = none ∧ b' = b ∧ (∀ x, ¬ (111 ≤ x ∧ x ≤ 114) → V' x = V x) ∧ LN V' G kq co mc mw lk n1 (l + 1)) := by
  have hcK : c = 4 ∨ c = 14 ∨ c = 29 ∨ c = 44 := hc
  refine Ev.blk 6 (B120_0 _ _ _ _ _) rfl ?_
  refine le1_lp hc hU hB hl hN (fun W hr => ?_) n1 0 V (by omega) ⟨fun _ _ _ _ => rfl, fun _ _ => rfl, fun a ha => absurd ha (by omega)⟩
  refine Ev.blk 2 (B120_75 _ _ _ _ _ _ _) rfl ?_
  refine le3_lp (d := 2 * l) (V := W) hc (hU.frame (fun x q1 q2 => hr.1 x (by omega) (by omega) (by omega))) hB hl hr.2.2 (fun Y hy => ⟨rfl, rfl, fun x hx => ?_, fun l' h1 a ha => ?_⟩) n1 0 W (by omega) ⟨fun _ _ => rfl, fun _ _ => rfl, fun a ha => absurd ha (by omega)⟩
  · rw [hy.1 x (by omega), hr.1 x (by omega) (by omega) (by omega)]
  · by_cases e : l' = l
    · subst e
      rw [hy.1 113 (by omega)]
      exact ⟨hr.2.2 a ha, hy.2.2 a ha⟩
    · have h8 := hB.1.2.1
      rw [hy.1 113 (by omega), hr.2.1 _ (by omega), hy.2.1 _ (by omega), hr.1 114 (by omega) (by omega) (by omega)]
      exact hN l' (by omega) a ha
theorem fu_lp {L : Nat} {V : Mv} {b : Bool} {Q : Option AV → Mv → Bool → Prop} {c n1 : Nat} {G : Nat → Nat → Int} {kq co mc mw : Nat → Int} {lk : Int} {t dd : Nat} (hc : isK c) (hU : UK V c n1 G kq co mc mw lk) (hB : UB n1 G kq co mc mw lk) (hd : dd ≤ 3) (hQ : ∀ W, (∀ x, ¬ (111 ≤ x ∧ x ≤ 114) → W x = V x) → LN W G kq co mc mw lk n1 dd → Ev L 8 119 22 [some (.inr (.inr 111)), some (.inr (.inr c)), some (.inr (.inr t)), some (.inl (dd : Int)), some (.inl ((dd + 1 : Nat) : Int))] [] W b Q) : ∀ (n k : Nat) (W : Mv), k + n = dd → (∀ x, ¬ (111 ≤ x ∧ x ≤ 114) → W x = V x) → LN W G kq co mc mw lk n1 k → Ev L 8 119 3 [some (.inr (.inr 111)), some (.inr (.inr c)), some (.inr (.inr t)), some (.inl (dd : Int)), some (.inl ((k + 1 : Nat) : Int))] [] W b Q
  | 0, k, W, h, h1, h2 => by
    obtain rfl : k = dd := by omega
    refine Ev.blk 3 (B119_3 _ _ _ _ _ _ _ ⟨by omega, by omega⟩ ⟨by omega, by omega⟩) rfl ?_
    refine Ev.ite (fun _ => ?_) (fun z => absurd (of_decide_eq_false z) (by omega))
    exact hQ W h1 h2
  | n + 1, k, W, h, h1, h2 => by
    have hcK : c = 4 ∨ c = 14 ∨ c = 29 ∨ c = 44 := hc
    refine Ev.blk 3 (B119_3 _ _ _ _ _ _ _ ⟨by omega, by omega⟩ ⟨by omega, by omega⟩) rfl ?_
    refine Ev.ite (fun z => absurd (of_decide_eq_true z) (by omega)) (fun _ => ?_)
    refine Ev.blk 3 (B119_9 _ _ _ _ _ _ _) rfl ?_
    refine Ev.call rfl rfl rfl (x_learn (l := k) hc (hU.frame (fun x q1 q2 => h1 x (by omega))) hB (by omega) h2) (by omega) ?_
    rintro v V1 b1 ⟨rfl, rfl, g1, g2⟩
    refine Ev.blk 2 (B119_16 _ _ _ _ _ _ _) rfl ?_
    exact fu_lp hc hU hB hd hQ n (k + 1) V1 (by omega) (fun x hx => by rw [g1 x hx, h1 x hx]) g2
theorem x_unsF {L : Nat} {V : Mv} {b : Bool} {c n1 : Nat} {G : Nat → Nat → Int} {kq co mc mw : Nat → Int} {lk : Int} {t l : Nat} {w : Nat → Int} (hc : isK c) (hU : UK V c n1 G kq co mc mw lk) (hB : UB n1 G kq co mc mw lk) (hT : isT t) (hl : l ≤ 2) (hw : ∀ a, a < n1 → V (t + 1) a = w a) (hW : Wn n1 w (wB l)) : Ex L 8 119 [.inr (.inr 111), .inr (.inr c), .inr (.inr t), .inl ((l + 1 : Nat) : Int)] V b (fun v V' b' => v = none ∧ b' = b ∧ (∀ x, ¬ (111 ≤ x ∧ x ≤ 114) → V' x = V x) ∧ V' 111 0 = (uC G kq co mc mw lk n1 l w).1 ∧ V' 111 1 = (uC G kq co mc mw lk n1 l w).2) := by
  have hcK : c = 4 ∨ c = 14 ∨ c = 29 ∨ c = 44 := hc
  have htK : t = 21 ∨ t = 36 ∨ t = 51 ∨ t = 59 ∨ t = 77 ∨ t = 80 ∨ t = 83 ∨ t = 91 ∨ t = 94 ∨ t = 97 := hT
  have h8 := hB.1.2.1
  refine Ev.blk 2 (B119_0 _ _ _ _ _ _) rfl ?_
  refine fu_lp (dd := l + 1) hc hU hB (by omega) (fun W h1 h2 => ?_) (l + 1) 0 V (by omega) (fun _ _ => rfl) (fun l' h a _ => absurd h (by omega))
  refine Ev.blk 14 (J119_22 _ _ _ _ _ _ _ hT ⟨by omega, by omega⟩) rfl ?_
  rw [show (((l + 1 : Nat) : Int) * 8).toNat = 8 * (l + 1) by omega]
  obtain ⟨Y, hY⟩ : ∃ Y, Y = cV W (t + 1) (0 : Int).toNat 112 (8 * (l + 1)) (8 : Int).toNat := ⟨_, rfl⟩
  rw [← hY]
  have y1 : ∀ x, x ≠ 112 → Y x = W x := fun x hx => by rw [hY, cV_ne hx]
  have y2 : ∀ a, a < n1 → Y 112 (8 * (l + 1) + a) = w a := fun a ha => by
    rw [hY, cV_in (by show 8 * (l + 1) ≤ 8 * (l + 1) + a ∧ 8 * (l + 1) + a < 8 * (l + 1) + 8; omega), h1 (t + 1) (by omega)]
    show V (t + 1) (0 + (8 * (l + 1) + a - 8 * (l + 1))) = w a
    rw [show 0 + (8 * (l + 1) + a - 8 * (l + 1)) = a by omega]
    exact hw a ha
  refine Ev.call rfl rfl rfl ((xGC hc hB l hl).2 Y b w (hU.frame (fun x q1 q2 => by rw [y1 x (by omega), h1 x (by omega)])) (fun l' q1 a q2 => by rw [y1 113 (by omega), y1 114 (by omega)]; exact h2 l' q1 a q2) y2 hW) (by omega) ?_
  rintro v V1 b1 ⟨rfl, rfl, g1, g2, g3, g4⟩
  refine Ev.blk 1 (B119_47 _ _ _ _ _ _ _ _) rfl ?_
  refine Ev.ret rfl rfl rfl rfl ⟨rfl, rfl, fun x hx => ?_, ?_, ?_⟩
  · rw [uV_ne (by omega), g1 x (by omega) (by omega), y1 x (by omega), h1 x hx]
  · rw [uV_at, if_pos rfl]
  · rw [uV_at, if_neg (by omega), g4]
