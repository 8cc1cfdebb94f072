/-! when wear is not seen, the class, 2 (specs38.py) -/
theorem cu1_lp {L d : Nat} {V : Mv} {b : Bool} {Q : Option AV → Mv → Bool → Prop} {c n1 : Nat} {G : Nat → Nat → Int} {kq co mc mw : Nat → Int} {lk : Int} {l : Nat} {x3 x5 : Int} {w : Nat → Int} (hc : isK c) (hU : UK V c n1 G kq co mc mw lk) (hB : UB n1 G kq co mc mw lk) (hl : l ≤ 2) (hw : ∀ a, a < n1 → V 112 (8 * (l + 1) + a) = w a) (hs : ∀ a, a < n1 → V 114 (8 * (l + 1) + a) = seV mc mw l (uG G kq co mc mw lk n1 l) a 4) (hQ : Ev L d 123 81 [some (.inr (.inr 111)), some (.inr (.inr c)), some (.inl ((l + 1 : Nat) : Int)), some (.inr (.inl x3)), none, some (.inl x5), some (.inr (.inl (sumN w n1))), none, some (.inr (.inl (sumN (fun a => w a * seV mc mw l (uG G kq co mc mw lk n1 l) a 4) n1))), none, some (.inl (n1 : Int))] [] V b Q) : ∀ n k : Nat, k + n = n1 → Ev L (d) 123 19 [some (.inr (.inr 111)), some (.inr (.inr c)), some (.inl ((l + 1 : Nat) : Int)), some (.inr (.inl x3)), none, some (.inl x5), some (.inr (.inl (sumN w k))), none, some (.inr (.inl (sumN (fun a => w a * seV mc mw l (uG G kq co mc mw lk n1 l) a 4) k))), none, some (.inl (k : Int))] [] V b Q
  | 0, k, h => by
    obtain rfl : k = n1 := by omega
    have h8 := hB.1.2.1
    have hw0 := hU.1.1
    refine Ev.blk 4 (B123_19 _ _ _ _ _ _ _ _ _ _ (by first | exact hc | omega | (rw [hw0]; exact ⟨by omega, by omega⟩) | exact ⟨by omega, by omega⟩) (by first | exact hc | omega | (rw [hw0]; exact ⟨by omega, by omega⟩) | exact ⟨by omega, by omega⟩) (by first | exact hc | omega | (rw [hw0]; exact ⟨by omega, by omega⟩) | exact ⟨by omega, by omega⟩)) rfl ?_
    refine Ev.ite (fun q => ?_) (fun q => ?_)
    · replace q := of_decide_eq_true q
      rw [hw0] at q
      exact hQ
    · replace q := of_decide_eq_false q
      rw [hw0] at q
      exact absurd q (by omega)
  | n + 1, k, h => by
    have ih := cu1_lp (L := L) (d := d) (x3 := x3) (x5 := x5) hc hU hB hl hw hs hQ n (k + 1) (by omega)
    have h8 := hB.1.2.1
    have hw0 := hU.1.1
    have e0 : (((l + 1 : Nat) : Int) * 8 + (k : Int)).toNat = 8 * (l + 1) + k := by omega
    refine Ev.blk 4 (B123_19 _ _ _ _ _ _ _ _ _ _ (by first | exact hc | omega | (rw [hw0]; exact ⟨by omega, by omega⟩) | exact ⟨by omega, by omega⟩) (by first | exact hc | omega | (rw [hw0]; exact ⟨by omega, by omega⟩) | exact ⟨by omega, by omega⟩) (by first | exact hc | omega | (rw [hw0]; exact ⟨by omega, by omega⟩) | exact ⟨by omega, by omega⟩)) rfl ?_
    refine Ev.ite (fun q => ?_) (fun q => ?_)
    · replace q := of_decide_eq_true q
      rw [hw0] at q
      exact absurd q (by omega)
    · replace q := of_decide_eq_false q
      rw [hw0] at q
      refine Ev.blk 33 (B123_28 _ _ _ _ _ _ _ _ _ _ (by first | assumption | omega | decide | exact cmpI_in _ _ | exact ⟨by omega, by omega⟩)) rfl ?_
      refine Ev.val ?_ rfl ih
      rw [e0, hw k (by omega), hs k (by omega)]
      rfl

theorem acV_t {mc mw : Nat → Int} {n l i : Nat} {g : (Nat → Int) → Int} {w : Nat → Int} (h : ¬ mw i = -9) (h2 : sumN w n * meV mc mw l g i < (acV mc mw n l g w i).1) : acV mc mw n l g w (i + 1) = (sumN w n * meV mc mw l g i, (i : Int) + 1) := if_pos ⟨h, h2⟩
theorem acV_f {mc mw : Nat → Int} {n l i : Nat} {g : (Nat → Int) → Int} {w : Nat → Int} (h : ¬ (¬ mw i = -9 ∧ sumN w n * meV mc mw l g i < (acV mc mw n l g w i).1)) : acV mc mw n l g w (i + 1) = acV mc mw n l g w i := if_neg h
theorem cu2_lp {L d : Nat} {V : Mv} {b : Bool} {Q : Option AV → Mv → Bool → Prop} {c n1 : Nat} {G : Nat → Nat → Int} {kq co mc mw : Nat → Int} {lk : Int} {l : Nat} {x8 : Int} {w : Nat → Int} (hc : isK c) (hU : UK V c n1 G kq co mc mw lk) (hB : UB n1 G kq co mc mw lk) (hl : l ≤ 2) (hr : ∀ a, a < n1 → V 113 (8 * (l + 1) + a) = uG G kq co mc mw lk n1 l (one1 (a : Int))) (hW : Wn n1 w (wB l)) (hQ : Ev L (d + 2) 123 139 [some (.inr (.inr 111)), some (.inr (.inr c)), some (.inl ((l + 1 : Nat) : Int)), some (.inr (.inl (acV mc mw n1 l (uG G kq co mc mw lk n1 l) w 4).1)), none, some (.inl (acV mc mw n1 l (uG G kq co mc mw lk n1 l) w 4).2), some (.inr (.inl (sumN w n1))), none, some (.inr (.inl x8)), none, some (.inl (4 : Int))] [] V b Q) : ∀ n k : Nat, k + n = 4 → Ev L (d + 2) 123 84 [some (.inr (.inr 111)), some (.inr (.inr c)), some (.inl ((l + 1 : Nat) : Int)), some (.inr (.inl (acV mc mw n1 l (uG G kq co mc mw lk n1 l) w k).1)), none, some (.inl (acV mc mw n1 l (uG G kq co mc mw lk n1 l) w k).2), some (.inr (.inl (sumN w n1))), none, some (.inr (.inl x8)), none, some (.inl (k : Int))] [] V b Q
  | 0, k, h => by
    obtain rfl : k = 4 := by omega
    refine Ev.blk 3 (B123_84 _ _ _ _ _ _ _ _ _ _ (by decide)) rfl ?_
    refine Ev.ite (fun _ => ?_) (fun h => absurd h (by decide))
    exact hQ
  | n + 1, k, h => by
    have ih := cu2_lp (L := L) (d := d) (x8 := x8) hc hU hB hl hr hW hQ n (k + 1) (by omega)
    have h8 := hB.1.2.1
    have hg := uG_bd hB l hl
    have hme := meV_nn (mw := mw) hg hB.1.2.2.2.2.2 hl k (by omega)
    have hs := sumN_nn n1 hW.1
    have hwb := wB_b hl
    have hkb := KG_b hl
    have hp := mulb (x := sumN w n1) (y := meV mc mw l (uG G kq co mc mw lk n1 l) k) (A := wB l) (B := 99 * pw 100 l + KG l) ⟨hs, hW.2⟩ hme
    have hac := acV_bd (mw := mw) (mc := mc) (l := l) (n := n1) hs (hg w (wB l) hW) (fun i hi => Or.inr (meV_nn (mw := mw) hg hB.1.2.2.2.2.2 hl i hi).1) k (by omega)
    have hK2 : KG l * wB l = wB l * KG l := Int.mul_comm _ _
    have hmb := hB.1.2.2.2.2.1
    refine Ev.blk 3 (B123_84 _ _ _ _ _ _ _ _ _ _ ⟨by omega, by omega⟩) rfl ?_
    refine Ev.ite (fun z => absurd (of_decide_eq_true z) (by omega)) (fun _ => ?_)
    refine Ev.blk 2 (B123_90 _ _ _ _ _ _ _ _ _ _) rfl ?_
    refine Ev.call rfl rfl (vg rfl rfl (isK_0 hc) (congrArg Prod.fst (isK_T (L := L) hc)) rfl) (x_hasMending (d := d) hc ⟨by omega, by omega⟩ (fun j hj => by have h7 := hmb j.toNat (by omega); rw [hU.1.2.2.2.1 j.toNat (by omega)]; exact ⟨by omega, by omega⟩)) (by omega) ?_
    rintro v V' b' ⟨rfl, h_, g_⟩
    subst V' b'
    rw [Int.toNat_natCast, hU.1.2.2.2.1 k (by omega)]
    refine Ev.blk 1 (B123_96 _ _ _ _ _ _ _ _ _ _ _ (b01_in _)) rfl ?_
    refine Ev.ite (fun z => ?_) (fun z => ?_)
    · replace z := b01_0 (of_decide_eq_true z)
      rw [acV_f (fun y => z ⟨by omega, by omega, y.1⟩)] at ih
      refine Ev.blk 2 (B123_133 _ _ _ _ _ _ _ _ _ _) rfl ?_
      exact ih
    · replace z := (b01_1 (of_decide_eq_false z)).2.2
      have hmk := hmb k (by omega)
      have hx : V 113 (8 * (l + 1) + (mw k).toNat) = uG G kq co mc mw lk n1 l (one1 (mw k)) := by
        rw [hr (mw k).toNat (by omega), show (((mw k).toNat : Nat) : Int) = mw k by omega]
      have hcall := x_mended (L := L) (d := d) (b := b) (l := l) (i := k) hc hU hB hl (by omega) z hx
      refine Ev.blk 5 (B123_99 _ _ _ _ _ _ _ _ _ _) rfl ?_
      refine Ev.call rfl rfl rfl hcall (by omega) ?_
      rintro v V' b' ⟨rfl, h_, g_⟩
      subst V' b'
      refine Ev.blk 4 (B123_109 _ _ _ _ _ _ _ _ _ _ _ _ (show in64 (sumN w n1 * meV mc mw l (uG G kq co mc mw lk n1 l) k) from ⟨by omega, by omega⟩) ⟨by omega, by omega⟩ (cmpI_in _ _)) rfl ?_
      refine Ev.ite (fun y => ?_) (fun y => ?_)
      · have y : (acV mc mw n1 l (uG G kq co mc mw lk n1 l) w k).1 ≤ sumN w n1 * meV mc mw l (uG G kq co mc mw lk n1 l) k := (cmpI_ge _ _).mp (of_decide_eq_true y)
        rw [acV_f (fun y2 => absurd y2.2 (by omega))] at ih
        refine Ev.blk 2 (B123_133 _ _ _ _ _ _ _ _ _ _) rfl ?_
        exact ih
      · have y : ¬ (acV mc mw n1 l (uG G kq co mc mw lk n1 l) w k).1 ≤ sumN w n1 * meV mc mw l (uG G kq co mc mw lk n1 l) k := fun y2 => of_decide_eq_false y ((cmpI_ge _ _).mpr y2)
        rw [acV_t z (by omega)] at ih
        refine Ev.blk 5 (B123_115 _ _ _ _ _ _ _ _ _ _) rfl ?_
        refine Ev.call rfl rfl rfl hcall (by omega) ?_
        rintro v V' b' ⟨rfl, h_, g_⟩
        subst V' b'
        refine Ev.blk 6 (B123_125 _ _ _ _ _ _ _ _ _ _ _ _) rfl ?_
        refine Ev.blk 2 (B123_133 _ _ _ _ _ _ _ _ _ _) rfl ?_
        exact ih
theorem xC_of {L c n1 l : Nat} {G : Nat → Nat → Int} {kq co mc mw : Nat → Int} {lk : Int} (hc : isK c) (hB : UB n1 G kq co mc mw lk) (hl : l ≤ 2) (hX : XG L c n1 G kq co mc mw lk l) : XC L c n1 G kq co mc mw lk l := by
  intro V b w hU hN hw hW
  have h8 := hB.1.2.1
  have hcK : c = 4 ∨ c = 14 ∨ c = 29 ∨ c = 44 := hc
  refine Ev.blk 3 (B123_0 _ _ _ _ _) rfl ?_
  refine Ev.call rfl rfl rfl (hX V b w hU (fun l' h1 a ha => hN l' (by omega) a ha) hw hW) (by omega) ?_
  rintro v V1 b1 ⟨rfl, rfl, g1, g2, g3⟩
  have U1 : UK V1 c n1 G kq co mc mw lk := hU.frame (fun x q1 q2 => g1 x (by omega) (by omega))
  have w1 : ∀ a, a < n1 → V1 112 (8 * (l + 1) + a) = w a := fun a ha => by rw [g2 _ (by omega)]; exact hw a ha
  have hr : ∀ a, a < n1 → V1 113 (8 * (l + 1) + a) = uG G kq co mc mw lk n1 l (one1 (a : Int)) := fun a ha => by rw [g1 113 (by omega) (by omega)]; exact (hN l (by omega) a ha).1
  have hs : ∀ a, a < n1 → V1 114 (8 * (l + 1) + a) = seV mc mw l (uG G kq co mc mw lk n1 l) a 4 := fun a ha => by rw [g1 114 (by omega) (by omega)]; exact (hN l (by omega) a ha).2
  have hg := uG_bd hB l hl
  have hsn := sumN_nn n1 hW.1
  have hwb := wB_b hl
  have hkb := KG_b hl
  have hlk := hB.2.2
  have hme := meV_nn (mw := mw) hg hB.1.2.2.2.2.2 hl
  have hac := acV_bd (mw := mw) (mc := mc) (l := l) (n := n1) hsn (hg w (wB l) hW) (fun i hi => Or.inr (hme i hi).1) 4 (Nat.le_refl _)
  have hK2 : KG l * wB l = wB l * KG l := Int.mul_comm _ _
  have hse := sum_le_mul (w := w) (f := fun a => seV mc mw l (uG G kq co mc mw lk n1 l) a 4) (n := n1) (B := KG l) hW.1 (fun a ha => by
    have := seV_bd (mc := mc) (mw := mw) (l := l) (a := a) (B := KG l * 1) (hg (one1 (a : Int)) 1 one1_Wn) (fun i hi => Or.inr (hme i hi).1) 4 (Nat.le_refl _)
    rw [Int.mul_one] at this
    exact this)
  have hse2 : sumN w n1 * KG l ≤ wB l * KG l := Int.mul_le_mul_of_nonneg_right hW.2 (by omega)
  have fin : ∀ (x3 x5 x8 x10 : Int), x3 = (uC G kq co mc mw lk n1 l w).1 → x5 = (uC G kq co mc mw lk n1 l w).2 → Ev L (2 * l + 2) 123 182 [some (.inr (.inr 111)), some (.inr (.inr c)), some (.inl ((l + 1 : Nat) : Int)), some (.inr (.inl x3)), none, some (.inl x5), some (.inr (.inl (sumN w n1))), none, some (.inr (.inl x8)), none, some (.inl x10)] [] V1 b1 (fun v V' b' => v = some (.inr (.inl (uC G kq co mc mw lk n1 l w).1)) ∧ b' = b1 ∧ (∀ x, x ≠ 111 → x ≠ 112 → V' x = V x) ∧ (∀ j, 8 * (l + 1) ≤ j → V' 112 j = V 112 j) ∧ V' 111 0 = V 111 0 ∧ V' 111 1 = (uC G kq co mc mw lk n1 l w).2) := by
    intro x3 x5 x8 x10 e3 e5
    subst e3 e5
    refine Ev.blk 4 (B123_182 _ _ _ _ _ _ _ _ _ _) rfl ?_
    refine Ev.ret rfl rfl rfl rfl ⟨rfl, rfl, fun x q1 q2 => ?_, fun j hj => ?_, ?_, ?_⟩
    · rw [uV_ne q1, g1 x q1 q2]
    · rw [uV_ne (by omega), g2 j hj]
    · rw [uV_at, if_neg (by omega), g3]
    · rw [uV_at, if_pos rfl]
  refine Ev.blk 9 (B123_6 _ _ _ _ _ _) rfl ?_
  refine cu1_lp hc U1 hB hl w1 hs ?_ n1 0 (by omega)
  refine Ev.blk 2 (B123_81 _ _ _ _ _ _ _ _ _ _) rfl ?_
  refine cu2_lp (d := 2 * l) hc U1 hB hl hr hW ?_ 4 0 rfl
  refine Ev.blk 10 (B123_139 _ _ _ _ _ _ _ _ _ _ hc (by rw [U1.2.2]; exact ⟨by omega, by omega⟩)) rfl ?_
  rw [U1.2.2, show ((l + 1 : Nat) : Int) - 1 = (l : Int) by omega]
  refine Ev.call rfl rfl rfl (x_power (d := 0) (x := 100) (t := l) (by omega)) (by omega) ?_
  rintro v V' b' ⟨rfl, h_, g_⟩
  subst V' b'
  refine Ev.blk 4 (B123_158 _ _ _ _ _ _ _ _ _ _ _ _ _) rfl ?_
  refine Ev.call rfl rfl (vg rfl rfl (isK_0 hc) (congrArg Prod.fst (isK_T (L := L) hc)) rfl) (x_hasLook (d := 0) hc (by rw [U1.2.2]; exact ⟨by omega, by omega⟩)) (by omega) ?_
  rintro v V' b' ⟨rfl, h_, g_⟩
  subst V' b'
  rw [U1.2.2]
  refine Ev.blk 1 (B123_166 _ _ _ _ _ _ _ _ _ _ _ (b01_in _)) rfl ?_
  refine Ev.ite (fun z => ?_) (fun z => ?_)
  · replace z := b01_0 (of_decide_eq_true z)
    have e : uC G kq co mc mw lk n1 l w = acV mc mw n1 l (uG G kq co mc mw lk n1 l) w 4 := if_neg (fun y => z y.1)
    exact fin _ _ _ _ (by rw [e]) (by rw [e])
  · replace z := b01_1 (of_decide_eq_false z)
    have hp := mulb (x := lk) (y := pw 100 l) (A := 9) (B := pw 100 l) (by omega) ⟨by omega, Int.le_refl _⟩
    have hp2 := mulb (x := sumN w n1) (y := lk * pw 100 l) (A := wB l) (B := 9 * pw 100 l) ⟨hsn, hW.2⟩ hp
    rw [← Int.mul_assoc] at hp2
    have hlo : 0 ≤ loV mc mw lk n1 l (uG G kq co mc mw lk n1 l) w ∧ loV mc mw lk n1 l (uG G kq co mc mw lk n1 l) w ≤ 3000000000000000000 := by
      unfold loV
      omega
    refine Ev.blk 4 (B123_169 _ _ _ _ _ _ _ _ _ _ (show in64 (loV mc mw lk n1 l (uG G kq co mc mw lk n1 l) w) from ⟨by omega, by omega⟩) ⟨by omega, by omega⟩ (cmpI_in _ _)) rfl ?_
    refine Ev.ite (fun y => ?_) (fun y => ?_)
    · have y : (acV mc mw n1 l (uG G kq co mc mw lk n1 l) w 4).1 ≤ loV mc mw lk n1 l (uG G kq co mc mw lk n1 l) w := (cmpI_ge _ _).mp (of_decide_eq_true y)
      have e : uC G kq co mc mw lk n1 l w = acV mc mw n1 l (uG G kq co mc mw lk n1 l) w 4 := if_neg (fun y2 => absurd y2.2 (by omega))
      exact fin _ _ _ _ (by rw [e]) (by rw [e])
    · have y : ¬ (acV mc mw n1 l (uG G kq co mc mw lk n1 l) w 4).1 ≤ loV mc mw lk n1 l (uG G kq co mc mw lk n1 l) w := fun y2 => of_decide_eq_false y ((cmpI_ge _ _).mpr y2)
      have e : uC G kq co mc mw lk n1 l w = (loV mc mw lk n1 l (uG G kq co mc mw lk n1 l) w, 5) := if_pos ⟨z, by omega⟩
      refine Ev.blk 4 (B123_176 _ _ _ _ _ _ _ _ _ _) rfl ?_
      exact fin _ _ _ _ (by rw [e]; rfl) (by rw [e])
theorem xGC {L c n1 : Nat} {G : Nat → Nat → Int} {kq co mc mw : Nat → Int} {lk : Int} (hc : isK c) (hB : UB n1 G kq co mc mw lk) : ∀ l, l ≤ 2 → XG L c n1 G kq co mc mw lk l ∧ XC L c n1 G kq co mc mw lk l
  | 0, _ => ⟨xG0 hc hB, xC_of hc hB (by omega) (xG0 hc hB)⟩
  | l + 1, h => by
    have ih := xG_s hc hB (by omega) (xGC (L := L) hc hB l (by omega)).2
    exact ⟨ih, xC_of hc hB h ih⟩
