/-! when wear is not seen, the class (specs37.py) -/
def UK (V : Mv) (c n1 : Nat) (G : Nat → Nat → Int) (kq co mc mw : Nat → Int) (lk : Int) : Prop := PK V c n1 G co mw mc ∧ (∀ j, j < 8 → V (c + 4) j = kq j) ∧ V c 1 = lk
theorem UK.frame {V W : Mv} {c n1 : Nat} {G : Nat → Nat → Int} {kq co mc mw : Nat → Int} {lk : Int} (h : UK V c n1 G kq co mc mw lk) (e : ∀ x, c ≤ x → x ≤ c + 6 → W x = V x) : UK W c n1 G kq co mc mw lk := by
  refine ⟨h.1.frame e, fun j hj => ?_, ?_⟩
  · rw [e (c + 4) (by omega) (by omega)]
    exact h.2.1 j hj
  · rw [e c (by omega) (by omega)]
    exact h.2.2
def wB : Nat → Int
  | 0 => 640000000000000
  | 1 => 800000000000
  | _ => 1000000000
theorem wB_b {l : Nat} (h : l ≤ 2) : 1 ≤ wB l ∧ wB l ≤ 640000000000000 ∧ wB l * (99 * pw 100 l + KG l) ≤ 1000000000000000000 ∧ wB l * KG l ≤ 1000000000000000000 ∧ wB l * (9 * pw 100 l) ≤ 1000000000000000000 := by
  have : l = 0 ∨ l = 1 ∨ l = 2 := by omega
  rcases this with rfl | rfl | rfl <;> decide
theorem wB_s {l : Nat} (h : l ≤ 1) : 800 * wB (l + 1) ≤ wB l := by
  have : l = 0 ∨ l = 1 := by omega
  rcases this with rfl | rfl <;> decide
theorem pw100 {t : Nat} (h : t ≤ 2) : 1 ≤ pw 100 t ∧ pw 100 t ≤ 10000 := by
  have := KG_b h
  omega
theorem Wn.le {n : Nat} {w : Nat → Int} {W X : Int} (h : Wn n w W) (hl : W ≤ X) : Wn n w X := ⟨h.1, Int.le_trans h.2 hl⟩
theorem Wn.cg {n : Nat} {w v : Nat → Int} {W : Int} (h : Wn n w W) (e : ∀ a, a < n → v a = w a) : Wn n v W := ⟨fun a ha => by rw [e a ha]; exact h.1 a ha, by rw [sumN_congr n e]; exact h.2⟩
theorem pu1_lp {L d : Nat} {V : Mv} {b : Bool} {Q : Option AV → Mv → Bool → Prop} {c n1 : Nat} {G : Nat → Nat → Int} {kq co mc mw : Nat → Int} {lk : Int} {l to : Nat} {u : Int} {w : Nat → Int} (hc : isK c) (hU : UK V c n1 G kq co mc mw lk) (hB : UB n1 G kq co mc mw lk) (hl : l ≤ 1) (hto : to < n1) (hw : ∀ a, a < n1 → V 112 (8 * (l + 2) + a) = w a) (hQ : Ev L d 122 63 [some (.inr (.inr 111)), some (.inr (.inr c)), some (.inl ((l + 2 : Nat) : Int)), some (.inl u), some (.inl (to : Int)), some (.inr (.inl (dF G w to))), none, some (.inl ((to + 1 : Nat) : Int))] [] V b Q) : ∀ n k : Nat, k + n = to + 1 → Ev L (d) 122 18 [some (.inr (.inr 111)), some (.inr (.inr c)), some (.inl ((l + 2 : Nat) : Int)), some (.inl u), some (.inl (to : Int)), some (.inr (.inl (sumN (fun fr => w fr * G fr to) k))), none, some (.inl (k : Int))] [] V b Q
  | 0, k, h => by
    obtain rfl : k = to + 1 := by omega
    have h8 := hB.1.2.1
    refine Ev.blk 3 (B122_18 _ _ _ _ _ _ _ _ _ (by first | assumption | omega | decide | exact cmpI_in _ _ | exact ⟨by omega, by omega⟩) (by first | assumption | omega | decide | exact cmpI_in _ _ | exact ⟨by omega, by omega⟩)) rfl ?_
    refine Ev.ite (fun q => ?_) (fun q => ?_)
    · replace q := of_decide_eq_true q
      exact hQ
    · replace q := of_decide_eq_false q
      exact absurd q (by omega)
  | n + 1, k, h => by
    have ih := pu1_lp (L := L) (d := d) (u := u) hc hU hB hl hto hw hQ n (k + 1) (by omega)
    have h8 := hB.1.2.1
    have e0 : (((l + 2 : Nat) : Int) * 8 + (k : Int)).toNat = 8 * (l + 2) + k := by omega
    have e1 : ((k : Int) * 8 + (to : Int)).toNat = 8 * k + to := by omega
    have h2 := hB.1.2.2.1 k to (by omega) (by omega)
    refine Ev.blk 3 (B122_18 _ _ _ _ _ _ _ _ _ (by first | assumption | omega | decide | exact cmpI_in _ _ | exact ⟨by omega, by omega⟩) (by first | assumption | omega | decide | exact cmpI_in _ _ | exact ⟨by omega, by omega⟩)) rfl ?_
    refine Ev.ite (fun q => ?_) (fun q => ?_)
    · replace q := of_decide_eq_true q
      exact absurd q (by omega)
    · replace q := of_decide_eq_false q
      refine Ev.blk 23 (B122_25 _ _ _ _ _ _ _ _ _ (by first | exact hc | omega | (rw [e1, hU.1.2.1 k to (by omega) (by omega)]; exact ⟨by omega, by omega⟩) | exact ⟨by omega, by omega⟩) (by first | exact hc | omega | (rw [e1, hU.1.2.1 k to (by omega) (by omega)]; exact ⟨by omega, by omega⟩) | exact ⟨by omega, by omega⟩) (by first | exact hc | omega | (rw [e1, hU.1.2.1 k to (by omega) (by omega)]; exact ⟨by omega, by omega⟩) | exact ⟨by omega, by omega⟩) (by first | exact hc | omega | (rw [e1, hU.1.2.1 k to (by omega) (by omega)]; exact ⟨by omega, by omega⟩) | exact ⟨by omega, by omega⟩)) rfl ?_
      refine Ev.val ?_ rfl ih
      rw [e0, e1, hw k (by omega), hU.1.2.1 k to (by omega) (by omega)]
      rfl

theorem pu2_lp {L d : Nat} {V : Mv} {b : Bool} {Q : Option AV → Mv → Bool → Prop} {c n1 : Nat} {G : Nat → Nat → Int} {kq co mc mw : Nat → Int} {lk : Int} {l : Nat} {u : Int} {w : Nat → Int} (hc : isK c) (hU : UK V c n1 G kq co mc mw lk) (hB : UB n1 G kq co mc mw lk) (hl : l ≤ 1) (hu : in32 u) (hw : ∀ a, a < n1 → V 112 (8 * (l + 2) + a) = w a) (hQ : Q none (fil V 112 (8 * (l + 1)) (pd G kq w u) n1) b) : ∀ n k : Nat, k + n = n1 → Ev L (d) 122 3 [some (.inr (.inr 111)), some (.inr (.inr c)), some (.inl ((l + 2 : Nat) : Int)), some (.inl u), some (.inl (k : Int)), none, none, none] [] (fil V 112 (8 * (l + 1)) (pd G kq w u) k) b Q
  | 0, k, h => by
    obtain rfl : k = n1 := by omega
    have hcK : c = 4 ∨ c = 14 ∨ c = 29 ∨ c = 44 := hc
    have h8 := hB.1.2.1
    have hw0 : (fil V 112 (8 * (l + 1)) (pd G kq w u) k) c 0 = (k : Int) := by
      rw [fil_ne (by omega)]
      exact hU.1.1
    refine Ev.blk 4 (B122_3 _ _ _ _ _ _ _ (by first | exact hc | omega | (rw [hw0]; exact ⟨by omega, by omega⟩) | exact ⟨by omega, by omega⟩) (by first | exact hc | omega | (rw [hw0]; exact ⟨by omega, by omega⟩) | exact ⟨by omega, by omega⟩) (by first | exact hc | omega | (rw [hw0]; exact ⟨by omega, by omega⟩) | exact ⟨by omega, by omega⟩)) rfl ?_
    refine Ev.ite (fun q => ?_) (fun q => ?_)
    · replace q := of_decide_eq_true q
      rw [hw0] at q
      exact Ev.ret rfl rfl rfl rfl hQ
    · replace q := of_decide_eq_false q
      rw [hw0] at q
      exact absurd q (by omega)
  | n + 1, k, h => by
    have ih := pu2_lp (L := L) (d := d) hc hU hB hl hu hw hQ n (k + 1) (by omega)
    have hcK : c = 4 ∨ c = 14 ∨ c = 29 ∨ c = 44 := hc
    have h8 := hB.1.2.1
    have hU2 : UK (fil V 112 (8 * (l + 1)) (pd G kq w u) k) c n1 G kq co mc mw lk := hU.frame (fun x q1 q2 => fil_ne (by omega))
    have hw0 := hU2.1.1
    have hw2 : ∀ a, a < n1 → (fil V 112 (8 * (l + 1)) (pd G kq w u) k) 112 (8 * (l + 2) + a) = w a := fun a ha => by
      rw [fil_out (by omega)]
      exact hw a ha
    have hq := hU2.2.1 k (by omega)
    have hqb := hB.2.1 k (by omega)
    have e0 : ((((l + 2 : Nat) : Int) - 1) * 8 + (k : Int)).toNat = 8 * (l + 1) + k := by omega
    refine Ev.blk 4 (B122_3 _ _ _ _ _ _ _ (by first | exact hc | omega | (rw [hw0]; exact ⟨by omega, by omega⟩) | exact ⟨by omega, by omega⟩) (by first | exact hc | omega | (rw [hw0]; exact ⟨by omega, by omega⟩) | exact ⟨by omega, by omega⟩) (by first | exact hc | omega | (rw [hw0]; exact ⟨by omega, by omega⟩) | exact ⟨by omega, by omega⟩)) rfl ?_
    refine Ev.ite (fun q => ?_) (fun q => ?_)
    · replace q := of_decide_eq_true q
      rw [hw0] at q
      exact absurd q (by omega)
    · replace q := of_decide_eq_false q
      rw [hw0] at q
      refine Ev.blk 4 (B122_12 _ _ _ _ _ _ _) rfl ?_
      refine pu1_lp (V := fil V 112 (8 * (l + 1)) (pd G kq w u) k) (to := k) hc hU2 hB hl (by omega) hw2 ?_ (k + 1) 0 (by omega)
      refine Ev.blk 17 (B122_63 _ _ _ _ _ _ _ _ _ hc (by omega) hu) rfl ?_
      rw [Int.toNat_natCast, hq]
      refine Ev.ite (fun z => ?_) (fun z => ?_)
      · replace z := of_decide_eq_true z
        refine Ev.blk 3 (J122_96 _ _ _ _ _ _ _ _ _ _ _ _ _ (show TT L 112 = (2, 32) from rfl)) rfl ?_
        refine Ev.blk 5 (J122_101 _ _ _ _ _ _ _ _ _ _ _ _ _ _ (show TT L 112 = (2, 32) from rfl) ⟨by omega, by omega⟩ ⟨by omega, by omega⟩ (by decide)) rfl ?_
        refine Ev.kill [false, false, false, false, false, true, false, true] ?_
        dsimp only [mkl]
        exact Ev.mem (fil_st e0 (kF_0 (w := dF G w) z)) ih
      · replace z := of_decide_eq_false z
        refine Ev.blk 2 (J122_91 _ _ _ _ _ _ _ _ _ _ _ _ _ (show TT L 112 = (2, 32) from rfl)) rfl ?_
        refine Ev.blk 5 (J122_101 _ _ _ _ _ _ _ _ _ _ _ _ _ _ (show TT L 112 = (2, 32) from rfl) ⟨by omega, by omega⟩ ⟨by omega, by omega⟩ (by decide)) rfl ?_
        refine Ev.kill [false, false, false, false, false, true, false, true] ?_
        dsimp only [mkl]
        exact Ev.mem (fil_st e0 (kF_1 (w := dF G w) z)) ih

theorem x_passU {L d : Nat} {V : Mv} {b : Bool} {c n1 : Nat} {G : Nat → Nat → Int} {kq co mc mw : Nat → Int} {lk : Int} {l : Nat} {u : Int} {w : Nat → Int} (hc : isK c) (hU : UK V c n1 G kq co mc mw lk) (hB : UB n1 G kq co mc mw lk) (hl : l ≤ 1) (hu : in32 u) (hw : ∀ a, a < n1 → V 112 (8 * (l + 2) + a) = w a) : Ex L d 122 [.inr (.inr 111), .inr (.inr c), .inl ((l + 2 : Nat) : Int), .inl u] V b (Ans none (fil V 112 (8 * (l + 1)) (pd G kq w u) n1) b) := by
  refine Ev.blk 2 (B122_0 _ _ _ _ _ _) rfl ?_
  exact Ev.mem (fil_0 V 112 (8 * (l + 1)) (pd G kq w u)).symm (pu2_lp hc hU hB hl hu hw ⟨rfl, rfl, rfl⟩ n1 0 (by omega))
theorem x_mended {L d : Nat} {V : Mv} {b : Bool} {c n1 : Nat} {G : Nat → Nat → Int} {kq co mc mw : Nat → Int} {lk : Int} {l i : Nat} {x : Int} (hc : isK c) (hU : UK V c n1 G kq co mc mw lk) (hB : UB n1 G kq co mc mw lk) (hl : l ≤ 2) (hi : i < 4) (hm : ¬ mw i = -9) (hx : V 113 (8 * (l + 1) + (mw i).toNat) = x) : Ex L (d + 1) 124 [.inr (.inr 111), .inr (.inr c), .inl (i : Int), .inl ((l + 1 : Nat) : Int)] V b (Ans (some (.inr (.inl (mc i * pw 100 l + x)))) V b) := by
  have h8 := hB.1.2.1
  have em := hU.1.2.2.2.1 i hi
  have ec := hU.1.2.2.2.2 i hi
  have hmb := hB.1.2.2.2.2.1 i hi
  have hcb := hB.1.2.2.2.2.2 i hi
  have e0 : (((l + 1 : Nat) : Int) * 8 + mw i).toNat = 8 * (l + 1) + (mw i).toNat := by omega
  refine Ev.blk 9 (B124_0 _ _ _ _ _ _ hc (by omega) (by rw [Int.toNat_natCast, ec]; exact ⟨by omega, by omega⟩)) rfl ?_
  rw [Int.toNat_natCast, ec, show ((l + 1 : Nat) : Int) - 1 = (l : Int) by omega]
  refine Ev.call rfl rfl rfl (x_power (d := d) (x := 100) (t := l) (by omega)) (by omega) ?_
  rintro v V' b' ⟨rfl, h_, g_⟩
  subst V' b'
  refine Ev.blk 13 (B124_16 _ _ _ _ _ _ _ _ hc (by omega) (by rw [Int.toNat_natCast, em]; exact ⟨by omega, by omega⟩)) rfl ?_
  rw [Int.toNat_natCast, em, e0, hx]
  exact Ev.ret rfl rfl rfl rfl ⟨rfl, rfl, rfl⟩
/-- levels below l are known -/
def LN (V : Mv) (G : Nat → Nat → Int) (kq co mc mw : Nat → Int) (lk : Int) (n1 l : Nat) : Prop := ∀ l', l' < l → ∀ a, a < n1 → V 113 (8 * (l' + 1) + a) = uG G kq co mc mw lk n1 l' (one1 (a : Int)) ∧ V 114 (8 * (l' + 1) + a) = seV mc mw l' (uG G kq co mc mw lk n1 l') a 4
/-- what going on is to do; and choosing -/
def XG (L c n1 : Nat) (G : Nat → Nat → Int) (kq co mc mw : Nat → Int) (lk : Int) (l : Nat) : Prop := ∀ (V : Mv) (b : Bool) (w : Nat → Int), UK V c n1 G kq co mc mw lk → LN V G kq co mc mw lk n1 l → (∀ a, a < n1 → V 112 (8 * (l + 1) + a) = w a) → Wn n1 w (wB l) → Ex L (2 * l + 1) 121 [.inr (.inr 111), .inr (.inr c), .inl ((l + 1 : Nat) : Int)] V b (fun v V' b' => v = some (.inr (.inl (uG G kq co mc mw lk n1 l w))) ∧ b' = b ∧ (∀ x, x ≠ 111 → x ≠ 112 → V' x = V x) ∧ (∀ j, 8 * (l + 1) ≤ j → V' 112 j = V 112 j) ∧ V' 111 0 = V 111 0)
def XC (L c n1 : Nat) (G : Nat → Nat → Int) (kq co mc mw : Nat → Int) (lk : Int) (l : Nat) : Prop := ∀ (V : Mv) (b : Bool) (w : Nat → Int), UK V c n1 G kq co mc mw lk → LN V G kq co mc mw lk n1 (l + 1) → (∀ a, a < n1 → V 112 (8 * (l + 1) + a) = w a) → Wn n1 w (wB l) → Ex L (2 * l + 2) 123 [.inr (.inr 111), .inr (.inr c), .inl ((l + 1 : Nat) : Int)] V b (fun v V' b' => v = some (.inr (.inl (uC G kq co mc mw lk n1 l w).1)) ∧ b' = b ∧ (∀ x, x ≠ 111 → x ≠ 112 → V' x = V x) ∧ (∀ j, 8 * (l + 1) ≤ j → V' 112 j = V 112 j) ∧ V' 111 0 = V 111 0 ∧ V' 111 1 = (uC G kq co mc mw lk n1 l w).2)
theorem gu_lp {L d : Nat} {V : Mv} {b : Bool} {Q : Option AV → Mv → Bool → Prop} {c n1 : Nat} {G : Nat → Nat → Int} {kq co mc mw : Nat → Int} {lk : Int} {l : Nat} {w : Nat → Int} (hc : isK c) (hU : UK V c n1 G kq co mc mw lk) (hB : UB n1 G kq co mc mw lk) (hl : l ≤ 2) (hw : ∀ a, a < n1 → V 112 (8 * (l + 1) + a) = w a) (hQ : Ev L d 121 44 [some (.inr (.inr 111)), some (.inr (.inr c)), some (.inl ((l + 1 : Nat) : Int)), some (.inr (.inl (cS co n1 w))), none, some (.inl (n1 : Int))] [] V b Q) : ∀ n k : Nat, k + n = n1 → Ev L (d) 121 5 [some (.inr (.inr 111)), some (.inr (.inr c)), some (.inl ((l + 1 : Nat) : Int)), some (.inr (.inl (sumN (fun a => w a * co a) k))), none, some (.inl (k : Int))] [] V b Q
  | 0, k, h => by
    obtain rfl : k = n1 := by omega
    have h8 := hB.1.2.1
    have hw0 := hU.1.1
    refine Ev.blk 4 (B121_5 _ _ _ _ _ _ _ (by first | exact hc | omega | (rw [hw0]; exact ⟨by omega, by omega⟩) | exact ⟨by omega, by omega⟩) (by first | exact hc | omega | (rw [hw0]; exact ⟨by omega, by omega⟩) | exact ⟨by omega, by omega⟩) (by first | exact hc | omega | (rw [hw0]; exact ⟨by omega, by omega⟩) | exact ⟨by omega, by omega⟩)) rfl ?_
    refine Ev.ite (fun q => ?_) (fun q => ?_)
    · replace q := of_decide_eq_true q
      rw [hw0] at q
      exact hQ
    · replace q := of_decide_eq_false q
      rw [hw0] at q
      exact absurd q (by omega)
  | n + 1, k, h => by
    have ih := gu_lp (L := L) (d := d) hc hU hB hl hw hQ n (k + 1) (by omega)
    have h8 := hB.1.2.1
    have hw0 := hU.1.1
    have e0 : (((l + 1 : Nat) : Int) * 8 + (k : Int)).toNat = 8 * (l + 1) + k := by omega
    have h2 := hB.1.2.2.2.1 k (by omega)
    have ec := hU.1.2.2.1 k (by omega)
    refine Ev.blk 4 (B121_5 _ _ _ _ _ _ _ (by first | exact hc | omega | (rw [hw0]; exact ⟨by omega, by omega⟩) | exact ⟨by omega, by omega⟩) (by first | exact hc | omega | (rw [hw0]; exact ⟨by omega, by omega⟩) | exact ⟨by omega, by omega⟩) (by first | exact hc | omega | (rw [hw0]; exact ⟨by omega, by omega⟩) | exact ⟨by omega, by omega⟩)) rfl ?_
    refine Ev.ite (fun q => ?_) (fun q => ?_)
    · replace q := of_decide_eq_true q
      rw [hw0] at q
      exact absurd q (by omega)
    · replace q := of_decide_eq_false q
      rw [hw0] at q
      refine Ev.blk 19 (B121_14 _ _ _ _ _ _ _ (by first | exact hc | omega | (rw [Int.toNat_natCast, ec]; exact ⟨by omega, by omega⟩) | exact ⟨by omega, by omega⟩) (by first | exact hc | omega | (rw [Int.toNat_natCast, ec]; exact ⟨by omega, by omega⟩) | exact ⟨by omega, by omega⟩) (by first | exact hc | omega | (rw [Int.toNat_natCast, ec]; exact ⟨by omega, by omega⟩) | exact ⟨by omega, by omega⟩) (by first | exact hc | omega | (rw [Int.toNat_natCast, ec]; exact ⟨by omega, by omega⟩) | exact ⟨by omega, by omega⟩)) rfl ?_
      refine Ev.val ?_ rfl ih
      rw [e0, hw k (by omega), Int.toNat_natCast, hU.1.2.2.1 k (by omega)]
      rfl

theorem xG0 {L c n1 : Nat} {G : Nat → Nat → Int} {kq co mc mw : Nat → Int} {lk : Int} (hc : isK c) (hB : UB n1 G kq co mc mw lk) : XG L c n1 G kq co mc mw lk 0 := by
  intro V b w hU hN hw hW
  have h8 := hB.1.2.1
  have hcK : c = 4 ∨ c = 14 ∨ c = 29 ∨ c = 44 := hc
  refine Ev.blk 4 (B121_0 _ _ _ _ _) rfl ?_
  refine gu_lp (l := 0) hc hU hB (by omega) hw ?_ n1 0 (by omega)
  refine Ev.blk 5 (B121_44 _ _ _ _ _ _ _) rfl ?_
  refine Ev.call rfl rfl rfl (x_power (d := 0) (x := 100) (t := 0) (by omega)) (by omega) ?_
  rintro v V' b' ⟨rfl, h_, g_⟩
  subst V' b'
  refine Ev.blk 5 (B121_54 _ _ _ _ _ _ _ _ _ (by decide)) rfl ?_
  refine Ev.ite (fun _ => ?_) (fun h => absurd h (by decide))
  refine Ev.blk 1 (B121_97 _ _ _ _ _ _ _) rfl ?_
  refine Ev.ret rfl rfl rfl rfl ⟨?_, rfl, fun _ _ _ => rfl, fun _ _ => rfl, rfl⟩
  show some (Sum.inr (Sum.inl (cS co n1 w * pw 100 0))) = some (Sum.inr (Sum.inl (cS co n1 w * pw 100 0 + 0)))
  rw [Int.add_zero]
theorem xG_s {L c n1 l : Nat} {G : Nat → Nat → Int} {kq co mc mw : Nat → Int} {lk : Int} (hc : isK c) (hB : UB n1 G kq co mc mw lk) (hl : l ≤ 1) (hX : XC L c n1 G kq co mc mw lk l) : XG L c n1 G kq co mc mw lk (l + 1) := by
  intro V b w hU hN hw hW
  have h8 := hB.1.2.1
  have hcK : c = 4 ∨ c = 14 ∨ c = 29 ∨ c = 44 := hc
  refine Ev.blk 4 (B121_0 _ _ _ _ _) rfl ?_
  refine gu_lp (l := l + 1) hc hU hB (by omega) hw ?_ n1 0 (by omega)
  refine Ev.blk 5 (B121_44 _ _ _ _ _ _ _) rfl ?_
  rw [show ((l + 1 + 1 : Nat) : Int) - 1 = ((l + 1 : Nat) : Int) by omega]
  refine Ev.call rfl rfl rfl (x_power (d := 0) (x := 100) (t := l + 1) (by omega)) (by omega) ?_
  rintro v V' b' ⟨rfl, h_, g_⟩
  subst V' b'
  refine Ev.blk 5 (B121_54 _ _ _ _ _ _ _ _ _ ⟨by omega, by omega⟩) rfl ?_
  refine Ev.ite (fun z => absurd (of_decide_eq_true z) (by omega)) (fun _ => ?_)
  refine Ev.blk 4 (B121_61 _ _ _ _ _ _ _) rfl ?_
  refine Ev.call rfl rfl rfl (x_passU (d := 0) (l := l) (u := 1) (w := w) hc hU hB hl (by decide) hw) (by omega) ?_
  rintro v V1 b1 ⟨rfl, h_, g_⟩
  subst b1
  have v1 : ∀ x, x ≠ 112 → V1 x = V x := fun x hx => by rw [h_, fil_ne hx]
  have v2 : ∀ a, a < n1 → V1 112 (8 * (l + 1) + a) = pd G kq w 1 a := fun a ha => by rw [h_, fil_at ha]
  have v3 : ∀ j, 8 * (l + 2) ≤ j → V1 112 j = V 112 j := fun j hj => by rw [h_, fil_out (by omega)]
  have U1 : UK V1 c n1 G kq co mc mw lk := hU.frame (fun x q1 q2 => v1 x (by omega))
  have N1 : LN V1 G kq co mc mw lk n1 (l + 1) := fun l' h1 a ha => by
    rw [v1 113 (by omega), v1 114 (by omega)]
    exact hN l' h1 a ha
  have W1 : ∀ u : Int, Wn n1 (pd G kq w u) (wB l) := fun u => (pd_Wn h8 hB.1.2.2.1 hB.2.1 hW).le (wB_s hl)
  refine Ev.blk 6 (B121_68 _ _ _ _ _ _ _) rfl ?_
  rw [show ((l + 1 + 1 : Nat) : Int) - 1 = ((l + 1 : Nat) : Int) by omega]
  refine Ev.call rfl rfl rfl (hX V1 b (pd G kq w 1) U1 N1 v2 (W1 1)) (by omega) ?_
  rintro v V2 b2 ⟨rfl, rfl, g1, g2, g3, g4⟩
  refine Ev.blk 6 (B121_77 _ _ _ _ _ _ _ _ _) rfl ?_
  have y1 : ∀ x, x ≠ 111 → x ≠ 112 → V2 x = V x := fun x q1 q2 => by rw [g1 x q1 q2, v1 x q2]
  have y2 : ∀ a, a < n1 → V2 112 (8 * (l + 2) + a) = w a := fun a ha => by
    rw [g2 _ (by omega), v3 _ (by omega)]
    exact hw a ha
  have U2 : UK V2 c n1 G kq co mc mw lk := hU.frame (fun x q1 q2 => y1 x (by omega) (by omega))
  refine Ev.call rfl rfl rfl (x_passU (d := 0) (l := l) (u := 0) (w := w) hc U2 hB hl (by decide) y2) (by omega) ?_
  rintro v V3 b3 ⟨rfl, h3_, g3_⟩
  subst b3
  have z1 : ∀ x, x ≠ 112 → V3 x = V2 x := fun x hx => by rw [h3_, fil_ne hx]
  have z2 : ∀ a, a < n1 → V3 112 (8 * (l + 1) + a) = pd G kq w 0 a := fun a ha => by rw [h3_, fil_at ha]
  have z3 : ∀ j, 8 * (l + 2) ≤ j → V3 112 j = V2 112 j := fun j hj => by rw [h3_, fil_out (by omega)]
  have U3 : UK V3 c n1 G kq co mc mw lk := U2.frame (fun x q1 q2 => z1 x (by omega))
  have N3 : LN V3 G kq co mc mw lk n1 (l + 1) := fun l' h1 a ha => by
    rw [z1 113 (by omega), z1 114 (by omega), y1 113 (by omega) (by omega), y1 114 (by omega) (by omega)]
    exact hN l' h1 a ha
  refine Ev.blk 6 (B121_86 _ _ _ _ _ _ _) rfl ?_
  rw [show ((l + 1 + 1 : Nat) : Int) - 1 = ((l + 1 : Nat) : Int) by omega]
  refine Ev.call rfl rfl rfl (hX V3 b2 (pd G kq w 0) U3 N3 z2 (W1 0)) (by omega) ?_
  rintro v V4 b4 ⟨rfl, rfl, k1, k2, k3, k4⟩
  refine Ev.blk 2 (B121_95 _ _ _ _ _ _ _ _ _) rfl ?_
  refine Ev.blk 1 (B121_97 _ _ _ _ _ _ _) rfl ?_
  refine Ev.ret rfl rfl rfl rfl ⟨?_, rfl, fun x q1 q2 => ?_, fun j hj => ?_, ?_⟩
  · show some (Sum.inr (Sum.inl (cS co n1 w * pw 100 (l + 1) + (uC G kq co mc mw lk n1 l (pd G kq w 1)).1 + (uC G kq co mc mw lk n1 l (pd G kq w 0)).1))) = some (Sum.inr (Sum.inl (cS co n1 w * pw 100 (l + 1) + ((uC G kq co mc mw lk n1 l (pd G kq w 1)).1 + (uC G kq co mc mw lk n1 l (pd G kq w 0)).1))))
    rw [Int.add_assoc]
  · rw [k1 x q1 q2, z1 x q2, y1 x q1 q2]
  · rw [k2 j (by omega), z3 j (by omega), g2 j (by omega), v3 j (by omega)]
  · rw [k3, z1 111 (by omega), g3, v1 111 (by omega)]
