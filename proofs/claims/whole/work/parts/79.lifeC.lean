/-! how long till it breaks, the class (specs34.py) -/
theorem Fp_s {lv : Nat → Int} {k : Nat} : Fp lv (k + 1) = Fp lv k * oP lv k := rfl
theorem SM_congr {t : Nat → Nat → Int} {I J : Nat → Int} {w k : Nat} (h : ∀ i, i < k → I (w + 1 + i) = J (w + 1 + i)) : SM t I w k = SM t J w k := by
  unfold SM
  exact sumN_congr k (fun i hi => by rw [h i hi])
theorem bad_congr {t : Nat → Nat → Int} {I J : Nat → Int} {w k : Nat} (h : ∀ i, i < k → I (w + 1 + i) = J (w + 1 + i)) : bad t I w k ↔ bad t J w k := by
  unfold bad
  constructor
  · rintro ⟨i, h1, h2, h3⟩
    exact ⟨i, h1, h2, by rw [← h i h1]; exact h3⟩
  · rintro ⟨i, h1, h2, h3⟩
    exact ⟨i, h1, h2, by rw [h i h1]; exact h3⟩
theorem lfE_congr {n : Nat} {sc : Int} {t : Nat → Nat → Int} {lv I J : Nat → Int} {w : Nat} (h : ∀ b, w ≤ b → b < n → I b = J b) (hE : lfE n sc t lv I w) (hw : w < n) : lfE n sc t lv J w := by
  have h2 : ∀ i, i < n - 1 - w → I (w + 1 + i) = J (w + 1 + i) := fun i hi => h _ (by omega) (by omega)
  unfold lfE at hE ⊢
  rw [← h w (Nat.le_refl _) hw, ← SM_congr h2, ← bad_congr h2]
  exact hE
theorem bad_s {t : Nat → Nat → Int} {I : Nat → Int} {w k : Nat} (h : ¬ bad t I w k) (h1 : ¬ (0 < t w (w + 1 + k) ∧ I (w + 1 + k) < 0)) : ¬ bad t I w (k + 1) := by
  rintro ⟨i, a1, a2, a3⟩
  by_cases e : i = k
  · subst e
    exact h1 ⟨a2, a3⟩
  · exact h ⟨i, by omega, a2, a3⟩
theorem bad_m {t : Nat → Nat → Int} {I : Nat → Int} {w k k' : Nat} (h : bad t I w k) (hk : k ≤ k') : bad t I w k' := by
  obtain ⟨i, a1, a2⟩ := h
  exact ⟨i, by omega, a2⟩
theorem lfK_bd {n : Nat} {t : Nat → Nat → Int} {lv I : Nat → Int} (hH : lfH n t lv) {w : Nat} (h : lfK n t lv I w) : I w = -9 ∨ 0 ≤ I w ∧ I w ≤ 700000000 := by
  rcases h with h | h
  · exact Or.inl h
  · right
    have h1 := Fp_n hH
    have h8 := hH.2.1
    have h2 : 10 * Fp lv n * ((n - 1 - w : Nat) : Int) ≤ 10 * Fp lv n * 7 := Int.mul_le_mul_of_nonneg_left (by omega) (by omega)
    have h3 := h.2.1
    omega
theorem SM_in {n : Nat} {t : Nat → Nat → Int} {lv I : Nat → Int} (hH : lfH n t lv) {w : Nat} (hw : w + 1 < n) (hK : ∀ b, w < b → b < n → lfK n t lv I b) {k : Nat} (hk : k ≤ n - 1 - w) (hb : ¬ bad t I w k) : 0 ≤ SM t I w k ∧ SM t I w k ≤ 72 * 700000000 := by
  have h8 := hH.2.1
  have tn : ∀ i, i < k → 0 ≤ t w (w + 1 + i) ∧ t w (w + 1 + i) ≤ 9 := fun i hi => hH.2.2.2.1 w (w + 1 + i) (by omega) (by omega) (by omega)
  have h1 := SM_bd (t := t) (I := I) (w := w) (M := 700000000) (by omega) k (fun i hi => (tn i hi).1) (fun i hi => by
    by_cases z : t w (w + 1 + i) = 0
    · exact Or.inl z
    · right
      have z2 := tn i hi
      rcases lfK_bd hH (hK (w + 1 + i) (by omega) (by omega)) with y | y
      · exact absurd ⟨i, hi, by omega, by omega⟩ hb
      · exact y)
  have h2 := sumN_bd (f := fun i => t w (w + 1 + i)) (B := 9) k (fun i hi => tn i hi)
  have h3 : sumN (fun i => t w (w + 1 + i)) k * 700000000 ≤ 72 * 700000000 := Int.mul_le_mul_of_nonneg_right (by omega) (by omega)
  omega
theorem scl_lp {L d : Nat} {V : Mv} {b : Bool} {Q : Option AV → Mv → Bool → Prop} {c n1 w : Nat} {t : Nat → Nat → Int} {lv : Nat → Int} {sc : Int} (hc : isK c) (hH : lfH n1 t lv) (hw0 : V c 0 = (n1 : Int)) (ht : ∀ i j, i < 8 → j < 8 → V (c + 1) (8 * i + j) = t i j) (hlv : ∀ i, i < 8 → V (c + 2) i = lv i) (hw : w + 1 < n1) (hsc : 1 ≤ sc ∧ sc ≤ 10000000) (hl : ¬ lv w = 0) (hK : ∀ x, w < x → x < n1 → lfK n1 t lv (V 119) x) (hQ1 : bad t (V 119) w (n1 - 1 - w) → Q (some (.inr (.inl (-9)))) V b) (hQ2 : ¬ bad t (V 119) w (n1 - 1 - w) → Q (some (.inr (.inl (Int.tdiv (10 * sc + SM t (V 119) w (n1 - 1 - w)) (lv w))))) V b) : ∀ n k : Nat, k + n = n1 - 1 - w → ¬ bad t (V 119) w k → Ev L d 76 25 [some (.inr (.inr c)), some (.inl (w : Int)), some (.inr (.inl sc)), none, some (.inr (.inr 119)), some (.inr (.inl (10 * sc + SM t (V 119) w k))), none, some (.inl ((w + 1 + k : Nat) : Int)), none] [] V b Q
  | 0, k, h, hb => by
    obtain rfl : k = n1 - 1 - w := by omega
    have h8 := hH.2.1
    have hS := SM_in hH hw hK (Nat.le_refl _) hb
    have hlb := hH.2.2.1 w (by omega)
    refine Ev.blk 4 (B76_25 _ _ _ _ _ _ _ _ hc ⟨by omega, by omega⟩ (by rw [hw0]; exact ⟨by omega, by omega⟩)) rfl ?_
    rw [hw0]
    refine Ev.ite (fun _ => ?_) (fun z => absurd (of_decide_eq_false z) (by omega))
    refine Ev.blk 7 (B76_87 _ _ _ _ _ _ _ _ hc (by omega) (by rw [Int.toNat_natCast, hlv w (by omega)]; exact ⟨by omega, by omega⟩) ⟨by omega, by omega⟩ (by rw [Int.toNat_natCast, hlv w (by omega)]; exact ⟨by omega, by omega⟩) (by rw [Int.toNat_natCast, hlv w (by omega)]; exact hl)) rfl ?_
    rw [Int.toNat_natCast, hlv w (by omega)]
    exact Ev.ret rfl rfl rfl rfl (hQ2 hb)
  | n + 1, k, h, hb => by
    have ih := scl_lp (L := L) (d := d) hc hH hw0 ht hlv hw hsc hl hK hQ1 hQ2 n (k + 1) (by omega)
    have h8 := hH.2.1
    have e0 : ((w : Int) * 8 + ((w + 1 + k : Nat) : Int)).toNat = 8 * w + (w + 1 + k) := by omega
    have et := ht w (w + 1 + k) (by omega) (by omega)
    have tb := hH.2.2.2.1 w (w + 1 + k) (by omega) (by omega) (by omega)
    have Ib := lfK_bd hH (hK (w + 1 + k) (by omega) (by omega))
    have go : ∀ x8 : Int, x8 = t w (w + 1 + k) → ¬ (0 < t w (w + 1 + k) ∧ V 119 (w + 1 + k) < 0) → Ev L d 76 67 [some (.inr (.inr c)), some (.inl (w : Int)), some (.inr (.inl sc)), none, some (.inr (.inr 119)), some (.inr (.inl (10 * sc + SM t (V 119) w k))), none, some (.inl ((w + 1 + k : Nat) : Int)), some (.inl x8)] [] V b Q := by
      intro x8 hx hn
      subst hx
      refine Ev.blk 11 (B76_67 _ _ _ _ _ _ _ _ _ ⟨by omega, by omega⟩ (by omega)) rfl ?_
      refine Ev.kill [false, false, false, false, false, false, false, false, true] ?_
      dsimp only [mkl]
      rw [Int.toNat_natCast, Int.add_assoc]
      exact ih (bad_s hb hn)
    refine Ev.blk 4 (B76_25 _ _ _ _ _ _ _ _ hc ⟨by omega, by omega⟩ (by rw [hw0]; exact ⟨by omega, by omega⟩)) rfl ?_
    rw [hw0]
    refine Ev.ite (fun z => absurd (of_decide_eq_true z) (by omega)) (fun _ => ?_)
    refine Ev.blk 11 (B76_34 _ _ _ _ _ _ _ _ hc (by omega) (by rw [e0, et]; exact ⟨by omega, by omega⟩)) rfl ?_
    rw [e0, et]
    refine Ev.ite (fun q => ?_) (fun q => ?_)
    · replace q := of_decide_eq_true q
      exact go _ rfl (by omega)
    · replace q := of_decide_eq_false q
      refine Ev.blk 6 (B76_53 _ _ _ _ _ _ _ _ _ (by omega) (by rw [Int.toNat_natCast]; exact ⟨by omega, by omega⟩) (cmpI_in _ _)) rfl ?_
      rw [Int.toNat_natCast]
      refine Ev.ite (fun q2 => ?_) (fun q2 => ?_)
      · replace q2 := (cmpI_ge _ _).mp (of_decide_eq_true q2)
        exact go _ rfl (by omega)
      · have q2 : ¬ 0 ≤ V 119 (w + 1 + k) := fun z => of_decide_eq_false q2 ((cmpI_ge _ _).mpr z)
        refine Ev.blk 1 (B76_63 _ _ _ _ _ _ _ _ _) rfl ?_
        exact Ev.ret rfl rfl rfl rfl (hQ1 ⟨k, by omega, by omega, by omega⟩)
theorem x_scl {L d : Nat} {V : Mv} {b : Bool} {c n1 w : Nat} {t : Nat → Nat → Int} {lv : Nat → Int} {sc : Int} (hc : isK c) (hH : lfH n1 t lv) (hw0 : V c 0 = (n1 : Int)) (ht : ∀ i j, i < 8 → j < 8 → V (c + 1) (8 * i + j) = t i j) (hlv : ∀ i, i < 8 → V (c + 2) i = lv i) (hw : w + 1 < n1) (hsc : 1 ≤ sc ∧ sc ≤ 10000000) (hK : ∀ x, w < x → x < n1 → lfK n1 t lv (V 119) x) : Ex L d 76 [.inr (.inr c), .inl (w : Int), .inr (.inl sc), .inr (.inr 119)] V b (fun v V' b' => (∃ z : Int, v = some (.inr (.inl z)) ∧ V' = V ∧ b' = b ∧ ((lv w = 0 ∨ bad t (V 119) w (n1 - 1 - w)) → z = -9) ∧ (¬ (lv w = 0 ∨ bad t (V 119) w (n1 - 1 - w)) → z = Int.tdiv (10 * sc + SM t (V 119) w (n1 - 1 - w)) (lv w)))) := by
  have h8 := hH.2.1
  have hlb := hH.2.2.1 w (by omega)
  refine Ev.blk 5 (B76_0 _ _ _ _ _ _ hc (by omega) (by rw [Int.toNat_natCast, hlv w (by omega)]; exact ⟨by omega, by omega⟩)) rfl ?_
  rw [Int.toNat_natCast, hlv w (by omega)]
  refine Ev.ite (fun q => ?_) (fun q => ?_)
  · replace q := nd_t q
    refine Ev.blk 8 (B76_13 _ _ _ _ _ _) rfl ?_
    refine Ev.val (ls' := [some (.inr (.inr c)), some (.inl (w : Int)), some (.inr (.inl sc)), none, some (.inr (.inr 119)), some (.inr (.inl (10 * sc + SM t (V 119) w 0))), none, some (.inl ((w + 1 + 0 : Nat) : Int)), none]) ?_ rfl (scl_lp hc hH hw0 ht hlv hw hsc q hK (fun hb => ⟨_, rfl, rfl, rfl, fun _ => rfl, fun z => absurd (Or.inr hb) z⟩) (fun hb => ⟨_, rfl, rfl, rfl, fun z => absurd z (fun y => y.elim q hb), fun _ => rfl⟩) (n1 - 1 - w) 0 (by omega) (fun z => by obtain ⟨i, hi, _⟩ := z; omega))
    rw [show SM t (V 119) w 0 = 0 from rfl, Int.add_zero]
    rfl
  · replace q := nd_f q
    refine Ev.blk 1 (B76_9 _ _ _ _ _ _) rfl ?_
    exact Ev.ret rfl rfl rfl rfl ⟨_, rfl, rfl, rfl, fun _ => rfl, fun z => absurd (Or.inl q) z⟩
theorem fl1_lp {L d : Nat} {V : Mv} {b : Bool} {Q : Option AV → Mv → Bool → Prop} {c n1 : Nat} {t : Nat → Nat → Int} {lv : Nat → Int} (hc : isK c) (hH : lfH n1 t lv) (hw0 : V c 0 = (n1 : Int)) (ht : ∀ i j, i < 8 → j < 8 → V (c + 1) (8 * i + j) = t i j) (hlv : ∀ i, i < 8 → V (c + 2) i = lv i) (hQ : Ev L d 75 45 [some (.inr (.inr c)), some (.inr (.inr 119)), some (.inr (.inl (Fp lv n1))), none, some (.inl (n1 : Int))] [] V b Q) : ∀ n k : Nat, k + n = n1 → Ev L (d) 75 5 [some (.inr (.inr c)), some (.inr (.inr 119)), some (.inr (.inl (Fp lv k))), none, some (.inl (k : Int))] [] V b Q
  | 0, k, h => by
    obtain rfl : k = n1 := by omega
    have h8 := hH.2.1
    refine Ev.blk 4 (B75_5 _ _ _ _ _ _ (by first | exact hc | omega | (rw [hw0]; exact ⟨by omega, by omega⟩) | exact ⟨by omega, by omega⟩) (by first | exact hc | omega | (rw [hw0]; exact ⟨by omega, by omega⟩) | exact ⟨by omega, by omega⟩) (by first | exact hc | omega | (rw [hw0]; exact ⟨by omega, by omega⟩) | exact ⟨by omega, by omega⟩)) rfl ?_
    refine Ev.ite (fun q => ?_) (fun q => ?_)
    · replace q := of_decide_eq_true q
      rw [hw0] at q
      exact hQ
    · replace q := of_decide_eq_false q
      rw [hw0] at q
      exact absurd q (by omega)
  | n + 1, k, h => by
    have ih := fl1_lp (L := L) (d := d) hc hH hw0 ht hlv hQ n (k + 1) (by omega)
    have h8 := hH.2.1
    have el := hlv k (by omega)
    have lb := hH.2.2.1 k (by omega)
    refine Ev.blk 4 (B75_5 _ _ _ _ _ _ (by first | exact hc | omega | (rw [hw0]; exact ⟨by omega, by omega⟩) | exact ⟨by omega, by omega⟩) (by first | exact hc | omega | (rw [hw0]; exact ⟨by omega, by omega⟩) | exact ⟨by omega, by omega⟩) (by first | exact hc | omega | (rw [hw0]; exact ⟨by omega, by omega⟩) | exact ⟨by omega, by omega⟩)) rfl ?_
    refine Ev.ite (fun q => ?_) (fun q => ?_)
    · replace q := of_decide_eq_true q
      rw [hw0] at q
      exact absurd q (by omega)
    · replace q := of_decide_eq_false q
      rw [hw0] at q
      refine Ev.blk 6 (B75_14 _ _ _ _ _ _ (by first | exact hc | omega | (rw [Int.toNat_natCast, el]; exact ⟨by omega, by omega⟩) | exact ⟨by omega, by omega⟩) (by first | exact hc | omega | (rw [Int.toNat_natCast, el]; exact ⟨by omega, by omega⟩) | exact ⟨by omega, by omega⟩) (by first | exact hc | omega | (rw [Int.toNat_natCast, el]; exact ⟨by omega, by omega⟩) | exact ⟨by omega, by omega⟩)) rfl ?_
      refine Ev.ite (fun q => ?_) (fun q => ?_)
      · replace q := of_decide_eq_true q
        rw [Int.toNat_natCast, el] at q
        refine Ev.blk 1 (B75_36 _ _ _ _ _ _ _) rfl ?_
        refine Ev.blk 4 (B75_37 _ _ _ _ _ _ _ _) rfl ?_
        refine Ev.val ?_ rfl ih
        rw [Fp_s]
        unfold oP
        first | rw [if_pos (by omega)] | rw [if_neg (by omega)]
        try rw [Int.toNat_natCast, el]
        rfl
      · replace q := of_decide_eq_false q
        rw [Int.toNat_natCast, el] at q
        refine Ev.blk 6 (B75_25 _ _ _ _ _ _ _ (by first | exact hc | omega | (rw [Int.toNat_natCast, el]; exact ⟨by omega, by omega⟩) | exact ⟨by omega, by omega⟩) (by first | exact hc | omega | (rw [Int.toNat_natCast, el]; exact ⟨by omega, by omega⟩) | exact ⟨by omega, by omega⟩) (by first | exact hc | omega | (rw [Int.toNat_natCast, el]; exact ⟨by omega, by omega⟩) | exact ⟨by omega, by omega⟩)) rfl ?_
        refine Ev.blk 4 (B75_37 _ _ _ _ _ _ _ _) rfl ?_
        refine Ev.val ?_ rfl ih
        rw [Fp_s]
        unfold oP
        first | rw [if_pos (by omega)] | rw [if_neg (by omega)]
        try rw [Int.toNat_natCast, el]
        rfl

theorem fl2_lp {L d : Nat} {V : Mv} {b : Bool} {Q : Option AV → Mv → Bool → Prop} {c n1 : Nat} {t : Nat → Nat → Int} {lv : Nat → Int} (hc : isK c) (hH : lfH n1 t lv) (hw0 : V c 0 = (n1 : Int)) (ht : ∀ i j, i < 8 → j < 8 → V (c + 1) (8 * i + j) = t i j) (hlv : ∀ i, i < 8 → V (c + 2) i = lv i) (hQ : ∀ W, ((∀ x, x ≠ 119 → W x = V x) ∧ (∀ w, 0 ≤ w → w < n1 → lfE n1 (Fp lv n1) t lv (W 119) w)) → Q (some (.inr (.inl (Fp lv n1)))) W b) : ∀ (n : Nat) (W : Mv), n ≤ 8 → ((∀ x, x ≠ 119 → W x = V x) ∧ (∀ w, n ≤ w → w < n1 → lfE n1 (Fp lv n1) t lv (W 119) w)) → Ev L (d + 1) 75 49 [some (.inr (.inr c)), some (.inr (.inr 119)), some (.inr (.inl (Fp lv n1))), none, some (.inl (((n : Nat) : Int) - 1))] [] W b Q
  | 0, W, h, hr => by
    refine Ev.blk 2 (B75_49 _ _ _ _ _ _ (by decide)) rfl ?_
    refine Ev.ite (fun _ => ?_) (fun h => absurd h (by decide))
    refine Ev.blk 1 (B75_87 _ _ _ _ _ _) rfl ?_
    exact Ev.ret rfl rfl rfl rfl (hQ W hr)
  | n + 1, W, h, hr => by
    have ih := fl2_lp (L := L) (d := d) hc hH hw0 ht hlv hQ n
    have hcK : c = 4 ∨ c = 14 ∨ c = 29 ∨ c = 44 := hc
    have h8 := hH.2.1
    have hn2 := hH.1
    have hw1 : W c 0 = (n1 : Int) := by rw [hr.1 c (by omega)]; exact hw0
    rw [show (((n + 1 : Nat) : Int) - 1) = (n : Int) by omega]
    have fin80 : ∀ z : Int, lfE n1 (Fp lv n1) t lv (uV W 119 n z 119) n ∨ n1 ≤ n → Ev L (d + 1) 75 80 [some (.inr (.inr c)), some (.inr (.inr 119)), some (.inr (.inl (Fp lv n1))), none, some (.inl (n : Int))] [.inr (.inl z), .inl (n : Int), .inr (.inr 119)] W b Q := by
      intro z hz
      refine Ev.blk 3 (B75_80 _ _ _ _ _ _ _ _ (by omega)) rfl ?_
      rw [Int.toNat_natCast]
      refine ih _ (by omega) ⟨fun x hx => by rw [uV_ne hx]; exact hr.1 x hx, fun w h1 h2 => ?_⟩
      by_cases e : w = n
      · subst e
        exact hz.resolve_right (by omega)
      · exact lfE_congr (fun x q1 q2 => by rw [uV_at, if_neg (by omega)]) (hr.2 w (by omega) h2) h2
    refine Ev.blk 2 (B75_49 _ _ _ _ _ _ ⟨by omega, by omega⟩) rfl ?_
    refine Ev.ite (fun q => absurd (of_decide_eq_true q) (by omega)) (fun _ => ?_)
    refine Ev.blk 8 (B75_54 _ _ _ _ _ _ hc ⟨by omega, by omega⟩ (by rw [hw1]; exact ⟨by omega, by omega⟩)) rfl ?_
    rw [hw1]
    refine Ev.ite (fun q => ?_) (fun q => ?_)
    · replace q := of_decide_eq_true q
      refine Ev.blk 1 (B75_79 _ _ _ _ _ _ _) rfl ?_
      refine fin80 0 ?_
      by_cases e : n + 1 = n1
      · left
        exact ⟨fun _ => by rw [uV_at, if_pos rfl], fun z => absurd z (by omega)⟩
      · right
        omega
    · replace q := of_decide_eq_false q
      have hK : ∀ x, n < x → x < n1 → lfK n1 t lv (W 119) x := fun x q1 q2 => by
        have := lfK_of hH (w0 := n + 1) hr.2 (n1 - 1 - x) (by omega) (by omega)
        rw [show n1 - 1 - (n1 - 1 - x) = x by omega] at this
        exact this
      refine Ev.blk 4 (B75_68 _ _ _ _ _ _ _) rfl ?_
      refine Ev.call rfl rfl (vg rfl rfl (isK_0 hc) (congrArg Prod.fst (isK_T (L := L) hc)) rfl) (x_scl (d := d) (w := n) hc hH hw1 (fun i j hi hj => by rw [hr.1 _ (by omega)]; exact ht i j hi hj) (fun i hi => by rw [hr.1 _ (by omega)]; exact hlv i hi) (by omega) (Fp_n hH) hK) (by omega) ?_
      rintro v V' b' ⟨z, rfl, h_, g_, hz1, hz2⟩
      subst V' b'
      refine Ev.blk 1 (B75_76 _ _ _ _ _ _ _ _) rfl ?_
      refine fin80 z (Or.inl ⟨fun y => absurd y (by omega), fun _ => ?_⟩)
      have e2 : ∀ i, i < n1 - 1 - n → uV W 119 n z 119 (n + 1 + i) = W 119 (n + 1 + i) := fun i hi => by rw [uV_at, if_neg (by omega)]
      rw [SM_congr e2, bad_congr e2, uV_at, if_pos rfl]
      exact ⟨hz1, hz2⟩
theorem x_lives {L d : Nat} {V : Mv} {b : Bool} {c n1 : Nat} {t : Nat → Nat → Int} {lv : Nat → Int} (hc : isK c) (hH : lfH n1 t lv) (hw0 : V c 0 = (n1 : Int)) (ht : ∀ i j, i < 8 → j < 8 → V (c + 1) (8 * i + j) = t i j) (hlv : ∀ i, i < 8 → V (c + 2) i = lv i) : Ex L (d + 1) 75 [.inr (.inr c), .inr (.inr 119)] V b (fun v V' b' => v = some (.inr (.inl (Fp lv n1))) ∧ b' = b ∧ (∀ x, x ≠ 119 → V' x = V x) ∧ (∀ w, w < n1 → lfE n1 (Fp lv n1) t lv (V' 119) w)) := by
  refine Ev.blk 4 (B75_0 _ _ _ _) rfl ?_
  refine fl1_lp hc hH hw0 ht hlv ?_ n1 0 (by omega)
  refine Ev.blk 2 (B75_45 _ _ _ _ _ _) rfl ?_
  have h8 := hH.2.1
  exact fl2_lp hc hH hw0 ht hlv (fun W hr => ⟨rfl, rfl, hr.1, fun w hw => hr.2 w (by omega) hw⟩) 8 V (Nat.le_refl _) ⟨fun _ _ => rfl, fun w q1 q2 => absurd q2 (by omega)⟩
