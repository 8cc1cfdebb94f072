/-! M2: contracts of simple methods (walks by program, specs1.py) -/
theorem vg {p q r : Bool} {a t u : Nat} (hp : p = true) (hq : q = true) (h0 : a ≠ 0) (ht : t = u) (hr : r = true) : (p && (q && (!Nat.beq a 0 && (decide (t = u) && r)))) = true := by
  rw [hp, hq, hr, beqF h0, decide_eq_true ht]
  rfl
/-- bounds that every machine keeps (class) -/
def BdC (V : Mv) : Prop := ∀ i : Int, 0 ≤ i ∧ i < 3 → (2 ≤ V (14 + 15 * i.toNat) 0 ∧ V (14 + 15 * i.toNat) 0 ≤ 8) ∧ ∀ j : Int, 0 ≤ j ∧ j < 4 → -9 ≤ V (14 + 15 * i.toNat + 6) j.toNat ∧ V (14 + 15 * i.toNat + 6) j.toNat ≤ 8
def BdR (V : Mv) : Prop := ∀ i : Int, 0 ≤ i ∧ i < 3 → (2 ≤ V 121 i.toNat ∧ V 121 i.toNat ≤ 8) ∧ ∀ j : Int, 0 ≤ j ∧ j < 4 → -9 ≤ V 126 (4 * i + j).toNat ∧ V 126 (4 * i + j).toNat ≤ 8
theorem BdC.w {V : Mv} (h : BdC V) {i : Int} (hi : 0 ≤ i ∧ i < 3) : in32 (V (14 + 15 * i.toNat) 0) := by
  have := (h i hi).1
  exact ⟨by omega, by omega⟩
theorem BdR.w {V : Mv} (h : BdR V) {i : Int} (hi : 0 ≤ i ∧ i < 3) : in32 (V 121 i.toNat - 1) := by
  have := (h i hi).1
  exact ⟨by omega, by omega⟩
theorem BdC.w8 {V : Mv} (h : BdC V) {i : Int} (hi : 0 ≤ i ∧ i < 3) : 2 ≤ V (14 + 15 * i.toNat) 0 ∧ V (14 + 15 * i.toNat) 0 ≤ 8 := (h i hi).1
theorem BdR.w8 {V : Mv} (h : BdR V) {i : Int} (hi : 0 ≤ i ∧ i < 3) : 2 ≤ V 121 i.toNat ∧ V 121 i.toNat ≤ 8 := (h i hi).1
theorem x_hasMending {L d : Nat} {V : Mv} {b : Bool} {a : Nat} {j : Int} (ha : isK a) (hj : in32 j) (hk : ∀ j : Int, 0 ≤ j ∧ j < 4 → in32 (V (a + 6) j.toNat)) : Ex L (d) 72 [.inr (.inr a), .inl j] V b (Ans (some (.inl (b01 (0 ≤ j ∧ j < 4 ∧ ¬ V (a + 6) j.toNat = -9)))) V b) := by
  refine Ev.blk 2 (B72_0 _ _ _ _ _ (by first | assumption | omega | exact b01_in _ | decide | exact hk _ (by assumption) | exact hk _ (by omega))) rfl ?_
  refine Ev.ite (fun q => ?_) (fun q => ?_)
  · replace q := of_decide_eq_true q
    refine Ev.blk 1 (B72_24 _ _ _ _ _) rfl ?_
    refine Ev.ret rfl rfl rfl (by first | rfl | exact decide_eq_true (b01_or _)) ?_
    refine ⟨?_, rfl, rfl⟩
    congr 2
    unfold b01
    first | rw [if_pos (by omega)] | rw [if_neg (by omega)]
  · replace q := of_decide_eq_false q
    refine Ev.blk 3 (B72_4 _ _ _ _ _ (by first | assumption | omega | exact b01_in _ | decide | exact hk _ (by assumption) | exact hk _ (by omega))) rfl ?_
    refine Ev.ite (fun q => ?_) (fun q => ?_)
    · replace q := of_decide_eq_true q
      refine Ev.blk 1 (B72_24 _ _ _ _ _) rfl ?_
      refine Ev.ret rfl rfl rfl (by first | rfl | exact decide_eq_true (b01_or _)) ?_
      refine ⟨?_, rfl, rfl⟩
      congr 2
      unfold b01
      first | rw [if_pos (by omega)] | rw [if_neg (by omega)]
    · replace q := of_decide_eq_false q
      refine Ev.blk 6 (B72_9 _ _ _ _ _ (by first | assumption | omega | exact b01_in _ | decide | exact hk _ (by assumption) | exact hk _ (by omega)) (by first | assumption | omega | exact b01_in _ | decide | exact hk _ (by assumption) | exact hk _ (by omega)) (by first | assumption | omega | exact b01_in _ | decide | exact hk _ (by assumption) | exact hk _ (by omega))) rfl ?_
      refine Ev.ite (fun q => ?_) (fun q => ?_)
      · replace q := of_decide_eq_true q
        refine Ev.blk 1 (B72_24 _ _ _ _ _) rfl ?_
        refine Ev.ret rfl rfl rfl (by first | rfl | exact decide_eq_true (b01_or _)) ?_
        refine ⟨?_, rfl, rfl⟩
        congr 2
        unfold b01
        first | rw [if_pos (by omega)] | rw [if_neg (by omega)]
      · replace q := of_decide_eq_false q
        refine Ev.blk 2 (B72_20 _ _ _ _ _) rfl ?_
        refine Ev.ret rfl rfl rfl (by first | rfl | exact decide_eq_true (b01_or _)) ?_
        refine ⟨?_, rfl, rfl⟩
        congr 2
        unfold b01
        first | rw [if_pos (by omega)] | rw [if_neg (by omega)]

theorem BdC.mk {V : Mv} (h : BdC V) {i : Int} (hi : 0 ≤ i ∧ i < 3) : ∀ j : Int, 0 ≤ j ∧ j < 4 → in32 (V (14 + 15 * i.toNat + 6) j.toNat) := fun j hj => by
  have := (h i hi).2 j hj
  exact ⟨by omega, by omega⟩
theorem BdR.mk {V : Mv} (h : BdR V) {i j : Int} (hi : 0 ≤ i ∧ i < 3) (hj : 0 ≤ j ∧ j < 4) : in32 (V 126 (4 * i + j).toNat) := by
  have := (h i hi).2 j hj
  exact ⟨by omega, by omega⟩
theorem x_isMendingC {L d : Nat} {V : Mv} {b : Bool} {m j : Int} (hB : BdC V) (hm : in32 m) (hj : in32 j) : Ex L (d + 1) 12 [.inr (.inr 1), .inl m, .inl j] V b (Ans (some (.inl (b01 ((0 ≤ m ∧ m < 3) ∧ 0 ≤ j ∧ j < 4 ∧ ¬ V (14 + 15 * m.toNat + 6) j.toNat = -9)))) V b) := by
  refine Ev.blk 1 (B12_0 _ _ _ _ _) rfl ?_
  refine Ev.call rfl rfl (rfl) (x_isMachineC (d := d) hm) (by omega) ?_
  rintro v V' b' ⟨rfl, rfl, rfl⟩
  refine Ev.blk 1 (B12_4 _ _ _ _ _ _ (by first | assumption | omega | exact b01_in _)) rfl ?_
  refine Ev.ite (fun q => ?_) (fun q => ?_)
  · replace q := of_decide_eq_true q
    replace q := b01_0 q
    refine Ev.blk 1 (B12_24 _ _ _ _ _) rfl ?_
    refine Ev.ret rfl rfl rfl (by first | rfl | exact decide_eq_true (b01_or _)) ?_
    refine ⟨?_, rfl, rfl⟩
    congr 2
    unfold b01
    first | rw [if_pos (by omega)] | rw [if_neg (by omega)]
  · replace q := of_decide_eq_false q
    replace q := b01_1 q
    refine Ev.blk 5 (B12_7 _ _ _ _ _ (by first | assumption | omega | exact b01_in _)) rfl ?_
    refine Ev.call rfl rfl (vg rfl rfl (isK_0 (k_11 (by assumption))) (congrArg Prod.fst (isK_T (k_11 (by assumption)))) rfl) (x_hasMending (d := d) (k_11 (by assumption)) hj (hB.mk (by assumption))) (by omega) ?_
    rintro v V' b' ⟨rfl, rfl, rfl⟩
    refine Ev.blk 1 (B12_17 _ _ _ _ _ _ (by first | assumption | omega | exact b01_in _)) rfl ?_
    refine Ev.ite (fun q => ?_) (fun q => ?_)
    · replace q := of_decide_eq_true q
      replace q := b01_0 q
      refine Ev.blk 1 (B12_24 _ _ _ _ _) rfl ?_
      refine Ev.ret rfl rfl rfl (by first | rfl | exact decide_eq_true (b01_or _)) ?_
      refine ⟨?_, rfl, rfl⟩
      congr 2
      unfold b01
      first | rw [if_pos (by omega)] | rw [if_neg (by omega)]
    · replace q := of_decide_eq_false q
      replace q := b01_1 q
      refine Ev.blk 2 (B12_20 _ _ _ _ _) rfl ?_
      refine Ev.ret rfl rfl rfl (by first | rfl | exact decide_eq_true (b01_or _)) ?_
      refine ⟨?_, rfl, rfl⟩
      congr 2
      unfold b01
      first | rw [if_pos (by omega)] | rw [if_neg (by omega)]

def cGoes (V : Mv) (m a c : Int) : Int := if ((0 ≤ m ∧ m < 3) ∧ 0 ≤ a ∧ a < V (14 + 15 * m.toNat) 0) ∧ ((0 ≤ m ∧ m < 3) ∧ 0 ≤ c ∧ c < V (14 + 15 * m.toNat) 0) then V (14 + 15 * m.toNat + 1) (a * 8 + c).toNat else -1
theorem x_goesC {L d : Nat} {V : Mv} {b : Bool} {m a c : Int} (hB : BdC V) (hm : in32 m) (ha : in32 a) (hc : in32 c) : Ex L (d + 2) 10 [.inr (.inr 1), .inl m, .inl a, .inl c] V b (Ans (some (.inl (cGoes V m a c))) V b) := by
  refine Ev.blk 3 (B10_0 _ _ _ _ _ _) rfl ?_
  refine Ev.call rfl rfl (rfl) (x_isWearC (d := d) hm ha (fun i hi => hB.w hi)) (by omega) ?_
  rintro v V' b' ⟨rfl, rfl, rfl⟩
  refine Ev.blk 1 (B10_6 _ _ _ _ _ _ _ (by first | assumption | omega | exact b01_in _ | (have := hB.w8 (i := m) (by omega); omega) | (have := hB.w8 (i := m) (by omega); exact ⟨by omega, by omega⟩))) rfl ?_
  refine Ev.ite (fun q => ?_) (fun q => ?_)
  · replace q := of_decide_eq_true q
    replace q := b01_0 q
    refine Ev.blk 1 (B10_18 _ _ _ _ _ _) rfl ?_
    refine Ev.ret rfl rfl rfl (by first | rfl | exact decide_eq_true (b01_or _)) ?_
    refine ⟨?_, rfl, rfl⟩
    congr 2
    unfold cGoes
    first | rw [if_pos (by omega)] | rw [if_neg (by omega)]
  · replace q := of_decide_eq_false q
    replace q := b01_1 q
    refine Ev.blk 3 (B10_9 _ _ _ _ _ _) rfl ?_
    refine Ev.call rfl rfl (rfl) (x_isWearC (d := d) hm hc (fun i hi => hB.w hi)) (by omega) ?_
    rintro v V' b' ⟨rfl, rfl, rfl⟩
    refine Ev.blk 1 (B10_15 _ _ _ _ _ _ _ (by first | assumption | omega | exact b01_in _ | (have := hB.w8 (i := m) (by omega); omega) | (have := hB.w8 (i := m) (by omega); exact ⟨by omega, by omega⟩))) rfl ?_
    refine Ev.ite (fun q => ?_) (fun q => ?_)
    · replace q := nd_t q
      replace q := b01_1 q
      refine Ev.blk 11 (B10_20 _ _ _ _ _ _ (by first | assumption | omega | exact b01_in _ | (have := hB.w8 (i := m) (by omega); omega) | (have := hB.w8 (i := m) (by omega); exact ⟨by omega, by omega⟩)) (by first | assumption | omega | exact b01_in _ | (have := hB.w8 (i := m) (by omega); omega) | (have := hB.w8 (i := m) (by omega); exact ⟨by omega, by omega⟩))) rfl ?_
      refine Ev.ret rfl rfl rfl (by first | rfl | exact decide_eq_true (b01_or _)) ?_
      refine ⟨?_, rfl, rfl⟩
      congr 2
      unfold cGoes
      first | rw [if_pos (by omega)] | rw [if_neg (by omega)]
    · replace q := nd_f q
      replace q := b01_0 q
      refine Ev.blk 1 (B10_18 _ _ _ _ _ _) rfl ?_
      refine Ev.ret rfl rfl rfl (by first | rfl | exact decide_eq_true (b01_or _)) ?_
      refine ⟨?_, rfl, rfl⟩
      congr 2
      unfold cGoes
      first | rw [if_pos (by omega)] | rw [if_neg (by omega)]

def cWeight (V : Mv) (m a : Int) : Int := if ((0 ≤ m ∧ m < 3) ∧ 0 ≤ a ∧ a < V (14 + 15 * m.toNat) 0) then V (21 + 15 * m.toNat + 1) a.toNat else -1
theorem x_weightC {L d : Nat} {V : Mv} {b : Bool} {m a : Int} (hB : BdC V) (hm : in32 m) (ha : in32 a) : Ex L (d + 2) 18 [.inr (.inr 1), .inl m, .inl a] V b (Ans (some (.inr (.inl (cWeight V m a)))) V b) := by
  refine Ev.blk 3 (B18_0 _ _ _ _ _) rfl ?_
  refine Ev.call rfl rfl (rfl) (x_isWearC (d := d) hm ha (fun i hi => hB.w hi)) (by omega) ?_
  rintro v V' b' ⟨rfl, rfl, rfl⟩
  refine Ev.blk 1 (B18_6 _ _ _ _ _ _ (by first | assumption | omega | exact b01_in _ | (have := hB.w8 (i := m) (by omega); omega) | (have := hB.w8 (i := m) (by omega); exact ⟨by omega, by omega⟩))) rfl ?_
  refine Ev.ite (fun q => ?_) (fun q => ?_)
  · replace q := nd_t q
    replace q := b01_1 q
    refine Ev.blk 7 (B18_13 _ _ _ _ _ (by first | assumption | omega | exact b01_in _ | (have := hB.w8 (i := m) (by omega); omega) | (have := hB.w8 (i := m) (by omega); exact ⟨by omega, by omega⟩)) (by first | assumption | omega | exact b01_in _ | (have := hB.w8 (i := m) (by omega); omega) | (have := hB.w8 (i := m) (by omega); exact ⟨by omega, by omega⟩))) rfl ?_
    refine Ev.ret rfl rfl rfl (by first | rfl | exact decide_eq_true (b01_or _)) ?_
    refine ⟨?_, rfl, rfl⟩
    congr 3
    unfold cWeight
    first | rw [if_pos (by omega)] | rw [if_neg (by omega)]
  · replace q := nd_f q
    replace q := b01_0 q
    refine Ev.blk 1 (B18_9 _ _ _ _ _) rfl ?_
    refine Ev.ret rfl rfl rfl (by first | rfl | exact decide_eq_true (b01_or _)) ?_
    refine ⟨?_, rfl, rfl⟩
    congr 3
    unfold cWeight
    first | rw [if_pos (by omega)] | rw [if_neg (by omega)]

theorem x_isRuleC {L d : Nat} {V : Mv} {b : Bool} {r : Int} (hr : in32 r) : Ex L (d) 24 [.inl r] V b (Ans (some (.inl (b01 (0 ≤ r ∧ r < 4)))) V b) := by
  refine Ev.blk 2 (B24_0 _ _ _ _ (by first | assumption | omega | decide | exact cmpI_in _ _ | exact ⟨by omega, by omega⟩)) rfl ?_
  refine Ev.ite (fun q => ?_) (fun q => ?_)
  · replace q := of_decide_eq_true q
    refine Ev.blk 1 (B24_13 _ _ _ _) rfl ?_
    refine Ev.ret rfl rfl rfl (by first | rfl | exact decide_eq_true (b01_or _)) ?_
    refine ⟨?_, rfl, rfl⟩
    congr 2
    unfold b01
    first | rw [if_pos (by omega)] | rw [if_neg (by omega)]
  · replace q := of_decide_eq_false q
    refine Ev.blk 3 (B24_4 _ _ _ _ (by first | assumption | omega | decide | exact cmpI_in _ _ | exact ⟨by omega, by omega⟩)) rfl ?_
    refine Ev.ite (fun q => ?_) (fun q => ?_)
    · replace q := of_decide_eq_true q
      refine Ev.blk 1 (B24_13 _ _ _ _) rfl ?_
      refine Ev.ret rfl rfl rfl (by first | rfl | exact decide_eq_true (b01_or _)) ?_
      refine ⟨?_, rfl, rfl⟩
      congr 2
      unfold b01
      first | rw [if_pos (by omega)] | rw [if_neg (by omega)]
    · replace q := of_decide_eq_false q
      refine Ev.blk 2 (B24_9 _ _ _ _) rfl ?_
      refine Ev.ret rfl rfl rfl (by first | rfl | exact decide_eq_true (b01_or _)) ?_
      refine ⟨?_, rfl, rfl⟩
      congr 2
      unfold b01
      first | rw [if_pos (by omega)] | rw [if_neg (by omega)]

theorem x_isSlotC {L d : Nat} {V : Mv} {b : Bool} {r : Int} (hr : in32 r) : Ex L (d) 48 [.inl r] V b (Ans (some (.inl (b01 (0 ≤ r ∧ r < 2)))) V b) := by
  refine Ev.blk 2 (B48_0 _ _ _ _ (by first | assumption | omega | decide | exact cmpI_in _ _ | exact ⟨by omega, by omega⟩)) rfl ?_
  refine Ev.ite (fun q => ?_) (fun q => ?_)
  · replace q := of_decide_eq_true q
    refine Ev.blk 1 (B48_13 _ _ _ _) rfl ?_
    refine Ev.ret rfl rfl rfl (by first | rfl | exact decide_eq_true (b01_or _)) ?_
    refine ⟨?_, rfl, rfl⟩
    congr 2
    unfold b01
    first | rw [if_pos (by omega)] | rw [if_neg (by omega)]
  · replace q := of_decide_eq_false q
    refine Ev.blk 3 (B48_4 _ _ _ _ (by first | assumption | omega | decide | exact cmpI_in _ _ | exact ⟨by omega, by omega⟩)) rfl ?_
    refine Ev.ite (fun q => ?_) (fun q => ?_)
    · replace q := of_decide_eq_true q
      refine Ev.blk 1 (B48_13 _ _ _ _) rfl ?_
      refine Ev.ret rfl rfl rfl (by first | rfl | exact decide_eq_true (b01_or _)) ?_
      refine ⟨?_, rfl, rfl⟩
      congr 2
      unfold b01
      first | rw [if_pos (by omega)] | rw [if_neg (by omega)]
    · replace q := of_decide_eq_false q
      refine Ev.blk 2 (B48_9 _ _ _ _) rfl ?_
      refine Ev.ret rfl rfl rfl (by first | rfl | exact decide_eq_true (b01_or _)) ?_
      refine ⟨?_, rfl, rfl⟩
      congr 2
      unfold b01
      first | rw [if_pos (by omega)] | rw [if_neg (by omega)]

theorem x_isWearR {L d : Nat} {V : Mv} {b : Bool} {m w : Int} (hB : BdR V) (hm : in32 m) (hw : in32 w) : Ex L (d + 2) 149 [.inr (.inr 120), .inl m, .inl w] V b (Ans (some (.inl (b01 ((0 ≤ m ∧ m ≤ 2) ∧ 0 ≤ w ∧ w ≤ V 121 m.toNat - 1)))) V b) := by
  refine Ev.blk 1 (B149_0 _ _ _ _ _) rfl ?_
  refine Ev.call rfl rfl (rfl) (x_isMachineR (d := d) hm) (by omega) ?_
  rintro v V' b' ⟨rfl, rfl, rfl⟩
  refine Ev.blk 1 (B149_4 _ _ _ _ _ _ (by first | assumption | omega | exact b01_in _ | exact hB.w (by omega))) rfl ?_
  refine Ev.ite (fun q => ?_) (fun q => ?_)
  · replace q := of_decide_eq_true q
    replace q := b01_0 q
    refine Ev.blk 1 (B149_29 _ _ _ _ _) rfl ?_
    refine Ev.ret rfl rfl rfl (by first | rfl | exact decide_eq_true (b01_or _)) ?_
    refine ⟨?_, rfl, rfl⟩
    congr 2
    unfold b01
    first | rw [if_pos (by omega)] | rw [if_neg (by omega)]
  · replace q := of_decide_eq_false q
    replace q := b01_1 q
    refine Ev.blk 10 (B149_7 _ _ _ _ _ (by first | assumption | omega | exact b01_in _ | exact hB.w (by omega)) (by first | assumption | omega | exact b01_in _ | exact hB.w (by omega)) (by first | assumption | omega | exact b01_in _ | exact hB.w (by omega))) rfl ?_
    refine Ev.call rfl rfl (rfl) (x_in (d := d + 1) (by omega) (by decide) (by have := hB.w (i := m) (by omega); omega)) (by omega) ?_
    rintro v V' b' ⟨rfl, rfl, rfl⟩
    refine Ev.blk 1 (B149_22 _ _ _ _ _ _ (by first | assumption | omega | exact b01_in _ | exact hB.w (by omega))) rfl ?_
    refine Ev.ite (fun q => ?_) (fun q => ?_)
    · replace q := of_decide_eq_true q
      replace q := b01_0 q
      refine Ev.blk 1 (B149_29 _ _ _ _ _) rfl ?_
      refine Ev.ret rfl rfl rfl (by first | rfl | exact decide_eq_true (b01_or _)) ?_
      refine ⟨?_, rfl, rfl⟩
      congr 2
      unfold b01
      first | rw [if_pos (by omega)] | rw [if_neg (by omega)]
    · replace q := of_decide_eq_false q
      replace q := b01_1 q
      refine Ev.blk 2 (B149_25 _ _ _ _ _) rfl ?_
      refine Ev.ret rfl rfl rfl (by first | rfl | exact decide_eq_true (b01_or _)) ?_
      refine ⟨?_, rfl, rfl⟩
      congr 2
      unfold b01
      first | rw [if_pos (by omega)] | rw [if_neg (by omega)]

theorem x_isMendingR {L d : Nat} {V : Mv} {b : Bool} {m j : Int} (hB : BdR V) (hm : in32 m) (hj : in32 j) : Ex L (d + 2) 153 [.inr (.inr 120), .inl m, .inl j] V b (Ans (some (.inl (b01 ((0 ≤ m ∧ m ≤ 2) ∧ (0 ≤ j ∧ j ≤ 3) ∧ ¬ V 126 (4 * m + j).toNat = -9)))) V b) := by
  refine Ev.blk 1 (B153_0 _ _ _ _ _) rfl ?_
  refine Ev.call rfl rfl (rfl) (x_isMachineR (d := d) hm) (by omega) ?_
  rintro v V' b' ⟨rfl, rfl, rfl⟩
  refine Ev.blk 1 (B153_4 _ _ _ _ _ _ (by first | assumption | omega | exact b01_in _ | exact hB.mk (by omega) (by omega) | exact ⟨by omega, by omega⟩)) rfl ?_
  refine Ev.ite (fun q => ?_) (fun q => ?_)
  · replace q := of_decide_eq_true q
    replace q := b01_0 q
    refine Ev.blk 1 (B153_38 _ _ _ _ _) rfl ?_
    refine Ev.ret rfl rfl rfl (by first | rfl | exact decide_eq_true (b01_or _)) ?_
    refine ⟨?_, rfl, rfl⟩
    congr 2
    unfold b01
    first | rw [if_pos (by omega)] | rw [if_neg (by omega)]
  · replace q := of_decide_eq_false q
    replace q := b01_1 q
    refine Ev.blk 4 (B153_7 _ _ _ _ _ (by first | assumption | omega | exact b01_in _ | exact hB.mk (by omega) (by omega) | exact ⟨by omega, by omega⟩)) rfl ?_
    refine Ev.call rfl rfl (rfl) (x_in (d := d + 1) (by omega) (by decide) (by decide)) (by omega) ?_
    rintro v V' b' ⟨rfl, rfl, rfl⟩
    refine Ev.blk 1 (B153_16 _ _ _ _ _ _ (by first | assumption | omega | exact b01_in _ | exact hB.mk (by omega) (by omega) | exact ⟨by omega, by omega⟩)) rfl ?_
    refine Ev.ite (fun q => ?_) (fun q => ?_)
    · replace q := of_decide_eq_true q
      replace q := b01_0 q
      refine Ev.blk 1 (B153_38 _ _ _ _ _) rfl ?_
      refine Ev.ret rfl rfl rfl (by first | rfl | exact decide_eq_true (b01_or _)) ?_
      refine ⟨?_, rfl, rfl⟩
      congr 2
      unfold b01
      first | rw [if_pos (by omega)] | rw [if_neg (by omega)]
    · replace q := of_decide_eq_false q
      replace q := b01_1 q
      refine Ev.blk 10 (B153_19 _ _ _ _ _ (by first | assumption | omega | exact b01_in _ | exact hB.mk (by omega) (by omega) | exact ⟨by omega, by omega⟩) (by first | assumption | omega | exact b01_in _ | exact hB.mk (by omega) (by omega) | exact ⟨by omega, by omega⟩)) rfl ?_
      refine Ev.ite (fun q => ?_) (fun q => ?_)
      · replace q := of_decide_eq_true q
        refine Ev.blk 1 (B153_38 _ _ _ _ _) rfl ?_
        refine Ev.ret rfl rfl rfl (by first | rfl | exact decide_eq_true (b01_or _)) ?_
        refine ⟨?_, rfl, rfl⟩
        congr 2
        unfold b01
        first | rw [if_pos (by omega)] | rw [if_neg (by omega)]
      · replace q := of_decide_eq_false q
        refine Ev.blk 2 (B153_34 _ _ _ _ _) rfl ?_
        refine Ev.ret rfl rfl rfl (by first | rfl | exact decide_eq_true (b01_or _)) ?_
        refine ⟨?_, rfl, rfl⟩
        congr 2
        unfold b01
        first | rw [if_pos (by omega)] | rw [if_neg (by omega)]

def rGoes (V : Mv) (m a c : Int) : Int := if ((0 ≤ m ∧ m ≤ 2) ∧ 0 ≤ a ∧ a ≤ V 121 m.toNat - 1) ∧ ((0 ≤ m ∧ m ≤ 2) ∧ 0 ≤ c ∧ c ≤ V 121 m.toNat - 1) then rGo V m a c else -1
theorem x_goesR {L d : Nat} {V : Mv} {b : Bool} {m a c : Int} (hB : BdR V) (hm : in32 m) (ha : in32 a) (hc : in32 c) : Ex L (d + 3) 150 [.inr (.inr 120), .inl m, .inl a, .inl c] V b (Ans (some (.inl (rGoes V m a c))) V b) := by
  refine Ev.blk 3 (B150_0 _ _ _ _ _ _) rfl ?_
  refine Ev.call rfl rfl (rfl) (x_isWearR (d := d) hB hm ha) (by omega) ?_
  rintro v V' b' ⟨rfl, rfl, rfl⟩
  refine Ev.blk 1 (B150_6 _ _ _ _ _ _ _ (by first | assumption | omega | exact b01_in _)) rfl ?_
  refine Ev.ite (fun q => ?_) (fun q => ?_)
  · replace q := of_decide_eq_true q
    replace q := b01_0 q
    refine Ev.blk 1 (B150_28 _ _ _ _ _ _) rfl ?_
    refine Ev.ret rfl rfl rfl (by first | rfl | exact decide_eq_true (b01_or _)) ?_
    refine ⟨?_, rfl, rfl⟩
    congr 2
    unfold rGoes
    first | rw [if_pos (by omega)] | rw [if_neg (by omega)]
  · replace q := of_decide_eq_false q
    replace q := b01_1 q
    refine Ev.blk 3 (B150_9 _ _ _ _ _ _) rfl ?_
    refine Ev.call rfl rfl (rfl) (x_isWearR (d := d) hB hm hc) (by omega) ?_
    rintro v V' b' ⟨rfl, rfl, rfl⟩
    refine Ev.blk 1 (B150_15 _ _ _ _ _ _ _ (by first | assumption | omega | exact b01_in _)) rfl ?_
    refine Ev.ite (fun q => ?_) (fun q => ?_)
    · replace q := of_decide_eq_true q
      replace q := b01_0 q
      refine Ev.blk 1 (B150_28 _ _ _ _ _ _) rfl ?_
      refine Ev.ret rfl rfl rfl (by first | rfl | exact decide_eq_true (b01_or _)) ?_
      refine ⟨?_, rfl, rfl⟩
      congr 2
      unfold rGoes
      first | rw [if_pos (by omega)] | rw [if_neg (by omega)]
    · replace q := of_decide_eq_false q
      replace q := b01_1 q
      refine Ev.blk 4 (B150_18 _ _ _ _ _ _) rfl ?_
      refine Ev.call rfl rfl (rfl) (x_goesOf (d := d + 1) (by omega) (by have := hB.w8 (i := m) (by omega); omega) (by have := hB.w8 (i := m) (by omega); omega)) (by omega) ?_
      rintro v V' b' ⟨rfl, rfl, rfl⟩
      refine Ev.blk 1 (B150_25 _ _ _ _ _ _ _) rfl ?_
      refine Ev.ret rfl rfl rfl (by first | rfl | exact decide_eq_true (b01_or _)) ?_
      refine ⟨?_, rfl, rfl⟩
      congr 2
      unfold rGoes
      first | rw [if_pos (by omega)] | rw [if_neg (by omega)]

theorem x_isRuleR {L d : Nat} {V : Mv} {b : Bool} {r : Int} (hr : in32 r) : Ex L (d + 1) 173 [.inl r] V b (Ans (some (.inl (b01 (0 ≤ r ∧ r ≤ 3)))) V b) := by
  refine Ev.blk 4 (B173_0 _ _ _ _ (by first | assumption | omega | decide | exact cmpI_in _ _ | exact ⟨by omega, by omega⟩)) rfl ?_
  refine Ev.call rfl rfl (rfl) (x_in (d := d) (by omega) (by decide) (by decide)) (by omega) ?_
  rintro v V' b' ⟨rfl, rfl, rfl⟩
  refine Ev.ret rfl rfl rfl (by first | rfl | exact decide_eq_true (b01_or _)) ?_
  exact ⟨rfl, rfl, rfl⟩

