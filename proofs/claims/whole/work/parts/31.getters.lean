/-! M2, getters: the walks by program (gen6.py) -/
theorem nd_t {P : Prop} [Decidable P] (h : (!decide P) = true) : ¬ P := by simpa using h
theorem nd_f {P : Prop} [Decidable P] (h : (!decide P) = false) : P := by simpa using h
theorem b01_or (P : Prop) [Decidable P] : b01 P = 0 ∨ b01 P = 1 := by
  unfold b01
  split <;> simp
theorem b01_in (P : Prop) [Decidable P] : in32 (b01 P) := by
  unfold b01
  split <;> decide
theorem b01_0 {P : Prop} [Decidable P] (h : b01 P = 0) : ¬ P := by
  unfold b01 at h
  split at h
  · cases h
  · assumption
theorem b01_1 {P : Prop} [Decidable P] (h : ¬ b01 P = 0) : P := by
  unfold b01 at h
  split at h
  · assumption
  · exact absurd rfl h
theorem cmpI_ge (a c : Int) : (0 ≤ cmpI a c) ↔ c ≤ a := by
  have := cmpI_lt a c
  omega
theorem cmpI_le (a c : Int) : (cmpI a c ≤ 0) ↔ a ≤ c := by
  have := cmpI_gt a c
  omega
theorem x_isMachineC {L d : Nat} {V : Mv} {b : Bool} {m : Int} (hm : in32 m) : Ex L d 6 [.inl m] V b (Ans (some (.inl (b01 (0 ≤ m ∧ m < 3)))) V b) := by
  refine Ev.blk 2 (B6_0 _ _ _ _ (by first | assumption | omega | decide | exact cmpI_in _ _ | exact ⟨by omega, by omega⟩)) rfl ?_
  refine Ev.ite (fun q => ?_) (fun q => ?_)
  · replace q := of_decide_eq_true q
    refine Ev.blk 1 (B6_13 _ _ _ _) rfl ?_
    refine Ev.ret rfl rfl rfl (by first | rfl | exact decide_eq_true (b01_or _)) ?_
    refine ⟨?_, rfl, rfl⟩
    congr 2
    unfold b01
    first | rw [if_pos (by omega)] | rw [if_neg (by omega)]
  · replace q := of_decide_eq_false q
    refine Ev.blk 3 (B6_4 _ _ _ _ (by first | assumption | omega | decide | exact cmpI_in _ _ | exact ⟨by omega, by omega⟩)) rfl ?_
    refine Ev.ite (fun q => ?_) (fun q => ?_)
    · replace q := of_decide_eq_true q
      refine Ev.blk 1 (B6_13 _ _ _ _) rfl ?_
      refine Ev.ret rfl rfl rfl (by first | rfl | exact decide_eq_true (b01_or _)) ?_
      refine ⟨?_, rfl, rfl⟩
      congr 2
      unfold b01
      first | rw [if_pos (by omega)] | rw [if_neg (by omega)]
    · replace q := of_decide_eq_false q
      refine Ev.blk 2 (B6_9 _ _ _ _) rfl ?_
      refine Ev.ret rfl rfl rfl (by first | rfl | exact decide_eq_true (b01_or _)) ?_
      refine ⟨?_, rfl, rfl⟩
      congr 2
      unfold b01
      first | rw [if_pos (by omega)] | rw [if_neg (by omega)]

theorem x_isMachineR {L d : Nat} {V : Mv} {b : Bool} {m : Int} (hm : in32 m) : Ex L (d + 1) 145 [.inl m] V b (Ans (some (.inl (b01 (0 ≤ m ∧ m ≤ 2)))) V b) := by
  refine Ev.blk 4 (B145_0 _ _ _ _ (by first | assumption | omega | decide | exact cmpI_in _ _ | exact ⟨by omega, by omega⟩)) rfl ?_
  refine Ev.call rfl rfl (by first | rfl | decide) (x_in (d := d) (by omega) (by decide) (by decide)) (by omega) ?_
  rintro v V' b' ⟨rfl, rfl, rfl⟩
  refine Ev.ret rfl rfl rfl (by first | rfl | exact decide_eq_true (b01_or _)) ?_
  exact ⟨rfl, rfl, rfl⟩

theorem x_isWearC {L d : Nat} {V : Mv} {b : Bool} {m w : Int} (hm : in32 m) (hw : in32 w) (hk : ∀ i : Int, 0 ≤ i ∧ i < 3 → in32 (V (14 + 15 * i.toNat) 0)) : Ex L (d + 1) 9 [.inr (.inr 1), .inl m, .inl w] V b (Ans (some (.inl (b01 ((0 ≤ m ∧ m < 3) ∧ 0 ≤ w ∧ w < V (14 + 15 * m.toNat) 0)))) V b) := by
  refine Ev.blk 1 (B9_0 _ _ _ _ _) rfl ?_
  refine Ev.call rfl rfl (by first | rfl | decide) (x_isMachineC (d := d) hm) (by omega) ?_
  rintro v V' b' ⟨rfl, rfl, rfl⟩
  refine Ev.blk 1 (B9_4 _ _ _ _ _ _ (by first | assumption | omega | exact b01_in _ | exact hk _ (by assumption))) rfl ?_
  refine Ev.ite (fun q => ?_) (fun q => ?_)
  · replace q := of_decide_eq_true q
    replace q := b01_0 q
    refine Ev.blk 1 (B9_28 _ _ _ _ _) rfl ?_
    refine Ev.ret rfl rfl rfl (by first | rfl | exact decide_eq_true (b01_or _)) ?_
    refine ⟨?_, rfl, rfl⟩
    congr 2
    unfold b01
    first | rw [if_pos (by omega)] | rw [if_neg (by omega)]
  · replace q := of_decide_eq_false q
    replace q := b01_1 q
    refine Ev.blk 2 (B9_7 _ _ _ _ _ (by first | assumption | omega | exact b01_in _ | exact hk _ (by assumption))) rfl ?_
    refine Ev.ite (fun q => ?_) (fun q => ?_)
    · replace q := of_decide_eq_true q
      refine Ev.blk 1 (B9_28 _ _ _ _ _) rfl ?_
      refine Ev.ret rfl rfl rfl (by first | rfl | exact decide_eq_true (b01_or _)) ?_
      refine ⟨?_, rfl, rfl⟩
      congr 2
      unfold b01
      first | rw [if_pos (by omega)] | rw [if_neg (by omega)]
    · replace q := of_decide_eq_false q
      refine Ev.blk 7 (B9_11 _ _ _ _ _ (by first | assumption | omega | exact b01_in _ | exact hk _ (by assumption)) (by first | assumption | omega | exact b01_in _ | exact hk _ (by assumption)) (by first | assumption | omega | exact b01_in _ | exact hk _ (by assumption))) rfl ?_
      refine Ev.ite (fun q => ?_) (fun q => ?_)
      · replace q := of_decide_eq_true q
        refine Ev.blk 1 (B9_28 _ _ _ _ _) rfl ?_
        refine Ev.ret rfl rfl rfl (by first | rfl | exact decide_eq_true (b01_or _)) ?_
        refine ⟨?_, rfl, rfl⟩
        congr 2
        unfold b01
        first | rw [if_pos (by omega)] | rw [if_neg (by omega)]
      · replace q := of_decide_eq_false q
        refine Ev.blk 2 (B9_24 _ _ _ _ _) rfl ?_
        refine Ev.ret rfl rfl rfl (by first | rfl | exact decide_eq_true (b01_or _)) ?_
        refine ⟨?_, rfl, rfl⟩
        congr 2
        unfold b01
        first | rw [if_pos (by omega)] | rw [if_neg (by omega)]
