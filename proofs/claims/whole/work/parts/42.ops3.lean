/-! the 38 calls, 3 (by program, specs4.py) -/
theorem x_append1 {L d : Nat} {V : Mv} {b : Bool} {x : Int} (h : V 69 0 = 16) : Ex L d 89 [.inr (.inr 69), .inl x] V b (Ans (some (.inl (-4))) V b) := by
  refine Ev.blk 4 (B89_0 _ _ _ _ _ (Or.inl rfl) (by rw [h]; decide)) rfl ?_
  refine Ev.ite (fun q => absurd (of_decide_eq_true q) (by omega)) (fun _ => ?_)
  refine Ev.blk 1 (B89_9 _ _ _ _ _) rfl ?_
  exact Ev.ret rfl rfl rfl rfl ⟨rfl, rfl, rfl⟩
theorem x_append2 {L d : Nat} {V : Mv} {b : Bool} {x : Int} (h : 0 ≤ V 69 0 ∧ V 69 0 < 16) : Ex L d 89 [.inr (.inr 69), .inl x] V b (Ans (some (.inl (V 69 0 + 1))) (uV (uV V 70 (V 69 0).toNat x) 69 0 (V 69 0 + 1)) b) := by
  refine Ev.blk 4 (B89_0 _ _ _ _ _ (Or.inl rfl) ⟨by omega, by omega⟩) rfl ?_
  refine Ev.ite (fun _ => ?_) (fun q => absurd (of_decide_eq_false q) (by omega))
  refine Ev.blk 14 (B89_12 _ _ _ _ _ (Or.inl rfl) h) rfl ?_
  exact Ev.ret rfl rfl rfl rfl ⟨rfl, rfl, rfl⟩
theorem op_log (a0 : Int) (h0 : in32 a0) : OpI 43 222 [.inl a0] := by
  intro L N V b hL hN hI
  have hi := hI.1
  have hl := hi.ll
  by_cases q : 0 ≤ a0 ∧ a0 ≤ 5
  · by_cases q2 : V 120 37 = 16
    · skip
      refine Ev.blk 2 (B43_0 _ _ _ _ h0) rfl ?_
      refine Ev.ite (fun z => absurd (of_decide_eq_true z) (by omega)) (fun _ => ?_)
      refine Ev.blk 3 (B43_4 _ _ _ _ h0) rfl ?_
      refine Ev.ite (fun _ => ?_) (fun z => absurd (of_decide_eq_false z) (by omega))
      refine Ev.blk 3 (B43_13 _ _ _ _) rfl ?_
      refine Ev.call rfl rfl rfl (x_append1 (d := 28) (by omega)) (by omega) ?_
      rintro v V1 b1 ⟨rfl, rfl, rfl⟩
      refine Ev.ret rfl rfl rfl rfl ⟨_, rfl, by decide, rfl, ?_⟩
      refine Ev.blk 4 (B222_0 _ _ _ _ h0) rfl ?_
      refine Ev.call rfl rfl rfl (x_in (d := 28) ⟨by omega, by omega⟩ (by decide) (by decide)) (by omega) ?_
      rintro v V' b' ⟨rfl, rfl, rfl⟩
      refine Ev.blk 1 (B222_9 _ _ _ _ _ (b01_in _)) rfl ?_
      refine Ev.ite (fun _ => ?_) (fun z => absurd q (b01_0 (nd_f z)))
      refine Ev.blk 4 (B222_15 _ _ _ _ ⟨by omega, by omega⟩) rfl ?_
      refine Ev.ite (fun z => absurd q2 (nd_t z)) (fun _ => ?_)
      refine Ev.blk 1 (B222_24 _ _ _ _) rfl ?_
      exact Ev.ret rfl rfl rfl rfl ⟨rfl, hi.more (Nat.le_succ N), hI.2⟩
    · skip
      refine Ev.blk 2 (B43_0 _ _ _ _ h0) rfl ?_
      refine Ev.ite (fun z => absurd (of_decide_eq_true z) (by omega)) (fun _ => ?_)
      refine Ev.blk 3 (B43_4 _ _ _ _ h0) rfl ?_
      refine Ev.ite (fun _ => ?_) (fun z => absurd (of_decide_eq_false z) (by omega))
      refine Ev.blk 3 (B43_13 _ _ _ _) rfl ?_
      refine Ev.call rfl rfl rfl (x_append2 (d := 28) ⟨by omega, by omega⟩) (by omega) ?_
      rintro v V1 b1 ⟨rfl, rfl, rfl⟩
      refine Ev.ret rfl rfl rfl rfl ⟨_, rfl, ⟨by omega, by omega⟩, rfl, ?_⟩
      refine Ev.blk 4 (B222_0 _ _ _ _ h0) rfl ?_
      refine Ev.call rfl rfl rfl (x_in (d := 28) ⟨by omega, by omega⟩ (by decide) (by decide)) (by omega) ?_
      rintro v V' b' ⟨rfl, rfl, rfl⟩
      refine Ev.blk 1 (B222_9 _ _ _ _ _ (b01_in _)) rfl ?_
      refine Ev.ite (fun _ => ?_) (fun z => absurd q (b01_0 (nd_f z)))
      refine Ev.blk 4 (B222_15 _ _ _ _ (show in32 (V 120 37) from ⟨by omega, by omega⟩)) rfl ?_
      refine Ev.ite (fun _ => ?_) (fun z => absurd (show V 120 37 = 16 from nd_f z) q2)
      refine Ev.blk 14 (B222_27 _ _ _ _ (show 0 ≤ V 120 37 ∧ V 120 37 < 16 from ⟨by omega, by omega⟩)) rfl ?_
      refine Ev.ret rfl rfl rfl rfl ⟨?_, ?_, hI.2⟩
      · show some (Sum.inl (V 120 37 + 1)) = some (Sum.inl (V 69 0 + 1))
        rw [hl.1]
      · refine (hi.more (Nat.le_succ N)).log (fun a ha _ _ _ => ?_) rfl ?_ ?_
        · unfold dI at ha
          rw [uV_ne (by omega), uV_ne (by omega), uV_ne (by omega), uV_ne (by omega)]
        · show V 69 0 + 1 = V 120 37 + 1 ∧ 0 ≤ V 120 37 + 1 ∧ V 120 37 + 1 ≤ 16
          omega
        · intro j hj
          show uV V 70 (V 69 0).toNat a0 70 j = uV V 145 (V 120 37).toNat a0 145 j ∧ 0 ≤ uV V 145 (V 120 37).toNat a0 145 j ∧ uV V 145 (V 120 37).toNat a0 145 j ≤ 5
          rw [uV_at, uV_at, hl.1]
          have := hi.lr j hj
          split <;> omega
  · have rest : ∀ V1 b1, V1 = V → Ex L 29 222 [.inr (.inr 120), .inl a0] V1 b1 (fun v2 V2 _ => v2 = some (.inl (-2)) ∧ Iv (N + 1) V2) := by
      rintro V1 b1 rfl
      refine Ev.blk 4 (B222_0 _ _ _ _ h0) rfl ?_
      refine Ev.call rfl rfl rfl (x_in (d := 28) ⟨by omega, by omega⟩ (by decide) (by decide)) (by omega) ?_
      rintro v V' b' ⟨rfl, rfl, rfl⟩
      refine Ev.blk 1 (B222_9 _ _ _ _ _ (b01_in _)) rfl ?_
      refine Ev.ite (fun z => absurd (b01_1 (nd_t z)) q) (fun _ => ?_)
      refine Ev.blk 1 (B222_12 _ _ _ _) rfl ?_
      exact Ev.ret rfl rfl rfl rfl ⟨rfl, hi.more (Nat.le_succ N), hI.2⟩
    refine Ev.blk 2 (B43_0 _ _ _ _ h0) rfl ?_
    refine Ev.ite (fun _ => ?_) (fun z => ?_)
    · refine Ev.blk 1 (B43_10 _ _ _ _) rfl ?_
      exact Ev.ret rfl rfl rfl rfl ⟨_, rfl, by decide, rfl, rest _ _ rfl⟩
    · replace z := of_decide_eq_false z
      refine Ev.blk 3 (B43_4 _ _ _ _ h0) rfl ?_
      refine Ev.ite (fun z => absurd (of_decide_eq_true z) (by omega)) (fun _ => ?_)
      refine Ev.blk 1 (B43_10 _ _ _ _) rfl ?_
      exact Ev.ret rfl rfl rfl rfl ⟨_, rfl, by decide, rfl, rest _ _ rfl⟩

