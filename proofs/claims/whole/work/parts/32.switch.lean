/-! switches -/
theorem tsw_out {pc : Nat} {d lo hi : Int} {offs : List Int} {a : Int} (h : a < lo ∨ hi < a) : tsw pc d lo hi offs a = pc + d := by
  unfold tsw
  rcases h with h | h <;> simp [h]
theorem S7_9 (L : Nat) (V : Mv) (b : Bool) (x1 : Int) (x2 : Int) (g : in32 x2) : nxs 2 7 9 [some (.inr (.inr 1)), some (.inl x1), some (.inl x2)] [] (M0 L V b) = some (true, if x2 = 0 then 36 else if x2 = 1 then 46 else if x2 = 2 then 56 else 66, [some (.inr (.inr 1)), some (.inl x1), some (.inl x2)], [], M0 L V b) := by
  by_cases h0 : x2 = 0
  · subst h0; rfl
  by_cases h1 : x2 = 1
  · subst h1; rfl
  by_cases h2 : x2 = 2
  · subst h2; rfl
  have e : tsw 10 56 0 2 [26, 36, 46] x2 = 66 := tsw_out (by omega)
  rw [if_neg h0, if_neg h1, if_neg h2]
  show some ((r32 x2 && decide (0 ≤ tsw 10 56 0 2 [26, 36, 46] x2)) && true, (tsw 10 56 0 2 [26, 36, 46] x2).toNat, _) = _
  rw [e, r32_of g]
  rfl
theorem S8_11 (L : Nat) (V : Mv) (b : Bool) (x1 : Int) (x2 : Int) (x3 : Int) (g : in32 x3) : nxs 2 8 11 [some (.inr (.inr 1)), some (.inl x1), some (.inl x2), some (.inl x3)] [] (M0 L V b) = some (true, if x3 = 0 then 40 else if x3 = 1 then 52 else if x3 = 2 then 64 else 76, [some (.inr (.inr 1)), some (.inl x1), some (.inl x2), some (.inl x3)], [], M0 L V b) := by
  by_cases h0 : x3 = 0
  · subst h0; rfl
  by_cases h1 : x3 = 1
  · subst h1; rfl
  by_cases h2 : x3 = 2
  · subst h2; rfl
  have e : tsw 12 64 0 2 [28, 40, 52] x3 = 76 := tsw_out (by omega)
  rw [if_neg h0, if_neg h1, if_neg h2]
  show some ((r32 x3 && decide (0 ≤ tsw 12 64 0 2 [28, 40, 52] x3)) && true, (tsw 12 64 0 2 [28, 40, 52] x3).toNat, _) = _
  rw [e, r32_of g]
  rfl
theorem S50_0 (L : Nat) (V : Mv) (b : Bool) (x1 : Int) (g : in32 x1) : nxs 2 50 0 [some (.inr (.inr 1)), some (.inl x1)] [] (M0 L V b) = some (true, if x1 = 0 then 28 else if x1 = 1 then 36 else if x1 = 2 then 44 else 49, [some (.inr (.inr 1)), some (.inl x1)], [], M0 L V b) := by
  by_cases h0 : x1 = 0
  · subst h0; rfl
  by_cases h1 : x1 = 1
  · subst h1; rfl
  by_cases h2 : x1 = 2
  · subst h2; rfl
  have e : tsw 1 48 0 2 [27, 35, 43] x1 = 49 := tsw_out (by omega)
  rw [if_neg h0, if_neg h1, if_neg h2]
  show some ((r32 x1 && decide (0 ≤ tsw 1 48 0 2 [27, 35, 43] x1)) && true, (tsw 1 48 0 2 [27, 35, 43] x1).toNat, _) = _
  rw [e, r32_of g]
  rfl
theorem S229_0 (L : Nat) (V : Mv) (b : Bool) (x1 : Int) (g : in32 x1) : nxs 2 229 0 [some (.inr (.inr 120)), some (.inl x1)] [] (M0 L V b) = some (true, if x1 = 0 then 28 else if x1 = 1 then 33 else if x1 = 2 then 38 else 56, [some (.inr (.inr 120)), some (.inl x1)], [], M0 L V b) := by
  by_cases h0 : x1 = 0
  · subst h0; rfl
  by_cases h1 : x1 = 1
  · subst h1; rfl
  by_cases h2 : x1 = 2
  · subst h2; rfl
  have e : tsw 1 55 0 2 [27, 32, 37] x1 = 56 := tsw_out (by omega)
  rw [if_neg h0, if_neg h1, if_neg h2]
  show some ((r32 x1 && decide (0 ≤ tsw 1 55 0 2 [27, 32, 37] x1)) && true, (tsw 1 55 0 2 [27, 32, 37] x1).toNat, _) = _
  rw [e, r32_of g]
  rfl
theorem S11_11 (L : Nat) (V : Mv) (b : Bool) (x1 x2 x3 : Int) (g : in32 x3) : nxs 2 11 11 [some (.inr (.inr 1)), some (.inl x1), some (.inl x2), some (.inl x3)] [] (M0 L V b) = some (true, if x3 = 0 then 40 else if x3 = 1 then 52 else 64, [some (.inr (.inr 1)), some (.inl x1), some (.inl x2), some (.inl x3)], [], M0 L V b) := by
  by_cases h0 : x3 = 0
  · subst h0; rfl
  by_cases h1 : x3 = 1
  · subst h1; rfl
  have e : lsw 12 52 [(0, 28), (1, 40)] x3 = 64 := by
    simp [lsw, Op.lookupswitch.offset, Ne.symm h0, Ne.symm h1, h0, h1]
  rw [if_neg h0, if_neg h1]
  show some ((r32 x3 && decide (0 ≤ lsw 12 52 [(0, 28), (1, 40)] x3)) && true, (lsw 12 52 [(0, 28), (1, 40)] x3).toNat, _) = _
  rw [e, r32_of g]
  rfl
