/-! BLOCKS, by program (gen5.py) -/
-- 53: MendedOrNew$Text.append(IJ)I
theorem B53_0 (L : Nat) (V : Mv) (b : Bool) (x1 : Int) (x2 : Int) (g0 : in32 ((V 2 0) + x1)) : nxs 6 53 0 [some (.inr (.inr 2)), some (.inl x1), some (.inr (.inl x2)), none, none] [] (M0 L V b) = some (true, cond (decide ((V 2 0) + x1 ≤ 64)) 14 11, [some (.inr (.inr 2)), some (.inl x1), some (.inr (.inl x2)), none, none], [], M0 L V b) := by
  have f0 : (r32 ((V 2 0) + x1) && r32 64) = true := rr32_of g0 (by decide)
  have hG : ((r32 ((V 2 0) + x1) && r32 64) && true) = true := an f0 rfl
  show some ((r32 ((V 2 0) + x1) && r32 64) && true, _) = _
  rw [hG]
  try rfl

theorem B53_11 (L : Nat) (V : Mv) (b : Bool) (x1 : Int) (x2 : Int)  : nxs 1 53 11 [some (.inr (.inr 2)), some (.inl x1), some (.inr (.inl x2)), none, none] [] (M0 L V b) = some (true, 13, [some (.inr (.inr 2)), some (.inl x1), some (.inr (.inl x2)), none, none], [.inl (-4)], M0 L V b) := by
  rfl

theorem B53_14 (L : Nat) (V : Mv) (b : Bool) (x1 : Int) (x2 : Int)  : nxs 4 53 14 [some (.inr (.inr 2)), some (.inl x1), some (.inr (.inl x2)), none, none] [] (M0 L V b) = some (true, 19, [some (.inr (.inr 2)), some (.inl x1), some (.inr (.inl x2)), none, some (.inl (x1 - 1))], [], M0 L V b) := by
  rfl

theorem B53_19 (L : Nat) (V : Mv) (b : Bool) (x1 : Int) (x2 : Int) (x4 : Int) (g0 : in32 x4) : nxs 2 53 19 [some (.inr (.inr 2)), some (.inl x1), some (.inr (.inl x2)), none, some (.inl x4)] [] (M0 L V b) = some (true, cond (decide (x4 < 0)) 61 24, [some (.inr (.inr 2)), some (.inl x1), some (.inr (.inl x2)), none, some (.inl x4)], [], M0 L V b) := by
  have f0 : r32 x4 = true := r32_of g0
  have hG : (r32 x4 && true) = true := an f0 rfl
  show some (r32 x4 && true, _) = _
  rw [hG]
  try rfl

theorem B53_24 (L : Nat) (V : Mv) (b : Bool) (x1 : Int) (x2 : Int) (x4 : Int) (g0 : 0 ≤ V 2 0 ∧ V 2 0 < 64) : nxs 21 53 24 [some (.inr (.inr 2)), some (.inl x1), some (.inr (.inl x2)), none, some (.inl x4)] [] (M0 L V b) = some (true, 19, [some (.inr (.inr 2)), some (.inl x1), some (.inr (.inl x2)), none, some (.inl (x4 + (-1)))], [], M0 L (uV (uV V 3 (V 2 0).toNat (oAnd (oLushr x2 (8 * x4)) 255)) 2 0 (((uV V 3 (V 2 0).toNat (oAnd (oLushr x2 (8 * x4)) 255)) 2 0) + 1)) b) := by
  have f0 : (gX (M0 L V b) 3 1 (V 2 0) && !Nat.beq 3 0) = true := gs_of (gx_of rfl g0) (by decide)
  have hG : ((gX (M0 L V b) 3 1 (V 2 0) && !Nat.beq 3 0) && true) = true := an f0 rfl
  show some ((gX (M0 L V b) 3 1 (V 2 0) && !Nat.beq 3 0) && true, _) = _
  rw [hG]
  try rfl

theorem B53_61 (L : Nat) (V : Mv) (b : Bool) (x1 : Int) (x2 : Int) (x4 : Int)  : nxs 2 53 61 [some (.inr (.inr 2)), some (.inl x1), some (.inr (.inl x2)), none, some (.inl x4)] [] (M0 L V b) = some (true, 65, [some (.inr (.inr 2)), some (.inl x1), some (.inr (.inl x2)), none, some (.inl x4)], [.inl (V 2 0)], M0 L V b) := by
  rfl

-- 54: MendedOrNew$Text.readInto(LMendedOrNew$Kind;)I
theorem B54_0 (L : Nat) (V : Mv) (b : Bool) (x1 : Nat)  : nxs 8 54 0 [some (.inr (.inr 2)), some (.inr (.inr x1)), none] [] (M0 L V b) = some (true, 13, [some (.inr (.inr 2)), some (.inr (.inr x1)), none], [.inr (.inr x1), .inr (.inr 2)], M0 L (uV (uV V 2 2 0) 2 3 (-9)) b) := by
  rfl

theorem B54_16 (L : Nat) (V : Mv) (b : Bool) (x1 : Nat)  : nxs 2 54 16 [some (.inr (.inr 2)), some (.inr (.inr x1)), none] [] (M0 L V b) = some (true, 18, [some (.inr (.inr 2)), some (.inr (.inr x1)), some (.inl 0)], [], M0 L V b) := by
  rfl

theorem B54_18 (L : Nat) (V : Mv) (b : Bool) (x1 : Nat) (x2 : Int) (g0 : in32 x2) : nxs 3 54 18 [some (.inr (.inr 2)), some (.inr (.inr x1)), some (.inl x2)] [] (M0 L V b) = some (true, cond (decide (64 ≤ x2)) 55 24, [some (.inr (.inr 2)), some (.inr (.inr x1)), some (.inl x2)], [], M0 L V b) := by
  have f0 : (r32 x2 && r32 64) = true := rr32_of g0 (by decide)
  have hG : ((r32 x2 && r32 64) && true) = true := an f0 rfl
  show some ((r32 x2 && r32 64) && true, _) = _
  rw [hG]
  try rfl

theorem B54_24 (L : Nat) (V : Mv) (b : Bool) (x1 : Nat) (x2 : Int) (g0 : in32 (V 2 3)) : nxs 4 54 24 [some (.inr (.inr 2)), some (.inr (.inr x1)), some (.inl x2)] [] (M0 L V b) = some (true, cond (!decide (V 2 3 = (-9))) 55 33, [some (.inr (.inr 2)), some (.inr (.inr x1)), some (.inl x2)], [], M0 L V b) := by
  have f0 : (r32 (V 2 3) && r32 (-9)) = true := rr32_of g0 (by decide)
  have hG : ((r32 (V 2 3) && r32 (-9)) && true) = true := an f0 rfl
  show some ((r32 (V 2 3) && r32 (-9)) && true, _) = _
  rw [hG]
  try rfl

theorem B54_33 (L : Nat) (V : Mv) (b : Bool) (x1 : Nat) (x2 : Int) (g0 : in32 (V 2 2)) (g1 : in32 (V 2 0)) : nxs 5 54 33 [some (.inr (.inr 2)), some (.inr (.inr x1)), some (.inl x2)] [] (M0 L V b) = some (true, cond (decide (V 2 0 ≤ V 2 2)) 55 44, [some (.inr (.inr 2)), some (.inr (.inr x1)), some (.inl x2)], [], M0 L V b) := by
  have f0 : (r32 (V 2 2) && r32 (V 2 0)) = true := rr32_of g0 g1
  have hG : ((r32 (V 2 2) && r32 (V 2 0)) && true) = true := an f0 rfl
  show some ((r32 (V 2 2) && r32 (V 2 0)) && true, _) = _
  rw [hG]
  try rfl

theorem B54_44 (L : Nat) (V : Mv) (b : Bool) (x1 : Nat) (x2 : Int)  : nxs 2 54 44 [some (.inr (.inr 2)), some (.inr (.inr x1)), some (.inl x2)] [] (M0 L V b) = some (true, 46, [some (.inr (.inr 2)), some (.inr (.inr x1)), some (.inl x2)], [.inr (.inr x1), .inr (.inr 2)], M0 L V b) := by
  rfl

theorem B54_49 (L : Nat) (V : Mv) (b : Bool) (x1 : Nat) (x2 : Int)  : nxs 2 54 49 [some (.inr (.inr 2)), some (.inr (.inr x1)), some (.inl x2)] [] (M0 L V b) = some (true, 18, [some (.inr (.inr 2)), some (.inr (.inr x1)), some (.inl (x2 + 1))], [], M0 L V b) := by
  rfl

theorem B54_55 (L : Nat) (V : Mv) (b : Bool) (x1 : Nat) (x2 : Int)  : nxs 2 54 55 [some (.inr (.inr 2)), some (.inr (.inr x1)), some (.inl x2)] [] (M0 L V b) = some (true, 59, [some (.inr (.inr 2)), some (.inr (.inr x1)), some (.inl x2)], [.inl (V 2 3)], M0 L V b) := by
  rfl

-- 55: MendedOrNew$Text.readFirstPart(LMendedOrNew$Kind;)V
theorem B55_0 (L : Nat) (V : Mv) (b : Bool) (x1 : Nat) (g0 : in32 (V 2 0)) : nxs 3 55 0 [some (.inr (.inr 2)), some (.inr (.inr x1)), none] [] (M0 L V b) = some (true, cond (decide (V 2 0 = 0)) 18 7, [some (.inr (.inr 2)), some (.inr (.inr x1)), none], [], M0 L V b) := by
  have f0 : r32 (V 2 0) = true := r32_of g0
  have hG : (r32 (V 2 0) && true) = true := an f0 rfl
  show some (r32 (V 2 0) && true, _) = _
  rw [hG]
  try rfl

theorem B55_7 (L : Nat) (V : Mv) (b : Bool) (x1 : Nat) (g0 : in32 (V 3 (0 : Int).toNat)) : nxs 6 55 7 [some (.inr (.inr 2)), some (.inr (.inr x1)), none] [] (M0 L V b) = some (true, cond (decide (V 3 (0 : Int).toNat = 78)) 24 18, [some (.inr (.inr 2)), some (.inr (.inr x1)), none], [], M0 L V b) := by
  have f0 : gX (M0 L V b) 3 1 0 = true := gx_of rfl (by decide)
  have f1 : (r32 (V 3 (0 : Int).toNat) && r32 78) = true := rr32_of g0 (by decide)
  have hG : (gX (M0 L V b) 3 1 0 && ((r32 (V 3 (0 : Int).toNat) && r32 78) && true)) = true := an f0 (an f1 rfl)
  show some (gX (M0 L V b) 3 1 0 && ((r32 (V 3 (0 : Int).toNat) && r32 78) && true), _) = _
  rw [hG]
  try rfl

theorem B55_18 (L : Nat) (V : Mv) (b : Bool) (x1 : Nat)  : nxs 3 55 18 [some (.inr (.inr 2)), some (.inr (.inr x1)), none] [] (M0 L V b) = some (true, 23, [some (.inr (.inr 2)), some (.inr (.inr x1)), none], [], M0 L (uV V 2 3 0) b) := by
  rfl

theorem B55_24 (L : Nat) (V : Mv) (b : Bool) (x1 : Nat)  : nxs 5 55 24 [some (.inr (.inr 2)), some (.inr (.inr x1)), none] [] (M0 L V b) = some (true, 32, [some (.inr (.inr 2)), some (.inr (.inr x1)), none], [.inl 9, .inr (.inr 2)], M0 L (uV V 2 2 1) b) := by
  rfl

theorem B55_35 (L : Nat) (V : Mv) (b : Bool) (x1 : Nat) (s1 : Int)  : nxs 1 55 35 [some (.inr (.inr 2)), some (.inr (.inr x1)), none] [.inl s1, .inr (.inr 2)] (M0 L V b) = some (true, 36, [some (.inr (.inr 2)), some (.inr (.inr x1)), none], [.inl 2, .inl s1, .inr (.inr 2)], M0 L V b) := by
  rfl

theorem B55_39 (L : Nat) (V : Mv) (b : Bool) (x1 : Nat) (s1 : Int) (s2 : Int)  : nxs 3 55 39 [some (.inr (.inr 2)), some (.inr (.inr x1)), none] [.inl s2, .inl s1, .inr (.inr 2)] (M0 L V b) = some (true, 42, [some (.inr (.inr 2)), some (.inr (.inr x1)), none], [.inl (oAnd s1 (oXor s2 (-1))), .inr (.inr 2)], M0 L V b) := by
  rfl

theorem B55_45 (L : Nat) (V : Mv) (b : Bool) (x1 : Nat) (s0 : Int) (g0 : in32 s0) : nxs 3 55 45 [some (.inr (.inr 2)), some (.inr (.inr x1)), none] [.inl s0] (M0 L V b) = some (true, cond (decide (s0 < 0)) 55 50, [some (.inr (.inr 2)), some (.inr (.inr x1)), some (.inl s0)], [], M0 L V b) := by
  have f0 : r32 s0 = true := r32_of g0
  have hG : (r32 s0 && true) = true := an f0 rfl
  show some (r32 s0 && true, _) = _
  rw [hG]
  try rfl

theorem B55_50 (L : Nat) (V : Mv) (b : Bool) (x1 : Nat) (x2 : Int)  : nxs 2 55 50 [some (.inr (.inr 2)), some (.inr (.inr x1)), some (.inl x2)] [] (M0 L V b) = some (true, 52, [some (.inr (.inr 2)), some (.inr (.inr x1)), some (.inl x2)], [.inl x2, .inr (.inr x1)], M0 L V b) := by
  rfl

-- 56: MendedOrNew$Text.bitsBelow(I)I
theorem B56_0 (L : Nat) (V : Mv) (b : Bool) (x0 : Int)  : nxs 5 56 0 [some (.inl x0)] [] (M0 L V b) = some (true, 5, [some (.inl x0)], [.inl ((oShl 1 x0) - 1)], M0 L V b) := by
  rfl

-- 57: MendedOrNew$Text.takeFigure(I)I
theorem B57_0 (L : Nat) (V : Mv) (b : Bool) (x1 : Int) (g0 : in32 (V 2 3)) : nxs 4 57 0 [some (.inr (.inr 2)), some (.inl x1), none] [] (M0 L V b) = some (true, cond (decide (V 2 3 = (-9))) 12 9, [some (.inr (.inr 2)), some (.inl x1), none], [], M0 L V b) := by
  have f0 : (r32 (V 2 3) && r32 (-9)) = true := rr32_of g0 (by decide)
  have hG : ((r32 (V 2 3) && r32 (-9)) && true) = true := an f0 rfl
  show some ((r32 (V 2 3) && r32 (-9)) && true, _) = _
  rw [hG]
  try rfl

theorem B57_9 (L : Nat) (V : Mv) (b : Bool) (x1 : Int)  : nxs 1 57 9 [some (.inr (.inr 2)), some (.inl x1), none] [] (M0 L V b) = some (true, 11, [some (.inr (.inr 2)), some (.inl x1), none], [.inl (-9)], M0 L V b) := by
  rfl

theorem B57_12 (L : Nat) (V : Mv) (b : Bool) (x1 : Int) (g0 : in32 (V 2 2)) (g1 : in32 (V 2 0)) : nxs 5 57 12 [some (.inr (.inr 2)), some (.inl x1), none] [] (M0 L V b) = some (true, cond (decide (V 2 0 ≤ V 2 2)) 38 23, [some (.inr (.inr 2)), some (.inl x1), none], [], M0 L V b) := by
  have f0 : (r32 (V 2 2) && r32 (V 2 0)) = true := rr32_of g0 g1
  have hG : ((r32 (V 2 2) && r32 (V 2 0)) && true) = true := an f0 rfl
  show some ((r32 (V 2 2) && r32 (V 2 0)) && true, _) = _
  rw [hG]
  try rfl

theorem B57_23 (L : Nat) (V : Mv) (b : Bool) (x1 : Int) (g0 : 0 ≤ V 2 2 ∧ V 2 2 < 64) : nxs 8 57 23 [some (.inr (.inr 2)), some (.inl x1), none] [] (M0 L V b) = some (true, 40, [some (.inr (.inr 2)), some (.inl x1), none], [.inl ((V 3 (V 2 2).toNat) - 48)], M0 L V b) := by
  have f0 : gX (M0 L V b) 3 1 (V 2 2) = true := gx_of rfl g0
  have hG : (gX (M0 L V b) 3 1 (V 2 2) && true) = true := an f0 rfl
  show some (gX (M0 L V b) 3 1 (V 2 2) && true, _) = _
  rw [hG]
  try rfl

theorem B57_38 (L : Nat) (V : Mv) (b : Bool) (x1 : Int)  : nxs 1 57 38 [some (.inr (.inr 2)), some (.inl x1), none] [] (M0 L V b) = some (true, 40, [some (.inr (.inr 2)), some (.inl x1), none], [.inl (-9)], M0 L V b) := by
  rfl

theorem B57_40 (L : Nat) (V : Mv) (b : Bool) (x1 : Int) (s0 : Int) (g0 : in32 s0) : nxs 3 57 40 [some (.inr (.inr 2)), some (.inl x1), none] [.inl s0] (M0 L V b) = some (true, cond (decide (s0 < 0)) 59 45, [some (.inr (.inr 2)), some (.inl x1), some (.inl s0)], [], M0 L V b) := by
  have f0 : r32 s0 = true := r32_of g0
  have hG : (r32 s0 && true) = true := an f0 rfl
  show some (r32 s0 && true, _) = _
  rw [hG]
  try rfl

theorem B57_45 (L : Nat) (V : Mv) (b : Bool) (x1 : Int) (x2 : Int) (g0 : in32 x2) : nxs 3 57 45 [some (.inr (.inr 2)), some (.inl x1), some (.inl x2)] [] (M0 L V b) = some (true, cond (decide (9 < x2)) 59 51, [some (.inr (.inr 2)), some (.inl x1), some (.inl x2)], [], M0 L V b) := by
  have f0 : (r32 x2 && r32 9) = true := rr32_of g0 (by decide)
  have hG : ((r32 x2 && r32 9) && true) = true := an f0 rfl
  show some ((r32 x2 && r32 9) && true, _) = _
  rw [hG]
  try rfl

theorem B57_51 (L : Nat) (V : Mv) (b : Bool) (x1 : Int) (x2 : Int) (g0 : in32 (oAnd (oShr x1 x2) 1)) : nxs 6 57 51 [some (.inr (.inr 2)), some (.inl x1), some (.inl x2)] [] (M0 L V b) = some (true, cond (!decide (oAnd (oShr x1 x2) 1 = 0)) 70 59, [some (.inr (.inr 2)), some (.inl x1), some (.inl x2)], [], M0 L V b) := by
  have f0 : r32 (oAnd (oShr x1 x2) 1) = true := r32_of g0
  have hG : (r32 (oAnd (oShr x1 x2) 1) && true) = true := an f0 rfl
  show some (r32 (oAnd (oShr x1 x2) 1) && true, _) = _
  rw [hG]
  try rfl

theorem B57_59 (L : Nat) (V : Mv) (b : Bool) (x1 : Int) (x2 : Int)  : nxs 5 57 59 [some (.inr (.inr 2)), some (.inl x1), some (.inl x2)] [] (M0 L V b) = some (true, 69, [some (.inr (.inr 2)), some (.inl x1), some (.inl x2)], [.inl (-9)], M0 L (uV V 2 3 (V 2 2)) b) := by
  rfl

theorem B57_70 (L : Nat) (V : Mv) (b : Bool) (x1 : Int) (x2 : Int)  : nxs 7 57 70 [some (.inr (.inr 2)), some (.inl x1), some (.inl x2)] [] (M0 L V b) = some (true, 81, [some (.inr (.inr 2)), some (.inl x1), some (.inl x2)], [.inl x2], M0 L (uV V 2 2 ((V 2 2) + 1)) b) := by
  rfl

-- 58: MendedOrNew$Text.readPart(LMendedOrNew$Kind;)V
theorem B58_60 (L : Nat) (V : Mv) (b : Bool) (x1 : Nat)  : nxs 2 58 60 [some (.inr (.inr 2)), some (.inr (.inr x1))] [] (M0 L V b) = some (true, 62, [some (.inr (.inr 2)), some (.inr (.inr x1))], [.inr (.inr x1), .inr (.inr 2)], M0 L V b) := by
  rfl

theorem B58_65 (L : Nat) (V : Mv) (b : Bool) (x1 : Nat)  : nxs 1 58 65 [some (.inr (.inr 2)), some (.inr (.inr x1))] [] (M0 L V b) = some (true, 108, [some (.inr (.inr 2)), some (.inr (.inr x1))], [], M0 L V b) := by
  rfl

theorem B58_68 (L : Nat) (V : Mv) (b : Bool) (x1 : Nat)  : nxs 2 58 68 [some (.inr (.inr 2)), some (.inr (.inr x1))] [] (M0 L V b) = some (true, 70, [some (.inr (.inr 2)), some (.inr (.inr x1))], [.inr (.inr x1), .inr (.inr 2)], M0 L V b) := by
  rfl

theorem B58_73 (L : Nat) (V : Mv) (b : Bool) (x1 : Nat)  : nxs 1 58 73 [some (.inr (.inr 2)), some (.inr (.inr x1))] [] (M0 L V b) = some (true, 108, [some (.inr (.inr 2)), some (.inr (.inr x1))], [], M0 L V b) := by
  rfl

theorem B58_76 (L : Nat) (V : Mv) (b : Bool) (x1 : Nat)  : nxs 2 58 76 [some (.inr (.inr 2)), some (.inr (.inr x1))] [] (M0 L V b) = some (true, 78, [some (.inr (.inr 2)), some (.inr (.inr x1))], [.inr (.inr x1), .inr (.inr 2)], M0 L V b) := by
  rfl

theorem B58_81 (L : Nat) (V : Mv) (b : Bool) (x1 : Nat)  : nxs 1 58 81 [some (.inr (.inr 2)), some (.inr (.inr x1))] [] (M0 L V b) = some (true, 108, [some (.inr (.inr 2)), some (.inr (.inr x1))], [], M0 L V b) := by
  rfl

theorem B58_84 (L : Nat) (V : Mv) (b : Bool) (x1 : Nat)  : nxs 2 58 84 [some (.inr (.inr 2)), some (.inr (.inr x1))] [] (M0 L V b) = some (true, 86, [some (.inr (.inr 2)), some (.inr (.inr x1))], [.inr (.inr x1), .inr (.inr 2)], M0 L V b) := by
  rfl

theorem B58_89 (L : Nat) (V : Mv) (b : Bool) (x1 : Nat)  : nxs 1 58 89 [some (.inr (.inr 2)), some (.inr (.inr x1))] [] (M0 L V b) = some (true, 108, [some (.inr (.inr 2)), some (.inr (.inr x1))], [], M0 L V b) := by
  rfl

theorem B58_92 (L : Nat) (V : Mv) (b : Bool) (x1 : Nat)  : nxs 2 58 92 [some (.inr (.inr 2)), some (.inr (.inr x1))] [] (M0 L V b) = some (true, 94, [some (.inr (.inr 2)), some (.inr (.inr x1))], [.inr (.inr x1), .inr (.inr 2)], M0 L V b) := by
  rfl

theorem B58_97 (L : Nat) (V : Mv) (b : Bool) (x1 : Nat)  : nxs 1 58 97 [some (.inr (.inr 2)), some (.inr (.inr x1))] [] (M0 L V b) = some (true, 108, [some (.inr (.inr 2)), some (.inr (.inr x1))], [], M0 L V b) := by
  rfl

theorem B58_100 (L : Nat) (V : Mv) (b : Bool) (x1 : Nat)  : nxs 4 58 100 [some (.inr (.inr 2)), some (.inr (.inr x1))] [] (M0 L V b) = some (true, 108, [some (.inr (.inr 2)), some (.inr (.inr x1))], [], M0 L (uV V 2 3 (V 2 2)) b) := by
  rfl

-- 59: MendedOrNew$Text.readWay(LMendedOrNew$Kind;)V
theorem B59_0 (L : Nat) (V : Mv) (b : Bool) (x1 : Nat)  : nxs 2 59 0 [some (.inr (.inr 2)), some (.inr (.inr x1)), none, none, none, none] [] (M0 L V b) = some (true, 2, [some (.inr (.inr 2)), some (.inr (.inr x1)), none, none, none, none], [.inr (.inr x1), .inr (.inr 2)], M0 L V b) := by
  rfl

theorem B59_8 (L : Nat) (V : Mv) (b : Bool) (x1 : Nat) (s0 : Int) (g0 : in32 s0) : nxs 3 59 8 [some (.inr (.inr 2)), some (.inr (.inr x1)), none, none, none, none] [.inl s0] (M0 L V b) = some (true, cond (decide (0 ≤ s0)) 18 13, [some (.inr (.inr 2)), some (.inr (.inr x1)), some (.inl s0), none, none, none], [], M0 L V b) := by
  have f0 : r32 s0 = true := r32_of g0
  have hG : (r32 s0 && true) = true := an f0 rfl
  show some (r32 s0 && true, _) = _
  rw [hG]
  try rfl

theorem B59_13 (L : Nat) (V : Mv) (b : Bool) (x1 : Nat) (x2 : Int)  : nxs 2 59 13 [some (.inr (.inr 2)), some (.inr (.inr x1)), some (.inl x2), none, none, none] [] (M0 L V b) = some (true, 27, [some (.inr (.inr 2)), some (.inr (.inr x1)), some (.inl x2), none, none, none], [.inl (-9)], M0 L V b) := by
  rfl

theorem B59_18 (L : Nat) (V : Mv) (b : Bool) (x1 : Nat) (x2 : Int)  : nxs 3 59 18 [some (.inr (.inr 2)), some (.inr (.inr x1)), some (.inl x2), none, none, none] [] (M0 L V b) = some (true, 21, [some (.inr (.inr 2)), some (.inr (.inr x1)), some (.inl x2), none, none, none], [.inl x2, .inr (.inr x1), .inr (.inr 2)], M0 L V b) := by
  rfl

theorem B59_27 (L : Nat) (V : Mv) (b : Bool) (x1 : Nat) (x2 : Int) (s0 : Int) (g0 : in32 s0) : nxs 3 59 27 [some (.inr (.inr 2)), some (.inr (.inr x1)), some (.inl x2), none, none, none] [.inl s0] (M0 L V b) = some (true, cond (decide (0 ≤ s0)) 36 32, [some (.inr (.inr 2)), some (.inr (.inr x1)), some (.inl x2), some (.inl s0), none, none], [], M0 L V b) := by
  have f0 : r32 s0 = true := r32_of g0
  have hG : (r32 s0 && true) = true := an f0 rfl
  show some (r32 s0 && true, _) = _
  rw [hG]
  try rfl

theorem B59_32 (L : Nat) (V : Mv) (b : Bool) (x1 : Nat) (x2 : Int) (x3 : Int)  : nxs 2 59 32 [some (.inr (.inr 2)), some (.inr (.inr x1)), some (.inl x2), some (.inl x3), none, none] [] (M0 L V b) = some (true, 45, [some (.inr (.inr 2)), some (.inr (.inr x1)), some (.inl x2), some (.inl x3), none, none], [.inl 0], M0 L V b) := by
  rfl

theorem B59_36 (L : Nat) (V : Mv) (b : Bool) (x1 : Nat) (x2 : Int) (x3 : Int) (c_x1 : isK x1) (g0 : 0 ≤ x2 ∧ x2 < 8) : nxs 6 59 36 [some (.inr (.inr 2)), some (.inr (.inr x1)), some (.inl x2), some (.inl x3), none, none] [] (M0 L V b) = some (true, 45, [some (.inr (.inr 2)), some (.inr (.inr x1)), some (.inl x2), some (.inl x3), none, none], [.inl (10 - (V (x1 + 2) (x2).toNat))], M0 L V b) := by
  have f0 : (decide ((TT L x1).1 = 64 + 2) && decide (RR b x1 5 = some (x1 + 2))) = true := clr_of (isK_T c_x1) (isK_R5 c_x1)
  have f1 : gX (M0 L V b) (x1 + 2) 1 x2 = true := gx_of (show aT _ _ = _ from isK_A5 (L := L) c_x1) g0
  have hG : ((decide ((TT L x1).1 = 64 + 2) && decide (RR b x1 5 = some (x1 + 2))) && (gX (M0 L V b) (x1 + 2) 1 x2 && true)) = true := an f0 (an f1 rfl)
  show some ((decide ((TT L x1).1 = 64 + 2) && decide (RR b x1 5 = some (x1 + 2))) && (gX (M0 L V b) (x1 + 2) 1 x2 && true), _) = _
  rw [hG]
  try rfl

theorem B59_45 (L : Nat) (V : Mv) (b : Bool) (x1 : Nat) (x2 : Int) (x3 : Int) (s0 : Int)  : nxs 6 59 45 [some (.inr (.inr 2)), some (.inr (.inr x1)), some (.inl x2), some (.inl x3), none, none] [.inl s0] (M0 L V b) = some (true, 55, [some (.inr (.inr 2)), some (.inr (.inr x1)), some (.inl x2), some (.inl x3), some (.inl s0), none], [.inl (s0 + 1), .inl 1022, .inr (.inr 2)], M0 L V b) := by
  rfl

theorem B59_58 (L : Nat) (V : Mv) (b : Bool) (x1 : Nat) (x2 : Int) (x3 : Int) (x4 : Int) (s1 : Int) (s2 : Int)  : nxs 1 59 58 [some (.inr (.inr 2)), some (.inr (.inr x1)), some (.inl x2), some (.inl x3), some (.inl x4), none] [.inl s2, .inl s1, .inr (.inr 2)] (M0 L V b) = some (true, 59, [some (.inr (.inr 2)), some (.inr (.inr x1)), some (.inl x2), some (.inl x3), some (.inl x4), none], [.inl (oAnd s1 s2), .inr (.inr 2)], M0 L V b) := by
  rfl

theorem B59_62 (L : Nat) (V : Mv) (b : Bool) (x1 : Nat) (x2 : Int) (x3 : Int) (x4 : Int) (s0 : Int) (g0 : in32 s0) : nxs 3 59 62 [some (.inr (.inr 2)), some (.inr (.inr x1)), some (.inl x2), some (.inl x3), some (.inl x4), none] [.inl s0] (M0 L V b) = some (true, cond (decide (s0 < 0)) 77 69, [some (.inr (.inr 2)), some (.inr (.inr x1)), some (.inl x2), some (.inl x3), some (.inl x4), some (.inl s0)], [], M0 L V b) := by
  have f0 : r32 s0 = true := r32_of g0
  have hG : (r32 s0 && true) = true := an f0 rfl
  show some (r32 s0 && true, _) = _
  rw [hG]
  try rfl

theorem B59_69 (L : Nat) (V : Mv) (b : Bool) (x1 : Nat) (x2 : Int) (x3 : Int) (x4 : Int) (x5 : Int)  : nxs 4 59 69 [some (.inr (.inr 2)), some (.inr (.inr x1)), some (.inl x2), some (.inl x3), some (.inl x4), some (.inl x5)] [] (M0 L V b) = some (true, 74, [some (.inr (.inr 2)), some (.inr (.inr x1)), some (.inl x2), some (.inl x3), some (.inl x4), some (.inl x5)], [.inl x5, .inl x3, .inl x2, .inr (.inr x1)], M0 L V b) := by
  rfl

-- 60: MendedOrNew$Text.takeName(I)I
theorem B60_0 (L : Nat) (V : Mv) (b : Bool) (x1 : Int) (g0 : in32 x1) : nxs 2 60 0 [some (.inr (.inr 2)), some (.inl x1)] [] (M0 L V b) = some (true, cond (!decide (x1 = 0)) 15 4, [some (.inr (.inr 2)), some (.inl x1)], [], M0 L V b) := by
  have f0 : r32 x1 = true := r32_of g0
  have hG : (r32 x1 && true) = true := an f0 rfl
  show some (r32 x1 && true, _) = _
  rw [hG]
  try rfl

theorem B60_4 (L : Nat) (V : Mv) (b : Bool) (x1 : Int)  : nxs 5 60 4 [some (.inr (.inr 2)), some (.inl x1)] [] (M0 L V b) = some (true, 14, [some (.inr (.inr 2)), some (.inl x1)], [.inl (-9)], M0 L (uV V 2 3 (V 2 2)) b) := by
  rfl

theorem B60_15 (L : Nat) (V : Mv) (b : Bool) (x1 : Int)  : nxs 8 60 15 [some (.inr (.inr 2)), some (.inl x1)] [] (M0 L V b) = some (true, 27, [some (.inr (.inr 2)), some (.inl x1)], [.inl x1, .inr (.inr 2)], M0 L (uV V 2 2 ((V 2 2) + 1)) b) := by
  rfl

-- 61: MendedOrNew$Text.readCost(LMendedOrNew$Kind;)V
theorem B61_0 (L : Nat) (V : Mv) (b : Bool) (x1 : Nat) (c_x1 : isK x1) : nxs 3 61 0 [some (.inr (.inr 2)), some (.inr (.inr x1)), none, none] [] (M0 L V b) = some (true, 5, [some (.inr (.inr 2)), some (.inr (.inr x1)), none, none], [.inl (V x1 0), .inr (.inr 2)], M0 L V b) := by
  have f0 : decide ((TT L x1).1 = 64 + 2) = true := cls_of (isK_T c_x1)
  have hG : (decide ((TT L x1).1 = 64 + 2) && true) = true := an f0 rfl
  show some (decide ((TT L x1).1 = 64 + 2) && true, _) = _
  rw [hG]
  try rfl

theorem B61_8 (L : Nat) (V : Mv) (b : Bool) (x1 : Nat) (s1 : Int) (c_x1 : isK x1) : nxs 5 61 8 [some (.inr (.inr 2)), some (.inr (.inr x1)), none, none] [.inl s1, .inr (.inr 2)] (M0 L V b) = some (true, 15, [some (.inr (.inr 2)), some (.inr (.inr x1)), none, none], [.inl (oAnd s1 (oXor (V x1 2) (-1))), .inr (.inr 2)], M0 L V b) := by
  have f0 : decide ((TT L x1).1 = 64 + 2) = true := cls_of (isK_T c_x1)
  have hG : (decide ((TT L x1).1 = 64 + 2) && true) = true := an f0 rfl
  show some (decide ((TT L x1).1 = 64 + 2) && true, _) = _
  rw [hG]
  try rfl

theorem B61_18 (L : Nat) (V : Mv) (b : Bool) (x1 : Nat) (s0 : Int)  : nxs 2 61 18 [some (.inr (.inr 2)), some (.inr (.inr x1)), none, none] [.inl s0] (M0 L V b) = some (true, 20, [some (.inr (.inr 2)), some (.inr (.inr x1)), some (.inl s0), none], [.inr (.inr 2)], M0 L V b) := by
  rfl

theorem B61_23 (L : Nat) (V : Mv) (b : Bool) (x1 : Nat) (x2 : Int) (s0 : Int) (g0 : in32 s0) : nxs 3 61 23 [some (.inr (.inr 2)), some (.inr (.inr x1)), some (.inl x2), none] [.inl s0] (M0 L V b) = some (true, cond (decide (s0 < 0)) 47 28, [some (.inr (.inr 2)), some (.inr (.inr x1)), some (.inl x2), some (.inl s0)], [], M0 L V b) := by
  have f0 : r32 s0 = true := r32_of g0
  have hG : (r32 s0 && true) = true := an f0 rfl
  show some (r32 s0 && true, _) = _
  rw [hG]
  try rfl

theorem B61_28 (L : Nat) (V : Mv) (b : Bool) (x1 : Nat) (x2 : Int) (x3 : Int) (c_x1 : isK x1) (g0 : 0 ≤ x2 ∧ x2 < 8) : nxs 13 61 28 [some (.inr (.inr 2)), some (.inr (.inr x1)), some (.inl x2), some (.inl x3)] [] (M0 L V b) = some (true, 47, [some (.inr (.inr 2)), some (.inr (.inr x1)), some (.inl x2), some (.inl x3)], [], M0 L (uV (uV V x1 2 (oOr (V x1 2) (oShl 1 x2))) (x1 + 3) (x2).toNat x3) b) := by
  have f0 : decide ((TT L x1).1 = 64 + 2) = true := cls_of (isK_T c_x1)
  have f1 : (decide ((TT L x1).1 = 64 + 2) && decide ((0 : Nat) = 0 ∨ (0 : Nat) = 3 ∧ ((oOr (V x1 2) (oShl 1 x2) : Int) = 0 ∨ (oOr (V x1 2) (oShl 1 x2) : Int) = 1))) = true := an (cls_of (isK_T c_x1)) (decide_eq_true (Or.inl rfl))
  have f2 : (decide ((TT L x1).1 = 64 + 2) && decide (RR b x1 6 = some (x1 + 3))) = true := clr_of (isK_T c_x1) (isK_R6 c_x1)
  have f3 : (gX (M0 L (uV V x1 2 (oOr (V x1 2) (oShl 1 x2))) b) (x1 + 3) 1 x2 && !Nat.beq (x1 + 3) 0) = true := gs_of (gx_of (show aT _ _ = _ from isK_A6 (L := L) c_x1) g0) (by omega)
  have hG : (decide ((TT L x1).1 = 64 + 2) && ((decide ((TT L x1).1 = 64 + 2) && decide ((0 : Nat) = 0 ∨ (0 : Nat) = 3 ∧ ((oOr (V x1 2) (oShl 1 x2) : Int) = 0 ∨ (oOr (V x1 2) (oShl 1 x2) : Int) = 1))) && ((decide ((TT L x1).1 = 64 + 2) && decide (RR b x1 6 = some (x1 + 3))) && ((gX (M0 L (uV V x1 2 (oOr (V x1 2) (oShl 1 x2))) b) (x1 + 3) 1 x2 && !Nat.beq (x1 + 3) 0) && true)))) = true := an f0 (an f1 (an f2 (an f3 rfl)))
  show some (decide ((TT L x1).1 = 64 + 2) && ((decide ((TT L x1).1 = 64 + 2) && decide ((0 : Nat) = 0 ∨ (0 : Nat) = 3 ∧ ((oOr (V x1 2) (oShl 1 x2) : Int) = 0 ∨ (oOr (V x1 2) (oShl 1 x2) : Int) = 1))) && ((decide ((TT L x1).1 = 64 + 2) && decide (RR b x1 6 = some (x1 + 3))) && ((gX (M0 L (uV V x1 2 (oOr (V x1 2) (oShl 1 x2))) b) (x1 + 3) 1 x2 && !Nat.beq (x1 + 3) 0) && true))), _) = _
  rw [hG]
  try rfl

-- 62: MendedOrNew$Text.takePrice()I
theorem B62_0 (L : Nat) (V : Mv) (b : Bool)   : nxs 2 62 0 [some (.inr (.inr 2)), none, none] [] (M0 L V b) = some (true, 4, [some (.inr (.inr 2)), none, none], [.inl 1023, .inr (.inr 2)], M0 L V b) := by
  rfl

theorem B62_7 (L : Nat) (V : Mv) (b : Bool) (s0 : Int)  : nxs 3 62 7 [some (.inr (.inr 2)), none, none] [.inl s0] (M0 L V b) = some (true, 12, [some (.inr (.inr 2)), some (.inl s0), none], [.inl 1023, .inr (.inr 2)], M0 L V b) := by
  rfl

theorem B62_15 (L : Nat) (V : Mv) (b : Bool) (x1 : Int) (s0 : Int) (g0 : in32 s0) : nxs 3 62 15 [some (.inr (.inr 2)), some (.inl x1), none] [.inl s0] (M0 L V b) = some (true, cond (decide (0 ≤ s0)) 25 20, [some (.inr (.inr 2)), some (.inl x1), some (.inl s0)], [], M0 L V b) := by
  have f0 : r32 s0 = true := r32_of g0
  have hG : (r32 s0 && true) = true := an f0 rfl
  show some (r32 s0 && true, _) = _
  rw [hG]
  try rfl

theorem B62_20 (L : Nat) (V : Mv) (b : Bool) (x1 : Int) (x2 : Int)  : nxs 2 62 20 [some (.inr (.inr 2)), some (.inl x1), some (.inl x2)] [] (M0 L V b) = some (true, 31, [some (.inr (.inr 2)), some (.inl x1), some (.inl x2)], [.inl (-9)], M0 L V b) := by
  rfl

theorem B62_25 (L : Nat) (V : Mv) (b : Bool) (x1 : Int) (x2 : Int)  : nxs 5 62 25 [some (.inr (.inr 2)), some (.inl x1), some (.inl x2)] [] (M0 L V b) = some (true, 31, [some (.inr (.inr 2)), some (.inl x1), some (.inl x2)], [.inl ((10 * x1) + x2)], M0 L V b) := by
  rfl

-- 63: MendedOrNew$Text.readKnock(LMendedOrNew$Kind;)V
theorem B63_0 (L : Nat) (V : Mv) (b : Bool) (x1 : Nat) (c_x1 : isK x1) : nxs 3 63 0 [some (.inr (.inr 2)), some (.inr (.inr x1)), none, none] [] (M0 L V b) = some (true, 5, [some (.inr (.inr 2)), some (.inr (.inr x1)), none, none], [.inl (V x1 0), .inr (.inr 2)], M0 L V b) := by
  have f0 : decide ((TT L x1).1 = 64 + 2) = true := cls_of (isK_T c_x1)
  have hG : (decide ((TT L x1).1 = 64 + 2) && true) = true := an f0 rfl
  show some (decide ((TT L x1).1 = 64 + 2) && true, _) = _
  rw [hG]
  try rfl

theorem B63_8 (L : Nat) (V : Mv) (b : Bool) (x1 : Nat) (s1 : Int) (c_x1 : isK x1) : nxs 5 63 8 [some (.inr (.inr 2)), some (.inr (.inr x1)), none, none] [.inl s1, .inr (.inr 2)] (M0 L V b) = some (true, 15, [some (.inr (.inr 2)), some (.inr (.inr x1)), none, none], [.inl (oAnd s1 (oXor (V x1 3) (-1))), .inr (.inr 2)], M0 L V b) := by
  have f0 : decide ((TT L x1).1 = 64 + 2) = true := cls_of (isK_T c_x1)
  have hG : (decide ((TT L x1).1 = 64 + 2) && true) = true := an f0 rfl
  show some (decide ((TT L x1).1 = 64 + 2) && true, _) = _
  rw [hG]
  try rfl

theorem B63_18 (L : Nat) (V : Mv) (b : Bool) (x1 : Nat) (s0 : Int)  : nxs 3 63 18 [some (.inr (.inr 2)), some (.inr (.inr x1)), none, none] [.inl s0] (M0 L V b) = some (true, 23, [some (.inr (.inr 2)), some (.inr (.inr x1)), some (.inl s0), none], [.inl 1022, .inr (.inr 2)], M0 L V b) := by
  rfl

theorem B63_26 (L : Nat) (V : Mv) (b : Bool) (x1 : Nat) (x2 : Int) (s0 : Int) (g0 : in32 s0) : nxs 3 63 26 [some (.inr (.inr 2)), some (.inr (.inr x1)), some (.inl x2), none] [.inl s0] (M0 L V b) = some (true, cond (decide (s0 < 0)) 50 31, [some (.inr (.inr 2)), some (.inr (.inr x1)), some (.inl x2), some (.inl s0)], [], M0 L V b) := by
  have f0 : r32 s0 = true := r32_of g0
  have hG : (r32 s0 && true) = true := an f0 rfl
  show some (r32 s0 && true, _) = _
  rw [hG]
  try rfl

theorem B63_31 (L : Nat) (V : Mv) (b : Bool) (x1 : Nat) (x2 : Int) (x3 : Int) (c_x1 : isK x1) (g0 : 0 ≤ x2 ∧ x2 < 8) : nxs 13 63 31 [some (.inr (.inr 2)), some (.inr (.inr x1)), some (.inl x2), some (.inl x3)] [] (M0 L V b) = some (true, 50, [some (.inr (.inr 2)), some (.inr (.inr x1)), some (.inl x2), some (.inl x3)], [], M0 L (uV (uV V x1 3 (oOr (V x1 3) (oShl 1 x2))) (x1 + 4) (x2).toNat x3) b) := by
  have f0 : decide ((TT L x1).1 = 64 + 2) = true := cls_of (isK_T c_x1)
  have f1 : (decide ((TT L x1).1 = 64 + 2) && decide ((0 : Nat) = 0 ∨ (0 : Nat) = 3 ∧ ((oOr (V x1 3) (oShl 1 x2) : Int) = 0 ∨ (oOr (V x1 3) (oShl 1 x2) : Int) = 1))) = true := an (cls_of (isK_T c_x1)) (decide_eq_true (Or.inl rfl))
  have f2 : (decide ((TT L x1).1 = 64 + 2) && decide (RR b x1 7 = some (x1 + 4))) = true := clr_of (isK_T c_x1) (isK_R7 c_x1)
  have f3 : (gX (M0 L (uV V x1 3 (oOr (V x1 3) (oShl 1 x2))) b) (x1 + 4) 1 x2 && !Nat.beq (x1 + 4) 0) = true := gs_of (gx_of (show aT _ _ = _ from isK_A7 (L := L) c_x1) g0) (by omega)
  have hG : (decide ((TT L x1).1 = 64 + 2) && ((decide ((TT L x1).1 = 64 + 2) && decide ((0 : Nat) = 0 ∨ (0 : Nat) = 3 ∧ ((oOr (V x1 3) (oShl 1 x2) : Int) = 0 ∨ (oOr (V x1 3) (oShl 1 x2) : Int) = 1))) && ((decide ((TT L x1).1 = 64 + 2) && decide (RR b x1 7 = some (x1 + 4))) && ((gX (M0 L (uV V x1 3 (oOr (V x1 3) (oShl 1 x2))) b) (x1 + 4) 1 x2 && !Nat.beq (x1 + 4) 0) && true)))) = true := an f0 (an f1 (an f2 (an f3 rfl)))
  show some (decide ((TT L x1).1 = 64 + 2) && ((decide ((TT L x1).1 = 64 + 2) && decide ((0 : Nat) = 0 ∨ (0 : Nat) = 3 ∧ ((oOr (V x1 3) (oShl 1 x2) : Int) = 0 ∨ (oOr (V x1 3) (oShl 1 x2) : Int) = 1))) && ((decide ((TT L x1).1 = 64 + 2) && decide (RR b x1 7 = some (x1 + 4))) && ((gX (M0 L (uV V x1 3 (oOr (V x1 3) (oShl 1 x2))) b) (x1 + 4) 1 x2 && !Nat.beq (x1 + 4) 0) && true))), _) = _
  rw [hG]
  try rfl

-- 64: MendedOrNew$Text.readMending(LMendedOrNew$Kind;)V
theorem B64_0 (L : Nat) (V : Mv) (b : Bool) (x1 : Nat)  : nxs 2 64 0 [some (.inr (.inr 2)), some (.inr (.inr x1)), none, none, none] [] (M0 L V b) = some (true, 2, [some (.inr (.inr 2)), some (.inr (.inr x1)), none, none, none], [.inl 4, .inr (.inr 2)], M0 L V b) := by
  rfl

theorem B64_5 (L : Nat) (V : Mv) (b : Bool) (x1 : Nat) (s1 : Int)  : nxs 1 64 5 [some (.inr (.inr 2)), some (.inr (.inr x1)), none, none, none] [.inl s1, .inr (.inr 2)] (M0 L V b) = some (true, 6, [some (.inr (.inr 2)), some (.inr (.inr x1)), none, none, none], [.inr (.inr x1), .inl s1, .inr (.inr 2)], M0 L V b) := by
  rfl

theorem B64_9 (L : Nat) (V : Mv) (b : Bool) (x1 : Nat) (s1 : Int) (s2 : Int)  : nxs 3 64 9 [some (.inr (.inr 2)), some (.inr (.inr x1)), none, none, none] [.inl s2, .inl s1, .inr (.inr 2)] (M0 L V b) = some (true, 12, [some (.inr (.inr 2)), some (.inr (.inr x1)), none, none, none], [.inl (oAnd s1 (oXor s2 (-1))), .inr (.inr 2)], M0 L V b) := by
  rfl

theorem B64_15 (L : Nat) (V : Mv) (b : Bool) (x1 : Nat) (s0 : Int) (c_x1 : isK x1) : nxs 6 64 15 [some (.inr (.inr 2)), some (.inr (.inr x1)), none, none, none] [.inl s0] (M0 L V b) = some (true, 23, [some (.inr (.inr 2)), some (.inr (.inr x1)), some (.inl s0), none, none], [.inl ((V x1 0) - 1), .inr (.inr 2)], M0 L V b) := by
  have f0 : decide ((TT L x1).1 = 64 + 2) = true := cls_of (isK_T c_x1)
  have hG : (decide ((TT L x1).1 = 64 + 2) && true) = true := an f0 rfl
  show some (decide ((TT L x1).1 = 64 + 2) && true, _) = _
  rw [hG]
  try rfl

theorem B64_29 (L : Nat) (V : Mv) (b : Bool) (x1 : Nat) (x2 : Int) (s0 : Int)  : nxs 2 64 29 [some (.inr (.inr 2)), some (.inr (.inr x1)), some (.inl x2), none, none] [.inl s0] (M0 L V b) = some (true, 31, [some (.inr (.inr 2)), some (.inr (.inr x1)), some (.inl x2), some (.inl s0), none], [.inr (.inr 2)], M0 L V b) := by
  rfl

theorem B64_34 (L : Nat) (V : Mv) (b : Bool) (x1 : Nat) (x2 : Int) (x3 : Int) (s0 : Int) (g0 : in32 s0) : nxs 3 64 34 [some (.inr (.inr 2)), some (.inr (.inr x1)), some (.inl x2), some (.inl x3), none] [.inl s0] (M0 L V b) = some (true, cond (decide (s0 < 0)) 56 41, [some (.inr (.inr 2)), some (.inr (.inr x1)), some (.inl x2), some (.inl x3), some (.inl s0)], [], M0 L V b) := by
  have f0 : r32 s0 = true := r32_of g0
  have hG : (r32 s0 && true) = true := an f0 rfl
  show some (r32 s0 && true, _) = _
  rw [hG]
  try rfl

theorem B64_41 (L : Nat) (V : Mv) (b : Bool) (x1 : Nat) (x2 : Int) (x3 : Int) (x4 : Int) (c_x1 : isK x1) (g0 : 0 ≤ x2 ∧ x2 < 4) : nxs 10 64 41 [some (.inr (.inr 2)), some (.inr (.inr x1)), some (.inl x2), some (.inl x3), some (.inl x4)] [] (M0 L V b) = some (true, 56, [some (.inr (.inr 2)), some (.inr (.inr x1)), some (.inl x2), some (.inl x3), some (.inl x4)], [], M0 L (uV (uV V (x1 + 6) (x2).toNat x3) (x1 + 5) (x2).toNat x4) b) := by
  have f0 : (decide ((TT L x1).1 = 64 + 2) && decide (RR b x1 9 = some (x1 + 6))) = true := clr_of (isK_T c_x1) (isK_R9 c_x1)
  have f1 : (gX (M0 L V b) (x1 + 6) 1 x2 && !Nat.beq (x1 + 6) 0) = true := gs_of (gx_of (show aT _ _ = _ from isK_A9 (L := L) c_x1) g0) (by omega)
  have f2 : (decide ((TT L x1).1 = 64 + 2) && decide (RR b x1 8 = some (x1 + 5))) = true := clr_of (isK_T c_x1) (isK_R8 c_x1)
  have f3 : (gX (M0 L (uV V (x1 + 6) (x2).toNat x3) b) (x1 + 5) 1 x2 && !Nat.beq (x1 + 5) 0) = true := gs_of (gx_of (show aT _ _ = _ from isK_A8 (L := L) c_x1) g0) (by omega)
  have hG : ((decide ((TT L x1).1 = 64 + 2) && decide (RR b x1 9 = some (x1 + 6))) && ((gX (M0 L V b) (x1 + 6) 1 x2 && !Nat.beq (x1 + 6) 0) && ((decide ((TT L x1).1 = 64 + 2) && decide (RR b x1 8 = some (x1 + 5))) && ((gX (M0 L (uV V (x1 + 6) (x2).toNat x3) b) (x1 + 5) 1 x2 && !Nat.beq (x1 + 5) 0) && true)))) = true := an f0 (an f1 (an f2 (an f3 rfl)))
  show some ((decide ((TT L x1).1 = 64 + 2) && decide (RR b x1 9 = some (x1 + 6))) && ((gX (M0 L V b) (x1 + 6) 1 x2 && !Nat.beq (x1 + 6) 0) && ((decide ((TT L x1).1 = 64 + 2) && decide (RR b x1 8 = some (x1 + 5))) && ((gX (M0 L (uV V (x1 + 6) (x2).toNat x3) b) (x1 + 5) 1 x2 && !Nat.beq (x1 + 5) 0) && true))), _) = _
  rw [hG]
  try rfl

-- 65: MendedOrNew$Text.readLook(LMendedOrNew$Kind;)V
theorem B65_0 (L : Nat) (V : Mv) (b : Bool) (x1 : Nat)  : nxs 2 65 0 [some (.inr (.inr 2)), some (.inr (.inr x1)), none] [] (M0 L V b) = some (true, 2, [some (.inr (.inr 2)), some (.inr (.inr x1)), none], [.inr (.inr x1), .inr (.inr 2)], M0 L V b) := by
  rfl

theorem B65_5 (L : Nat) (V : Mv) (b : Bool) (x1 : Nat) (s1 : Int) (g0 : in32 s1) : nxs 1 65 5 [some (.inr (.inr 2)), some (.inr (.inr x1)), none] [.inl s1, .inr (.inr 2)] (M0 L V b) = some (true, cond (decide (s1 = 0)) 12 8, [some (.inr (.inr 2)), some (.inr (.inr x1)), none], [.inr (.inr 2)], M0 L V b) := by
  have f0 : r32 s1 = true := r32_of g0
  have hG : (r32 s1 && true) = true := an f0 rfl
  show some (r32 s1 && true, _) = _
  rw [hG]
  try rfl

theorem B65_8 (L : Nat) (V : Mv) (b : Bool) (x1 : Nat)  : nxs 2 65 8 [some (.inr (.inr 2)), some (.inr (.inr x1)), none] [.inr (.inr 2)] (M0 L V b) = some (true, 15, [some (.inr (.inr 2)), some (.inr (.inr x1)), none], [.inl 0, .inr (.inr 2)], M0 L V b) := by
  rfl

theorem B65_12 (L : Nat) (V : Mv) (b : Bool) (x1 : Nat)  : nxs 1 65 12 [some (.inr (.inr 2)), some (.inr (.inr x1)), none] [.inr (.inr 2)] (M0 L V b) = some (true, 15, [some (.inr (.inr 2)), some (.inr (.inr x1)), none], [.inl 1023, .inr (.inr 2)], M0 L V b) := by
  rfl

theorem B65_18 (L : Nat) (V : Mv) (b : Bool) (x1 : Nat) (s0 : Int) (g0 : in32 s0) : nxs 3 65 18 [some (.inr (.inr 2)), some (.inr (.inr x1)), none] [.inl s0] (M0 L V b) = some (true, cond (decide (s0 < 0)) 28 23, [some (.inr (.inr 2)), some (.inr (.inr x1)), some (.inl s0)], [], M0 L V b) := by
  have f0 : r32 s0 = true := r32_of g0
  have hG : (r32 s0 && true) = true := an f0 rfl
  show some (r32 s0 && true, _) = _
  rw [hG]
  try rfl

theorem B65_23 (L : Nat) (V : Mv) (b : Bool) (x1 : Nat) (x2 : Int) (c_x1 : isK x1) : nxs 3 65 23 [some (.inr (.inr 2)), some (.inr (.inr x1)), some (.inl x2)] [] (M0 L V b) = some (true, 28, [some (.inr (.inr 2)), some (.inr (.inr x1)), some (.inl x2)], [], M0 L (uV V x1 1 x2) b) := by
  have f0 : (decide ((TT L x1).1 = 64 + 2) && decide ((0 : Nat) = 0 ∨ (0 : Nat) = 3 ∧ ((x2 : Int) = 0 ∨ (x2 : Int) = 1))) = true := an (cls_of (isK_T c_x1)) (decide_eq_true (Or.inl rfl))
  have hG : ((decide ((TT L x1).1 = 64 + 2) && decide ((0 : Nat) = 0 ∨ (0 : Nat) = 3 ∧ ((x2 : Int) = 0 ∨ (x2 : Int) = 1))) && true) = true := an f0 rfl
  show some ((decide ((TT L x1).1 = 64 + 2) && decide ((0 : Nat) = 0 ∨ (0 : Nat) = 3 ∧ ((x2 : Int) = 0 ∨ (x2 : Int) = 1))) && true, _) = _
  rw [hG]
  try rfl

-- 67: MendedOrNew$Kind.begin(I)V
theorem B67_0 (L : Nat) (V : Mv) (b : Bool) (x0 : Nat) (x1 : Int) (c_x0 : isK x0) : nxs 14 67 0 [some (.inr (.inr x0)), some (.inl x1), none] [] (M0 L V b) = some (true, 23, [some (.inr (.inr x0)), some (.inl x1), some (.inl 0)], [], M0 L (uV (uV (uV (uV V x0 0 x1) x0 1 (-9)) x0 2 0) x0 3 0) b) := by
  have f0 : (decide ((TT L x0).1 = 64 + 2) && decide ((0 : Nat) = 0 ∨ (0 : Nat) = 3 ∧ ((x1 : Int) = 0 ∨ (x1 : Int) = 1))) = true := an (cls_of (isK_T c_x0)) (decide_eq_true (Or.inl rfl))
  have f1 : (decide ((TT L x0).1 = 64 + 2) && decide ((0 : Nat) = 0 ∨ (0 : Nat) = 3 ∧ (((-9) : Int) = 0 ∨ ((-9) : Int) = 1))) = true := an (cls_of (isK_T c_x0)) (decide_eq_true (Or.inl rfl))
  have f2 : (decide ((TT L x0).1 = 64 + 2) && decide ((0 : Nat) = 0 ∨ (0 : Nat) = 3 ∧ ((0 : Int) = 0 ∨ (0 : Int) = 1))) = true := an (cls_of (isK_T c_x0)) (decide_eq_true (Or.inl rfl))
  have f3 : (decide ((TT L x0).1 = 64 + 2) && decide ((0 : Nat) = 0 ∨ (0 : Nat) = 3 ∧ ((0 : Int) = 0 ∨ (0 : Int) = 1))) = true := an (cls_of (isK_T c_x0)) (decide_eq_true (Or.inl rfl))
  have hG : ((decide ((TT L x0).1 = 64 + 2) && decide ((0 : Nat) = 0 ∨ (0 : Nat) = 3 ∧ ((x1 : Int) = 0 ∨ (x1 : Int) = 1))) && ((decide ((TT L x0).1 = 64 + 2) && decide ((0 : Nat) = 0 ∨ (0 : Nat) = 3 ∧ (((-9) : Int) = 0 ∨ ((-9) : Int) = 1))) && ((decide ((TT L x0).1 = 64 + 2) && decide ((0 : Nat) = 0 ∨ (0 : Nat) = 3 ∧ ((0 : Int) = 0 ∨ (0 : Int) = 1))) && ((decide ((TT L x0).1 = 64 + 2) && decide ((0 : Nat) = 0 ∨ (0 : Nat) = 3 ∧ ((0 : Int) = 0 ∨ (0 : Int) = 1))) && true)))) = true := an f0 (an f1 (an f2 (an f3 rfl)))
  show some ((decide ((TT L x0).1 = 64 + 2) && decide ((0 : Nat) = 0 ∨ (0 : Nat) = 3 ∧ ((x1 : Int) = 0 ∨ (x1 : Int) = 1))) && ((decide ((TT L x0).1 = 64 + 2) && decide ((0 : Nat) = 0 ∨ (0 : Nat) = 3 ∧ (((-9) : Int) = 0 ∨ ((-9) : Int) = 1))) && ((decide ((TT L x0).1 = 64 + 2) && decide ((0 : Nat) = 0 ∨ (0 : Nat) = 3 ∧ ((0 : Int) = 0 ∨ (0 : Int) = 1))) && ((decide ((TT L x0).1 = 64 + 2) && decide ((0 : Nat) = 0 ∨ (0 : Nat) = 3 ∧ ((0 : Int) = 0 ∨ (0 : Int) = 1))) && true))), _) = _
  rw [hG]
  try rfl

theorem B67_23 (L : Nat) (V : Mv) (b : Bool) (x0 : Nat) (x1 : Int) (x2 : Int) (g0 : in32 x2) : nxs 3 67 23 [some (.inr (.inr x0)), some (.inl x1), some (.inl x2)] [] (M0 L V b) = some (true, cond (decide (64 ≤ x2)) 42 29, [some (.inr (.inr x0)), some (.inl x1), some (.inl x2)], [], M0 L V b) := by
  have f0 : (r32 x2 && r32 64) = true := rr32_of g0 (by decide)
  have hG : ((r32 x2 && r32 64) && true) = true := an f0 rfl
  show some ((r32 x2 && r32 64) && true, _) = _
  rw [hG]
  try rfl

theorem B67_29 (L : Nat) (V : Mv) (b : Bool) (x0 : Nat) (x1 : Int) (x2 : Int) (c_x0 : isK x0) (g0 : 0 ≤ x2 ∧ x2 < 64) : nxs 7 67 29 [some (.inr (.inr x0)), some (.inl x1), some (.inl x2)] [] (M0 L V b) = some (true, 23, [some (.inr (.inr x0)), some (.inl x1), some (.inl (x2 + 1))], [], M0 L (uV V (x0 + 1) (x2).toNat 0) b) := by
  have f0 : (decide ((TT L x0).1 = 64 + 2) && decide (RR b x0 4 = some (x0 + 1))) = true := clr_of (isK_T c_x0) (isK_R4 c_x0)
  have f1 : (gX (M0 L V b) (x0 + 1) 1 x2 && !Nat.beq (x0 + 1) 0) = true := gs_of (gx_of (show aT _ _ = _ from isK_A4 (L := L) c_x0) g0) (by omega)
  have hG : ((decide ((TT L x0).1 = 64 + 2) && decide (RR b x0 4 = some (x0 + 1))) && ((gX (M0 L V b) (x0 + 1) 1 x2 && !Nat.beq (x0 + 1) 0) && true)) = true := an f0 (an f1 rfl)
  show some ((decide ((TT L x0).1 = 64 + 2) && decide (RR b x0 4 = some (x0 + 1))) && ((gX (M0 L V b) (x0 + 1) 1 x2 && !Nat.beq (x0 + 1) 0) && true), _) = _
  rw [hG]
  try rfl

theorem B67_42 (L : Nat) (V : Mv) (b : Bool) (x0 : Nat) (x1 : Int) (x2 : Int)  : nxs 2 67 42 [some (.inr (.inr x0)), some (.inl x1), some (.inl x2)] [] (M0 L V b) = some (true, 44, [some (.inr (.inr x0)), some (.inl x1), some (.inl 0)], [], M0 L V b) := by
  rfl

theorem B67_44 (L : Nat) (V : Mv) (b : Bool) (x0 : Nat) (x1 : Int) (x2 : Int) (g0 : in32 x2) : nxs 3 67 44 [some (.inr (.inr x0)), some (.inl x1), some (.inl x2)] [] (M0 L V b) = some (true, cond (decide (8 ≤ x2)) 90 50, [some (.inr (.inr x0)), some (.inl x1), some (.inl x2)], [], M0 L V b) := by
  have f0 : (r32 x2 && r32 8) = true := rr32_of g0 (by decide)
  have hG : ((r32 x2 && r32 8) && true) = true := an f0 rfl
  show some ((r32 x2 && r32 8) && true, _) = _
  rw [hG]
  try rfl

theorem B67_50 (L : Nat) (V : Mv) (b : Bool) (x0 : Nat) (x1 : Int) (x2 : Int) (c_x0 : isK x0) (g0 : 0 ≤ (x2 * 8) + x2 ∧ (x2 * 8) + x2 < 64) (g1 : 0 ≤ x2 ∧ x2 < 8) : nxs 26 67 50 [some (.inr (.inr x0)), some (.inl x1), some (.inl x2)] [] (M0 L V b) = some (true, 44, [some (.inr (.inr x0)), some (.inl x1), some (.inl (x2 + 1))], [], M0 L (uV (uV (uV (uV V (x0 + 1) ((x2 * 8) + x2).toNat 10) (x0 + 2) (x2).toNat 0) (x0 + 3) (x2).toNat 0) (x0 + 4) (x2).toNat 0) b) := by
  have f0 : (decide ((TT L x0).1 = 64 + 2) && decide (RR b x0 4 = some (x0 + 1))) = true := clr_of (isK_T c_x0) (isK_R4 c_x0)
  have f1 : (gX (M0 L V b) (x0 + 1) 1 ((x2 * 8) + x2) && !Nat.beq (x0 + 1) 0) = true := gs_of (gx_of (show aT _ _ = _ from isK_A4 (L := L) c_x0) g0) (by omega)
  have f2 : (decide ((TT L x0).1 = 64 + 2) && decide (RR b x0 5 = some (x0 + 2))) = true := clr_of (isK_T c_x0) (isK_R5 c_x0)
  have f3 : (gX (M0 L (uV V (x0 + 1) ((x2 * 8) + x2).toNat 10) b) (x0 + 2) 1 x2 && !Nat.beq (x0 + 2) 0) = true := gs_of (gx_of (show aT _ _ = _ from isK_A5 (L := L) c_x0) g1) (by omega)
  have f4 : (decide ((TT L x0).1 = 64 + 2) && decide (RR b x0 6 = some (x0 + 3))) = true := clr_of (isK_T c_x0) (isK_R6 c_x0)
  have f5 : (gX (M0 L (uV (uV V (x0 + 1) ((x2 * 8) + x2).toNat 10) (x0 + 2) (x2).toNat 0) b) (x0 + 3) 1 x2 && !Nat.beq (x0 + 3) 0) = true := gs_of (gx_of (show aT _ _ = _ from isK_A6 (L := L) c_x0) g1) (by omega)
  have f6 : (decide ((TT L x0).1 = 64 + 2) && decide (RR b x0 7 = some (x0 + 4))) = true := clr_of (isK_T c_x0) (isK_R7 c_x0)
  have f7 : (gX (M0 L (uV (uV (uV V (x0 + 1) ((x2 * 8) + x2).toNat 10) (x0 + 2) (x2).toNat 0) (x0 + 3) (x2).toNat 0) b) (x0 + 4) 1 x2 && !Nat.beq (x0 + 4) 0) = true := gs_of (gx_of (show aT _ _ = _ from isK_A7 (L := L) c_x0) g1) (by omega)
  have hG : ((decide ((TT L x0).1 = 64 + 2) && decide (RR b x0 4 = some (x0 + 1))) && ((gX (M0 L V b) (x0 + 1) 1 ((x2 * 8) + x2) && !Nat.beq (x0 + 1) 0) && ((decide ((TT L x0).1 = 64 + 2) && decide (RR b x0 5 = some (x0 + 2))) && ((gX (M0 L (uV V (x0 + 1) ((x2 * 8) + x2).toNat 10) b) (x0 + 2) 1 x2 && !Nat.beq (x0 + 2) 0) && ((decide ((TT L x0).1 = 64 + 2) && decide (RR b x0 6 = some (x0 + 3))) && ((gX (M0 L (uV (uV V (x0 + 1) ((x2 * 8) + x2).toNat 10) (x0 + 2) (x2).toNat 0) b) (x0 + 3) 1 x2 && !Nat.beq (x0 + 3) 0) && ((decide ((TT L x0).1 = 64 + 2) && decide (RR b x0 7 = some (x0 + 4))) && ((gX (M0 L (uV (uV (uV V (x0 + 1) ((x2 * 8) + x2).toNat 10) (x0 + 2) (x2).toNat 0) (x0 + 3) (x2).toNat 0) b) (x0 + 4) 1 x2 && !Nat.beq (x0 + 4) 0) && true)))))))) = true := an f0 (an f1 (an f2 (an f3 (an f4 (an f5 (an f6 (an f7 rfl)))))))
  show some ((decide ((TT L x0).1 = 64 + 2) && decide (RR b x0 4 = some (x0 + 1))) && ((gX (M0 L V b) (x0 + 1) 1 ((x2 * 8) + x2) && !Nat.beq (x0 + 1) 0) && ((decide ((TT L x0).1 = 64 + 2) && decide (RR b x0 5 = some (x0 + 2))) && ((gX (M0 L (uV V (x0 + 1) ((x2 * 8) + x2).toNat 10) b) (x0 + 2) 1 x2 && !Nat.beq (x0 + 2) 0) && ((decide ((TT L x0).1 = 64 + 2) && decide (RR b x0 6 = some (x0 + 3))) && ((gX (M0 L (uV (uV V (x0 + 1) ((x2 * 8) + x2).toNat 10) (x0 + 2) (x2).toNat 0) b) (x0 + 3) 1 x2 && !Nat.beq (x0 + 3) 0) && ((decide ((TT L x0).1 = 64 + 2) && decide (RR b x0 7 = some (x0 + 4))) && ((gX (M0 L (uV (uV (uV V (x0 + 1) ((x2 * 8) + x2).toNat 10) (x0 + 2) (x2).toNat 0) (x0 + 3) (x2).toNat 0) b) (x0 + 4) 1 x2 && !Nat.beq (x0 + 4) 0) && true))))))), _) = _
  rw [hG]
  try rfl

theorem B67_90 (L : Nat) (V : Mv) (b : Bool) (x0 : Nat) (x1 : Int) (x2 : Int)  : nxs 2 67 90 [some (.inr (.inr x0)), some (.inl x1), some (.inl x2)] [] (M0 L V b) = some (true, 92, [some (.inr (.inr x0)), some (.inl x1), some (.inl 0)], [], M0 L V b) := by
  rfl

theorem B67_92 (L : Nat) (V : Mv) (b : Bool) (x0 : Nat) (x1 : Int) (x2 : Int) (g0 : in32 x2) : nxs 3 67 92 [some (.inr (.inr x0)), some (.inl x1), some (.inl x2)] [] (M0 L V b) = some (true, cond (decide (4 ≤ x2)) 118 97, [some (.inr (.inr x0)), some (.inl x1), some (.inl x2)], [], M0 L V b) := by
  have f0 : (r32 x2 && r32 4) = true := rr32_of g0 (by decide)
  have hG : ((r32 x2 && r32 4) && true) = true := an f0 rfl
  show some ((r32 x2 && r32 4) && true, _) = _
  rw [hG]
  try rfl

theorem B67_97 (L : Nat) (V : Mv) (b : Bool) (x0 : Nat) (x1 : Int) (x2 : Int) (c_x0 : isK x0) (g0 : 0 ≤ x2 ∧ x2 < 4) : nxs 12 67 97 [some (.inr (.inr x0)), some (.inl x1), some (.inl x2)] [] (M0 L V b) = some (true, 92, [some (.inr (.inr x0)), some (.inl x1), some (.inl (x2 + 1))], [], M0 L (uV (uV V (x0 + 5) (x2).toNat 0) (x0 + 6) (x2).toNat (-9)) b) := by
  have f0 : (decide ((TT L x0).1 = 64 + 2) && decide (RR b x0 8 = some (x0 + 5))) = true := clr_of (isK_T c_x0) (isK_R8 c_x0)
  have f1 : (gX (M0 L V b) (x0 + 5) 1 x2 && !Nat.beq (x0 + 5) 0) = true := gs_of (gx_of (show aT _ _ = _ from isK_A8 (L := L) c_x0) g0) (by omega)
  have f2 : (decide ((TT L x0).1 = 64 + 2) && decide (RR b x0 9 = some (x0 + 6))) = true := clr_of (isK_T c_x0) (isK_R9 c_x0)
  have f3 : (gX (M0 L (uV V (x0 + 5) (x2).toNat 0) b) (x0 + 6) 1 x2 && !Nat.beq (x0 + 6) 0) = true := gs_of (gx_of (show aT _ _ = _ from isK_A9 (L := L) c_x0) g0) (by omega)
  have hG : ((decide ((TT L x0).1 = 64 + 2) && decide (RR b x0 8 = some (x0 + 5))) && ((gX (M0 L V b) (x0 + 5) 1 x2 && !Nat.beq (x0 + 5) 0) && ((decide ((TT L x0).1 = 64 + 2) && decide (RR b x0 9 = some (x0 + 6))) && ((gX (M0 L (uV V (x0 + 5) (x2).toNat 0) b) (x0 + 6) 1 x2 && !Nat.beq (x0 + 6) 0) && true)))) = true := an f0 (an f1 (an f2 (an f3 rfl)))
  show some ((decide ((TT L x0).1 = 64 + 2) && decide (RR b x0 8 = some (x0 + 5))) && ((gX (M0 L V b) (x0 + 5) 1 x2 && !Nat.beq (x0 + 5) 0) && ((decide ((TT L x0).1 = 64 + 2) && decide (RR b x0 9 = some (x0 + 6))) && ((gX (M0 L (uV V (x0 + 5) (x2).toNat 0) b) (x0 + 6) 1 x2 && !Nat.beq (x0 + 6) 0) && true))), _) = _
  rw [hG]
  try rfl

-- 68: MendedOrNew$Kind.openSources()I
theorem B68_0 (L : Nat) (V : Mv) (b : Bool) (x0 : Nat)  : nxs 4 68 0 [some (.inr (.inr x0)), none, none] [] (M0 L V b) = some (true, 4, [some (.inr (.inr x0)), some (.inl 0), some (.inl 0)], [], M0 L V b) := by
  rfl

theorem B68_4 (L : Nat) (V : Mv) (b : Bool) (x0 : Nat) (x1 : Int) (x2 : Int) (c_x0 : isK x0) (g0 : in32 x2) (g1 : in32 (V x0 0)) : nxs 4 68 4 [some (.inr (.inr x0)), some (.inl x1), some (.inl x2)] [] (M0 L V b) = some (true, cond (decide (V x0 0 ≤ x2)) 36 12, [some (.inr (.inr x0)), some (.inl x1), some (.inl x2)], [], M0 L V b) := by
  have f0 : decide ((TT L x0).1 = 64 + 2) = true := cls_of (isK_T c_x0)
  have f1 : (r32 x2 && r32 (V x0 0)) = true := rr32_of g0 g1
  have hG : (decide ((TT L x0).1 = 64 + 2) && ((r32 x2 && r32 (V x0 0)) && true)) = true := an f0 (an f1 rfl)
  show some (decide ((TT L x0).1 = 64 + 2) && ((r32 x2 && r32 (V x0 0)) && true), _) = _
  rw [hG]
  try rfl

theorem B68_12 (L : Nat) (V : Mv) (b : Bool) (x0 : Nat) (x1 : Int) (x2 : Int)  : nxs 3 68 12 [some (.inr (.inr x0)), some (.inl x1), some (.inl x2)] [] (M0 L V b) = some (true, 15, [some (.inr (.inr x0)), some (.inl x1), some (.inl x2)], [.inl x2, .inr (.inr x0), .inl x1], M0 L V b) := by
  rfl

theorem B68_18 (L : Nat) (V : Mv) (b : Bool) (x0 : Nat) (x1 : Int) (x2 : Int) (s0 : Int) (s1 : Int) (g0 : in32 s1) : nxs 1 68 18 [some (.inr (.inr x0)), some (.inl x1), some (.inl x2)] [.inl s1, .inl s0] (M0 L V b) = some (true, cond (decide (s1 = 0)) 27 21, [some (.inr (.inr x0)), some (.inl x1), some (.inl x2)], [.inl s0], M0 L V b) := by
  have f0 : r32 s1 = true := r32_of g0
  have hG : (r32 s1 && true) = true := an f0 rfl
  show some (r32 s1 && true, _) = _
  rw [hG]
  try rfl

theorem B68_21 (L : Nat) (V : Mv) (b : Bool) (x0 : Nat) (x1 : Int) (x2 : Int) (s0 : Int)  : nxs 4 68 21 [some (.inr (.inr x0)), some (.inl x1), some (.inl x2)] [.inl s0] (M0 L V b) = some (true, 28, [some (.inr (.inr x0)), some (.inl x1), some (.inl x2)], [.inl (oShl 1 x2), .inl s0], M0 L V b) := by
  rfl

theorem B68_27 (L : Nat) (V : Mv) (b : Bool) (x0 : Nat) (x1 : Int) (x2 : Int) (s0 : Int)  : nxs 1 68 27 [some (.inr (.inr x0)), some (.inl x1), some (.inl x2)] [.inl s0] (M0 L V b) = some (true, 28, [some (.inr (.inr x0)), some (.inl x1), some (.inl x2)], [.inl 0, .inl s0], M0 L V b) := by
  rfl

theorem B68_28 (L : Nat) (V : Mv) (b : Bool) (x0 : Nat) (x1 : Int) (x2 : Int) (s0 : Int) (s1 : Int)  : nxs 4 68 28 [some (.inr (.inr x0)), some (.inl x1), some (.inl x2)] [.inl s1, .inl s0] (M0 L V b) = some (true, 4, [some (.inr (.inr x0)), some (.inl (oOr s0 s1)), some (.inl (x2 + 1))], [], M0 L V b) := by
  rfl

theorem B68_36 (L : Nat) (V : Mv) (b : Bool) (x0 : Nat) (x1 : Int) (x2 : Int)  : nxs 1 68 36 [some (.inr (.inr x0)), some (.inl x1), some (.inl x2)] [] (M0 L V b) = some (true, 37, [some (.inr (.inr x0)), some (.inl x1), some (.inl x2)], [.inl x1], M0 L V b) := by
  rfl

-- 69: MendedOrNew$Kind.openTargets(I)I
theorem B69_0 (L : Nat) (V : Mv) (b : Bool) (x0 : Nat) (x1 : Int)  : nxs 6 69 0 [some (.inr (.inr x0)), some (.inl x1), none, none] [] (M0 L V b) = some (true, 6, [some (.inr (.inr x0)), some (.inl x1), some (.inl 0), some (.inl (x1 + 1))], [], M0 L V b) := by
  rfl

theorem B69_6 (L : Nat) (V : Mv) (b : Bool) (x0 : Nat) (x1 : Int) (x2 : Int) (x3 : Int) (c_x0 : isK x0) (g0 : in32 x3) (g1 : in32 (V x0 0)) : nxs 4 69 6 [some (.inr (.inr x0)), some (.inl x1), some (.inl x2), some (.inl x3)] [] (M0 L V b) = some (true, cond (decide (V x0 0 ≤ x3)) 55 14, [some (.inr (.inr x0)), some (.inl x1), some (.inl x2), some (.inl x3)], [], M0 L V b) := by
  have f0 : decide ((TT L x0).1 = 64 + 2) = true := cls_of (isK_T c_x0)
  have f1 : (r32 x3 && r32 (V x0 0)) = true := rr32_of g0 g1
  have hG : (decide ((TT L x0).1 = 64 + 2) && ((r32 x3 && r32 (V x0 0)) && true)) = true := an f0 (an f1 rfl)
  show some (decide ((TT L x0).1 = 64 + 2) && ((r32 x3 && r32 (V x0 0)) && true), _) = _
  rw [hG]
  try rfl

theorem B69_14 (L : Nat) (V : Mv) (b : Bool) (x0 : Nat) (x1 : Int) (x2 : Int) (x3 : Int) (c_x0 : isK x0) (g0 : 0 ≤ x1 ∧ x1 < 8) (g1 : in32 (V (x0 + 2) (x1).toNat)) : nxs 6 69 14 [some (.inr (.inr x0)), some (.inl x1), some (.inl x2), some (.inl x3)] [] (M0 L V b) = some (true, cond (decide (10 ≤ V (x0 + 2) (x1).toNat)) 55 25, [some (.inr (.inr x0)), some (.inl x1), some (.inl x2), some (.inl x3)], [], M0 L V b) := by
  have f0 : (decide ((TT L x0).1 = 64 + 2) && decide (RR b x0 5 = some (x0 + 2))) = true := clr_of (isK_T c_x0) (isK_R5 c_x0)
  have f1 : gX (M0 L V b) (x0 + 2) 1 x1 = true := gx_of (show aT _ _ = _ from isK_A5 (L := L) c_x0) g0
  have f2 : (r32 (V (x0 + 2) (x1).toNat) && r32 10) = true := rr32_of g1 (by decide)
  have hG : ((decide ((TT L x0).1 = 64 + 2) && decide (RR b x0 5 = some (x0 + 2))) && (gX (M0 L V b) (x0 + 2) 1 x1 && ((r32 (V (x0 + 2) (x1).toNat) && r32 10) && true))) = true := an f0 (an f1 (an f2 rfl))
  show some ((decide ((TT L x0).1 = 64 + 2) && decide (RR b x0 5 = some (x0 + 2))) && (gX (M0 L V b) (x0 + 2) 1 x1 && ((r32 (V (x0 + 2) (x1).toNat) && r32 10) && true)), _) = _
  rw [hG]
  try rfl

theorem B69_25 (L : Nat) (V : Mv) (b : Bool) (x0 : Nat) (x1 : Int) (x2 : Int) (x3 : Int) (c_x0 : isK x0) (g0 : 0 ≤ (x1 * 8) + x3 ∧ (x1 * 8) + x3 < 64) (g1 : in32 (V (x0 + 1) ((x1 * 8) + x3).toNat)) : nxs 10 69 25 [some (.inr (.inr x0)), some (.inl x1), some (.inl x2), some (.inl x3)] [] (M0 L V b) = some (true, cond (!decide (V (x0 + 1) ((x1 * 8) + x3).toNat = 0)) 46 40, [some (.inr (.inr x0)), some (.inl x1), some (.inl x2), some (.inl x3)], [.inl x2], M0 L V b) := by
  have f0 : (decide ((TT L x0).1 = 64 + 2) && decide (RR b x0 4 = some (x0 + 1))) = true := clr_of (isK_T c_x0) (isK_R4 c_x0)
  have f1 : gX (M0 L V b) (x0 + 1) 1 ((x1 * 8) + x3) = true := gx_of (show aT _ _ = _ from isK_A4 (L := L) c_x0) g0
  have f2 : r32 (V (x0 + 1) ((x1 * 8) + x3).toNat) = true := r32_of g1
  have hG : ((decide ((TT L x0).1 = 64 + 2) && decide (RR b x0 4 = some (x0 + 1))) && (gX (M0 L V b) (x0 + 1) 1 ((x1 * 8) + x3) && (r32 (V (x0 + 1) ((x1 * 8) + x3).toNat) && true))) = true := an f0 (an f1 (an f2 rfl))
  show some ((decide ((TT L x0).1 = 64 + 2) && decide (RR b x0 4 = some (x0 + 1))) && (gX (M0 L V b) (x0 + 1) 1 ((x1 * 8) + x3) && (r32 (V (x0 + 1) ((x1 * 8) + x3).toNat) && true)), _) = _
  rw [hG]
  try rfl

theorem B69_40 (L : Nat) (V : Mv) (b : Bool) (x0 : Nat) (x1 : Int) (x2 : Int) (x3 : Int) (s0 : Int)  : nxs 4 69 40 [some (.inr (.inr x0)), some (.inl x1), some (.inl x2), some (.inl x3)] [.inl s0] (M0 L V b) = some (true, 47, [some (.inr (.inr x0)), some (.inl x1), some (.inl x2), some (.inl x3)], [.inl (oShl 1 x3), .inl s0], M0 L V b) := by
  rfl

theorem B69_46 (L : Nat) (V : Mv) (b : Bool) (x0 : Nat) (x1 : Int) (x2 : Int) (x3 : Int) (s0 : Int)  : nxs 1 69 46 [some (.inr (.inr x0)), some (.inl x1), some (.inl x2), some (.inl x3)] [.inl s0] (M0 L V b) = some (true, 47, [some (.inr (.inr x0)), some (.inl x1), some (.inl x2), some (.inl x3)], [.inl 0, .inl s0], M0 L V b) := by
  rfl

theorem B69_47 (L : Nat) (V : Mv) (b : Bool) (x0 : Nat) (x1 : Int) (x2 : Int) (x3 : Int) (s0 : Int) (s1 : Int)  : nxs 4 69 47 [some (.inr (.inr x0)), some (.inl x1), some (.inl x2), some (.inl x3)] [.inl s1, .inl s0] (M0 L V b) = some (true, 6, [some (.inr (.inr x0)), some (.inl x1), some (.inl (oOr s0 s1)), some (.inl (x3 + 1))], [], M0 L V b) := by
  rfl

theorem B69_55 (L : Nat) (V : Mv) (b : Bool) (x0 : Nat) (x1 : Int) (x2 : Int) (x3 : Int)  : nxs 1 69 55 [some (.inr (.inr x0)), some (.inl x1), some (.inl x2), some (.inl x3)] [] (M0 L V b) = some (true, 56, [some (.inr (.inr x0)), some (.inl x1), some (.inl x2), some (.inl x3)], [.inl x2], M0 L V b) := by
  rfl

-- 70: MendedOrNew$Kind.addWay(III)V
theorem B70_0 (L : Nat) (V : Mv) (b : Bool) (x0 : Nat) (x1 : Int) (x2 : Int) (x3 : Int) (c_x0 : isK x0) (g0 : 0 ≤ (x1 * 8) + x2 ∧ (x1 * 8) + x2 < 64) (g1 : 0 ≤ (x1 * 8) + x1 ∧ (x1 * 8) + x1 < 64) (g2 : 0 ≤ x1 ∧ x1 < 8) : nxs 29 70 0 [some (.inr (.inr x0)), some (.inl x1), some (.inl x2), some (.inl x3)] [] (M0 L V b) = some (true, 37, [some (.inr (.inr x0)), some (.inl x1), some (.inl x2), some (.inl x3)], [], M0 L (uV (uV (uV V (x0 + 1) ((x1 * 8) + x2).toNat x3) (x0 + 1) ((x1 * 8) + x1).toNat (((uV V (x0 + 1) ((x1 * 8) + x2).toNat x3) (x0 + 1) ((x1 * 8) + x1).toNat) - x3)) (x0 + 2) (x1).toNat (((uV (uV V (x0 + 1) ((x1 * 8) + x2).toNat x3) (x0 + 1) ((x1 * 8) + x1).toNat (((uV V (x0 + 1) ((x1 * 8) + x2).toNat x3) (x0 + 1) ((x1 * 8) + x1).toNat) - x3)) (x0 + 2) (x1).toNat) + x3)) b) := by
  have f0 : (decide ((TT L x0).1 = 64 + 2) && decide (RR b x0 4 = some (x0 + 1))) = true := clr_of (isK_T c_x0) (isK_R4 c_x0)
  have f1 : (gX (M0 L V b) (x0 + 1) 1 ((x1 * 8) + x2) && !Nat.beq (x0 + 1) 0) = true := gs_of (gx_of (show aT _ _ = _ from isK_A4 (L := L) c_x0) g0) (by omega)
  have f2 : (decide ((TT L x0).1 = 64 + 2) && decide (RR b x0 4 = some (x0 + 1))) = true := clr_of (isK_T c_x0) (isK_R4 c_x0)
  have f3 : gX (M0 L (uV V (x0 + 1) ((x1 * 8) + x2).toNat x3) b) (x0 + 1) 1 ((x1 * 8) + x1) = true := gx_of (show aT _ _ = _ from isK_A4 (L := L) c_x0) g1
  have f4 : (gX (M0 L (uV V (x0 + 1) ((x1 * 8) + x2).toNat x3) b) (x0 + 1) 1 ((x1 * 8) + x1) && !Nat.beq (x0 + 1) 0) = true := gs_of (gx_of (show aT _ _ = _ from isK_A4 (L := L) c_x0) g1) (by omega)
  have f5 : (decide ((TT L x0).1 = 64 + 2) && decide (RR b x0 5 = some (x0 + 2))) = true := clr_of (isK_T c_x0) (isK_R5 c_x0)
  have f6 : gX (M0 L (uV (uV V (x0 + 1) ((x1 * 8) + x2).toNat x3) (x0 + 1) ((x1 * 8) + x1).toNat (((uV V (x0 + 1) ((x1 * 8) + x2).toNat x3) (x0 + 1) ((x1 * 8) + x1).toNat) - x3)) b) (x0 + 2) 1 x1 = true := gx_of (show aT _ _ = _ from isK_A5 (L := L) c_x0) g2
  have f7 : (gX (M0 L (uV (uV V (x0 + 1) ((x1 * 8) + x2).toNat x3) (x0 + 1) ((x1 * 8) + x1).toNat (((uV V (x0 + 1) ((x1 * 8) + x2).toNat x3) (x0 + 1) ((x1 * 8) + x1).toNat) - x3)) b) (x0 + 2) 1 x1 && !Nat.beq (x0 + 2) 0) = true := gs_of (gx_of (show aT _ _ = _ from isK_A5 (L := L) c_x0) g2) (by omega)
  have hG : ((decide ((TT L x0).1 = 64 + 2) && decide (RR b x0 4 = some (x0 + 1))) && ((gX (M0 L V b) (x0 + 1) 1 ((x1 * 8) + x2) && !Nat.beq (x0 + 1) 0) && ((decide ((TT L x0).1 = 64 + 2) && decide (RR b x0 4 = some (x0 + 1))) && (gX (M0 L (uV V (x0 + 1) ((x1 * 8) + x2).toNat x3) b) (x0 + 1) 1 ((x1 * 8) + x1) && ((gX (M0 L (uV V (x0 + 1) ((x1 * 8) + x2).toNat x3) b) (x0 + 1) 1 ((x1 * 8) + x1) && !Nat.beq (x0 + 1) 0) && ((decide ((TT L x0).1 = 64 + 2) && decide (RR b x0 5 = some (x0 + 2))) && (gX (M0 L (uV (uV V (x0 + 1) ((x1 * 8) + x2).toNat x3) (x0 + 1) ((x1 * 8) + x1).toNat (((uV V (x0 + 1) ((x1 * 8) + x2).toNat x3) (x0 + 1) ((x1 * 8) + x1).toNat) - x3)) b) (x0 + 2) 1 x1 && ((gX (M0 L (uV (uV V (x0 + 1) ((x1 * 8) + x2).toNat x3) (x0 + 1) ((x1 * 8) + x1).toNat (((uV V (x0 + 1) ((x1 * 8) + x2).toNat x3) (x0 + 1) ((x1 * 8) + x1).toNat) - x3)) b) (x0 + 2) 1 x1 && !Nat.beq (x0 + 2) 0) && true)))))))) = true := an f0 (an f1 (an f2 (an f3 (an f4 (an f5 (an f6 (an f7 rfl)))))))
  show some ((decide ((TT L x0).1 = 64 + 2) && decide (RR b x0 4 = some (x0 + 1))) && ((gX (M0 L V b) (x0 + 1) 1 ((x1 * 8) + x2) && !Nat.beq (x0 + 1) 0) && ((decide ((TT L x0).1 = 64 + 2) && decide (RR b x0 4 = some (x0 + 1))) && (gX (M0 L (uV V (x0 + 1) ((x1 * 8) + x2).toNat x3) b) (x0 + 1) 1 ((x1 * 8) + x1) && ((gX (M0 L (uV V (x0 + 1) ((x1 * 8) + x2).toNat x3) b) (x0 + 1) 1 ((x1 * 8) + x1) && !Nat.beq (x0 + 1) 0) && ((decide ((TT L x0).1 = 64 + 2) && decide (RR b x0 5 = some (x0 + 2))) && (gX (M0 L (uV (uV V (x0 + 1) ((x1 * 8) + x2).toNat x3) (x0 + 1) ((x1 * 8) + x1).toNat (((uV V (x0 + 1) ((x1 * 8) + x2).toNat x3) (x0 + 1) ((x1 * 8) + x1).toNat) - x3)) b) (x0 + 2) 1 x1 && ((gX (M0 L (uV (uV V (x0 + 1) ((x1 * 8) + x2).toNat x3) (x0 + 1) ((x1 * 8) + x1).toNat (((uV V (x0 + 1) ((x1 * 8) + x2).toNat x3) (x0 + 1) ((x1 * 8) + x1).toNat) - x3)) b) (x0 + 2) 1 x1 && !Nat.beq (x0 + 2) 0) && true))))))), _) = _
  rw [hG]
  try rfl

-- 71: MendedOrNew$Kind.mendingBits()I
theorem B71_0 (L : Nat) (V : Mv) (b : Bool) (x0 : Nat)  : nxs 4 71 0 [some (.inr (.inr x0)), none, none] [] (M0 L V b) = some (true, 4, [some (.inr (.inr x0)), some (.inl 0), some (.inl 0)], [], M0 L V b) := by
  rfl

theorem B71_4 (L : Nat) (V : Mv) (b : Bool) (x0 : Nat) (x1 : Int) (x2 : Int) (g0 : in32 x2) : nxs 3 71 4 [some (.inr (.inr x0)), some (.inl x1), some (.inl x2)] [] (M0 L V b) = some (true, cond (decide (4 ≤ x2)) 33 9, [some (.inr (.inr x0)), some (.inl x1), some (.inl x2)], [], M0 L V b) := by
  have f0 : (r32 x2 && r32 4) = true := rr32_of g0 (by decide)
  have hG : ((r32 x2 && r32 4) && true) = true := an f0 rfl
  show some ((r32 x2 && r32 4) && true, _) = _
  rw [hG]
  try rfl

theorem B71_9 (L : Nat) (V : Mv) (b : Bool) (x0 : Nat) (x1 : Int) (x2 : Int)  : nxs 3 71 9 [some (.inr (.inr x0)), some (.inl x1), some (.inl x2)] [] (M0 L V b) = some (true, 12, [some (.inr (.inr x0)), some (.inl x1), some (.inl x2)], [.inl x2, .inr (.inr x0), .inl x1], M0 L V b) := by
  rfl

theorem B71_15 (L : Nat) (V : Mv) (b : Bool) (x0 : Nat) (x1 : Int) (x2 : Int) (s0 : Int) (s1 : Int) (g0 : in32 s1) : nxs 1 71 15 [some (.inr (.inr x0)), some (.inl x1), some (.inl x2)] [.inl s1, .inl s0] (M0 L V b) = some (true, cond (decide (s1 = 0)) 24 18, [some (.inr (.inr x0)), some (.inl x1), some (.inl x2)], [.inl s0], M0 L V b) := by
  have f0 : r32 s1 = true := r32_of g0
  have hG : (r32 s1 && true) = true := an f0 rfl
  show some (r32 s1 && true, _) = _
  rw [hG]
  try rfl

theorem B71_18 (L : Nat) (V : Mv) (b : Bool) (x0 : Nat) (x1 : Int) (x2 : Int) (s0 : Int)  : nxs 4 71 18 [some (.inr (.inr x0)), some (.inl x1), some (.inl x2)] [.inl s0] (M0 L V b) = some (true, 25, [some (.inr (.inr x0)), some (.inl x1), some (.inl x2)], [.inl (oShl 1 x2), .inl s0], M0 L V b) := by
  rfl

theorem B71_24 (L : Nat) (V : Mv) (b : Bool) (x0 : Nat) (x1 : Int) (x2 : Int) (s0 : Int)  : nxs 1 71 24 [some (.inr (.inr x0)), some (.inl x1), some (.inl x2)] [.inl s0] (M0 L V b) = some (true, 25, [some (.inr (.inr x0)), some (.inl x1), some (.inl x2)], [.inl 0, .inl s0], M0 L V b) := by
  rfl

theorem B71_25 (L : Nat) (V : Mv) (b : Bool) (x0 : Nat) (x1 : Int) (x2 : Int) (s0 : Int) (s1 : Int)  : nxs 4 71 25 [some (.inr (.inr x0)), some (.inl x1), some (.inl x2)] [.inl s1, .inl s0] (M0 L V b) = some (true, 4, [some (.inr (.inr x0)), some (.inl (oOr s0 s1)), some (.inl (x2 + 1))], [], M0 L V b) := by
  rfl

theorem B71_33 (L : Nat) (V : Mv) (b : Bool) (x0 : Nat) (x1 : Int) (x2 : Int)  : nxs 1 71 33 [some (.inr (.inr x0)), some (.inl x1), some (.inl x2)] [] (M0 L V b) = some (true, 34, [some (.inr (.inr x0)), some (.inl x1), some (.inl x2)], [.inl x1], M0 L V b) := by
  rfl

-- 72: MendedOrNew$Kind.hasMending(I)Z
theorem B72_0 (L : Nat) (V : Mv) (b : Bool) (x0 : Nat) (x1 : Int) (g0 : in32 x1) : nxs 2 72 0 [some (.inr (.inr x0)), some (.inl x1)] [] (M0 L V b) = some (true, cond (decide (x1 < 0)) 24 4, [some (.inr (.inr x0)), some (.inl x1)], [], M0 L V b) := by
  have f0 : r32 x1 = true := r32_of g0
  have hG : (r32 x1 && true) = true := an f0 rfl
  show some (r32 x1 && true, _) = _
  rw [hG]
  try rfl

theorem B72_4 (L : Nat) (V : Mv) (b : Bool) (x0 : Nat) (x1 : Int) (g0 : in32 x1) : nxs 3 72 4 [some (.inr (.inr x0)), some (.inl x1)] [] (M0 L V b) = some (true, cond (decide (4 ≤ x1)) 24 9, [some (.inr (.inr x0)), some (.inl x1)], [], M0 L V b) := by
  have f0 : (r32 x1 && r32 4) = true := rr32_of g0 (by decide)
  have hG : ((r32 x1 && r32 4) && true) = true := an f0 rfl
  show some ((r32 x1 && r32 4) && true, _) = _
  rw [hG]
  try rfl

theorem B72_9 (L : Nat) (V : Mv) (b : Bool) (x0 : Nat) (x1 : Int) (c_x0 : isK x0) (g0 : 0 ≤ x1 ∧ x1 < 4) (g1 : in32 (V (x0 + 6) (x1).toNat)) : nxs 6 72 9 [some (.inr (.inr x0)), some (.inl x1)] [] (M0 L V b) = some (true, cond (decide (V (x0 + 6) (x1).toNat = (-9))) 24 20, [some (.inr (.inr x0)), some (.inl x1)], [], M0 L V b) := by
  have f0 : (decide ((TT L x0).1 = 64 + 2) && decide (RR b x0 9 = some (x0 + 6))) = true := clr_of (isK_T c_x0) (isK_R9 c_x0)
  have f1 : gX (M0 L V b) (x0 + 6) 1 x1 = true := gx_of (show aT _ _ = _ from isK_A9 (L := L) c_x0) g0
  have f2 : (r32 (V (x0 + 6) (x1).toNat) && r32 (-9)) = true := rr32_of g1 (by decide)
  have hG : ((decide ((TT L x0).1 = 64 + 2) && decide (RR b x0 9 = some (x0 + 6))) && (gX (M0 L V b) (x0 + 6) 1 x1 && ((r32 (V (x0 + 6) (x1).toNat) && r32 (-9)) && true))) = true := an f0 (an f1 (an f2 rfl))
  show some ((decide ((TT L x0).1 = 64 + 2) && decide (RR b x0 9 = some (x0 + 6))) && (gX (M0 L V b) (x0 + 6) 1 x1 && ((r32 (V (x0 + 6) (x1).toNat) && r32 (-9)) && true)), _) = _
  rw [hG]
  try rfl

theorem B72_20 (L : Nat) (V : Mv) (b : Bool) (x0 : Nat) (x1 : Int)  : nxs 2 72 20 [some (.inr (.inr x0)), some (.inl x1)] [] (M0 L V b) = some (true, 25, [some (.inr (.inr x0)), some (.inl x1)], [.inl 1], M0 L V b) := by
  rfl

theorem B72_24 (L : Nat) (V : Mv) (b : Bool) (x0 : Nat) (x1 : Int)  : nxs 1 72 24 [some (.inr (.inr x0)), some (.inl x1)] [] (M0 L V b) = some (true, 25, [some (.inr (.inr x0)), some (.inl x1)], [.inl 0], M0 L V b) := by
  rfl

-- 73: MendedOrNew$Kind.hasLook()Z
theorem B73_0 (L : Nat) (V : Mv) (b : Bool) (x0 : Nat) (c_x0 : isK x0) (g0 : in32 (V x0 1)) : nxs 4 73 0 [some (.inr (.inr x0))] [] (M0 L V b) = some (true, cond (decide (V x0 1 = (-9))) 13 9, [some (.inr (.inr x0))], [], M0 L V b) := by
  have f0 : decide ((TT L x0).1 = 64 + 2) = true := cls_of (isK_T c_x0)
  have f1 : (r32 (V x0 1) && r32 (-9)) = true := rr32_of g0 (by decide)
  have hG : (decide ((TT L x0).1 = 64 + 2) && ((r32 (V x0 1) && r32 (-9)) && true)) = true := an f0 (an f1 rfl)
  show some (decide ((TT L x0).1 = 64 + 2) && ((r32 (V x0 1) && r32 (-9)) && true), _) = _
  rw [hG]
  try rfl

theorem B73_9 (L : Nat) (V : Mv) (b : Bool) (x0 : Nat)  : nxs 2 73 9 [some (.inr (.inr x0))] [] (M0 L V b) = some (true, 14, [some (.inr (.inr x0))], [.inl 1], M0 L V b) := by
  rfl

theorem B73_13 (L : Nat) (V : Mv) (b : Bool) (x0 : Nat)  : nxs 1 73 13 [some (.inr (.inr x0))] [] (M0 L V b) = some (true, 14, [some (.inr (.inr x0))], [.inl 0], M0 L V b) := by
  rfl

-- 74: MendedOrNew$Kind.copyFrom(LMendedOrNew$Kind;)V
-- 75: MendedOrNew$Kind.findLives([J)J
theorem B75_0 (L : Nat) (V : Mv) (b : Bool) (x0 : Nat)  : nxs 4 75 0 [some (.inr (.inr x0)), some (.inr (.inr 119)), none, none, none] [] (M0 L V b) = some (true, 5, [some (.inr (.inr x0)), some (.inr (.inr 119)), some (.inr (.inl 1)), none, some (.inl 0)], [], M0 L V b) := by
  rfl

theorem B75_5 (L : Nat) (V : Mv) (b : Bool) (x0 : Nat) (x2 : Int) (x4 : Int) (c_x0 : isK x0) (g0 : in32 x4) (g1 : in32 (V x0 0)) : nxs 4 75 5 [some (.inr (.inr x0)), some (.inr (.inr 119)), some (.inr (.inl x2)), none, some (.inl x4)] [] (M0 L V b) = some (true, cond (decide (V x0 0 ≤ x4)) 45 14, [some (.inr (.inr x0)), some (.inr (.inr 119)), some (.inr (.inl x2)), none, some (.inl x4)], [], M0 L V b) := by
  have f0 : decide ((TT L x0).1 = 64 + 2) = true := cls_of (isK_T c_x0)
  have f1 : (r32 x4 && r32 (V x0 0)) = true := rr32_of g0 g1
  have hG : (decide ((TT L x0).1 = 64 + 2) && ((r32 x4 && r32 (V x0 0)) && true)) = true := an f0 (an f1 rfl)
  show some (decide ((TT L x0).1 = 64 + 2) && ((r32 x4 && r32 (V x0 0)) && true), _) = _
  rw [hG]
  try rfl

theorem B75_14 (L : Nat) (V : Mv) (b : Bool) (x0 : Nat) (x2 : Int) (x4 : Int) (c_x0 : isK x0) (g0 : 0 ≤ x4 ∧ x4 < 8) (g1 : in32 (V (x0 + 2) (x4).toNat)) : nxs 6 75 14 [some (.inr (.inr x0)), some (.inr (.inr 119)), some (.inr (.inl x2)), none, some (.inl x4)] [] (M0 L V b) = some (true, cond (decide (V (x0 + 2) (x4).toNat ≤ 0)) 36 25, [some (.inr (.inr x0)), some (.inr (.inr 119)), some (.inr (.inl x2)), none, some (.inl x4)], [.inr (.inl x2)], M0 L V b) := by
  have f0 : (decide ((TT L x0).1 = 64 + 2) && decide (RR b x0 5 = some (x0 + 2))) = true := clr_of (isK_T c_x0) (isK_R5 c_x0)
  have f1 : gX (M0 L V b) (x0 + 2) 1 x4 = true := gx_of (show aT _ _ = _ from isK_A5 (L := L) c_x0) g0
  have f2 : r32 (V (x0 + 2) (x4).toNat) = true := r32_of g1
  have hG : ((decide ((TT L x0).1 = 64 + 2) && decide (RR b x0 5 = some (x0 + 2))) && (gX (M0 L V b) (x0 + 2) 1 x4 && (r32 (V (x0 + 2) (x4).toNat) && true))) = true := an f0 (an f1 (an f2 rfl))
  show some ((decide ((TT L x0).1 = 64 + 2) && decide (RR b x0 5 = some (x0 + 2))) && (gX (M0 L V b) (x0 + 2) 1 x4 && (r32 (V (x0 + 2) (x4).toNat) && true)), _) = _
  rw [hG]
  try rfl

theorem B75_25 (L : Nat) (V : Mv) (b : Bool) (x0 : Nat) (x2 : Int) (x4 : Int) (s0 : Int) (c_x0 : isK x0) (g0 : 0 ≤ x4 ∧ x4 < 8) (g1 : in32 (V (x0 + 2) (x4).toNat)) : nxs 6 75 25 [some (.inr (.inr x0)), some (.inr (.inr 119)), some (.inr (.inl x2)), none, some (.inl x4)] [.inr (.inl s0)] (M0 L V b) = some (true, 37, [some (.inr (.inr x0)), some (.inr (.inr 119)), some (.inr (.inl x2)), none, some (.inl x4)], [.inr (.inl (V (x0 + 2) (x4).toNat)), .inr (.inl s0)], M0 L V b) := by
  have f0 : (decide ((TT L x0).1 = 64 + 2) && decide (RR b x0 5 = some (x0 + 2))) = true := clr_of (isK_T c_x0) (isK_R5 c_x0)
  have f1 : gX (M0 L V b) (x0 + 2) 1 x4 = true := gx_of (show aT _ _ = _ from isK_A5 (L := L) c_x0) g0
  have f2 : r32 (V (x0 + 2) (x4).toNat) = true := r32_of g1
  have hG : ((decide ((TT L x0).1 = 64 + 2) && decide (RR b x0 5 = some (x0 + 2))) && (gX (M0 L V b) (x0 + 2) 1 x4 && (r32 (V (x0 + 2) (x4).toNat) && true))) = true := an f0 (an f1 (an f2 rfl))
  show some ((decide ((TT L x0).1 = 64 + 2) && decide (RR b x0 5 = some (x0 + 2))) && (gX (M0 L V b) (x0 + 2) 1 x4 && (r32 (V (x0 + 2) (x4).toNat) && true)), _) = _
  rw [hG]
  try rfl

theorem B75_36 (L : Nat) (V : Mv) (b : Bool) (x0 : Nat) (x2 : Int) (x4 : Int) (s0 : Int)  : nxs 1 75 36 [some (.inr (.inr x0)), some (.inr (.inr 119)), some (.inr (.inl x2)), none, some (.inl x4)] [.inr (.inl s0)] (M0 L V b) = some (true, 37, [some (.inr (.inr x0)), some (.inr (.inr 119)), some (.inr (.inl x2)), none, some (.inl x4)], [.inr (.inl 1), .inr (.inl s0)], M0 L V b) := by
  rfl

theorem B75_37 (L : Nat) (V : Mv) (b : Bool) (x0 : Nat) (x2 : Int) (x4 : Int) (s0 : Int) (s1 : Int)  : nxs 4 75 37 [some (.inr (.inr x0)), some (.inr (.inr 119)), some (.inr (.inl x2)), none, some (.inl x4)] [.inr (.inl s1), .inr (.inl s0)] (M0 L V b) = some (true, 5, [some (.inr (.inr x0)), some (.inr (.inr 119)), some (.inr (.inl (s0 * s1))), none, some (.inl (x4 + 1))], [], M0 L V b) := by
  rfl

theorem B75_45 (L : Nat) (V : Mv) (b : Bool) (x0 : Nat) (x2 : Int) (x4 : Int)  : nxs 2 75 45 [some (.inr (.inr x0)), some (.inr (.inr 119)), some (.inr (.inl x2)), none, some (.inl x4)] [] (M0 L V b) = some (true, 49, [some (.inr (.inr x0)), some (.inr (.inr 119)), some (.inr (.inl x2)), none, some (.inl 7)], [], M0 L V b) := by
  rfl

theorem B75_49 (L : Nat) (V : Mv) (b : Bool) (x0 : Nat) (x2 : Int) (x4 : Int) (g0 : in32 x4) : nxs 2 75 49 [some (.inr (.inr x0)), some (.inr (.inr 119)), some (.inr (.inl x2)), none, some (.inl x4)] [] (M0 L V b) = some (true, cond (decide (x4 < 0)) 87 54, [some (.inr (.inr x0)), some (.inr (.inr 119)), some (.inr (.inl x2)), none, some (.inl x4)], [], M0 L V b) := by
  have f0 : r32 x4 = true := r32_of g0
  have hG : (r32 x4 && true) = true := an f0 rfl
  show some (r32 x4 && true, _) = _
  rw [hG]
  try rfl

theorem B75_54 (L : Nat) (V : Mv) (b : Bool) (x0 : Nat) (x2 : Int) (x4 : Int) (c_x0 : isK x0) (g0 : in32 x4) (g1 : in32 ((V x0 0) - 1)) : nxs 8 75 54 [some (.inr (.inr x0)), some (.inr (.inr 119)), some (.inr (.inl x2)), none, some (.inl x4)] [] (M0 L V b) = some (true, cond (decide ((V x0 0) - 1 ≤ x4)) 79 68, [some (.inr (.inr x0)), some (.inr (.inr 119)), some (.inr (.inl x2)), none, some (.inl x4)], [.inl x4, .inr (.inr 119)], M0 L V b) := by
  have f0 : decide ((TT L x0).1 = 64 + 2) = true := cls_of (isK_T c_x0)
  have f1 : (r32 x4 && r32 ((V x0 0) - 1)) = true := rr32_of g0 g1
  have hG : (decide ((TT L x0).1 = 64 + 2) && ((r32 x4 && r32 ((V x0 0) - 1)) && true)) = true := an f0 (an f1 rfl)
  show some (decide ((TT L x0).1 = 64 + 2) && ((r32 x4 && r32 ((V x0 0) - 1)) && true), _) = _
  rw [hG]
  try rfl

theorem B75_68 (L : Nat) (V : Mv) (b : Bool) (x0 : Nat) (x2 : Int) (x4 : Int) (s1 : Int)  : nxs 4 75 68 [some (.inr (.inr x0)), some (.inr (.inr 119)), some (.inr (.inl x2)), none, some (.inl x4)] [.inl s1, .inr (.inr 119)] (M0 L V b) = some (true, 73, [some (.inr (.inr x0)), some (.inr (.inr 119)), some (.inr (.inl x2)), none, some (.inl x4)], [.inr (.inr 119), .inr (.inl x2), .inl x4, .inr (.inr x0), .inl s1, .inr (.inr 119)], M0 L V b) := by
  rfl

theorem B75_76 (L : Nat) (V : Mv) (b : Bool) (x0 : Nat) (x2 : Int) (x4 : Int) (s1 : Int) (s2 : Int)  : nxs 1 75 76 [some (.inr (.inr x0)), some (.inr (.inr 119)), some (.inr (.inl x2)), none, some (.inl x4)] [.inr (.inl s2), .inl s1, .inr (.inr 119)] (M0 L V b) = some (true, 80, [some (.inr (.inr x0)), some (.inr (.inr 119)), some (.inr (.inl x2)), none, some (.inl x4)], [.inr (.inl s2), .inl s1, .inr (.inr 119)], M0 L V b) := by
  rfl

theorem B75_79 (L : Nat) (V : Mv) (b : Bool) (x0 : Nat) (x2 : Int) (x4 : Int) (s1 : Int)  : nxs 1 75 79 [some (.inr (.inr x0)), some (.inr (.inr 119)), some (.inr (.inl x2)), none, some (.inl x4)] [.inl s1, .inr (.inr 119)] (M0 L V b) = some (true, 80, [some (.inr (.inr x0)), some (.inr (.inr 119)), some (.inr (.inl x2)), none, some (.inl x4)], [.inr (.inl 0), .inl s1, .inr (.inr 119)], M0 L V b) := by
  rfl

theorem B75_80 (L : Nat) (V : Mv) (b : Bool) (x0 : Nat) (x2 : Int) (x4 : Int) (s1 : Int) (s2 : Int) (g0 : 0 ≤ s1 ∧ s1 < 8) : nxs 3 75 80 [some (.inr (.inr x0)), some (.inr (.inr 119)), some (.inr (.inl x2)), none, some (.inl x4)] [.inr (.inl s2), .inl s1, .inr (.inr 119)] (M0 L V b) = some (true, 49, [some (.inr (.inr x0)), some (.inr (.inr 119)), some (.inr (.inl x2)), none, some (.inl (x4 + (-1)))], [], M0 L (uV V 119 (s1).toNat s2) b) := by
  have f0 : (gX (M0 L V b) 119 2 s1 && !Nat.beq 119 0) = true := gs_of (gx_of rfl g0) (by decide)
  have hG : ((gX (M0 L V b) 119 2 s1 && !Nat.beq 119 0) && true) = true := an f0 rfl
  show some ((gX (M0 L V b) 119 2 s1 && !Nat.beq 119 0) && true, _) = _
  rw [hG]
  try rfl

theorem B75_87 (L : Nat) (V : Mv) (b : Bool) (x0 : Nat) (x2 : Int) (x4 : Int)  : nxs 1 75 87 [some (.inr (.inr x0)), some (.inr (.inr 119)), some (.inr (.inl x2)), none, some (.inl x4)] [] (M0 L V b) = some (true, 88, [some (.inr (.inr x0)), some (.inr (.inr 119)), some (.inr (.inl x2)), none, some (.inl x4)], [.inr (.inl x2)], M0 L V b) := by
  rfl

-- 76: MendedOrNew$Kind.scaledLife(IJ[J)J
theorem B76_0 (L : Nat) (V : Mv) (b : Bool) (x0 : Nat) (x1 : Int) (x2 : Int) (c_x0 : isK x0) (g0 : 0 ≤ x1 ∧ x1 < 8) (g1 : in32 (V (x0 + 2) (x1).toNat)) : nxs 5 76 0 [some (.inr (.inr x0)), some (.inl x1), some (.inr (.inl x2)), none, some (.inr (.inr 119)), none, none, none, none] [] (M0 L V b) = some (true, cond (!decide (V (x0 + 2) (x1).toNat = 0)) 13 9, [some (.inr (.inr x0)), some (.inl x1), some (.inr (.inl x2)), none, some (.inr (.inr 119)), none, none, none, none], [], M0 L V b) := by
  have f0 : (decide ((TT L x0).1 = 64 + 2) && decide (RR b x0 5 = some (x0 + 2))) = true := clr_of (isK_T c_x0) (isK_R5 c_x0)
  have f1 : gX (M0 L V b) (x0 + 2) 1 x1 = true := gx_of (show aT _ _ = _ from isK_A5 (L := L) c_x0) g0
  have f2 : r32 (V (x0 + 2) (x1).toNat) = true := r32_of g1
  have hG : ((decide ((TT L x0).1 = 64 + 2) && decide (RR b x0 5 = some (x0 + 2))) && (gX (M0 L V b) (x0 + 2) 1 x1 && (r32 (V (x0 + 2) (x1).toNat) && true))) = true := an f0 (an f1 (an f2 rfl))
  show some ((decide ((TT L x0).1 = 64 + 2) && decide (RR b x0 5 = some (x0 + 2))) && (gX (M0 L V b) (x0 + 2) 1 x1 && (r32 (V (x0 + 2) (x1).toNat) && true)), _) = _
  rw [hG]
  try rfl

theorem B76_9 (L : Nat) (V : Mv) (b : Bool) (x0 : Nat) (x1 : Int) (x2 : Int)  : nxs 1 76 9 [some (.inr (.inr x0)), some (.inl x1), some (.inr (.inl x2)), none, some (.inr (.inr 119)), none, none, none, none] [] (M0 L V b) = some (true, 12, [some (.inr (.inr x0)), some (.inl x1), some (.inr (.inl x2)), none, some (.inr (.inr 119)), none, none, none, none], [.inr (.inl (-9))], M0 L V b) := by
  rfl

theorem B76_13 (L : Nat) (V : Mv) (b : Bool) (x0 : Nat) (x1 : Int) (x2 : Int)  : nxs 8 76 13 [some (.inr (.inr x0)), some (.inl x1), some (.inr (.inl x2)), none, some (.inr (.inr 119)), none, none, none, none] [] (M0 L V b) = some (true, 25, [some (.inr (.inr x0)), some (.inl x1), some (.inr (.inl x2)), none, some (.inr (.inr 119)), some (.inr (.inl (10 * x2))), none, some (.inl (x1 + 1)), none], [], M0 L V b) := by
  rfl

theorem B76_25 (L : Nat) (V : Mv) (b : Bool) (x0 : Nat) (x1 : Int) (x2 : Int) (x5 : Int) (x7 : Int) (c_x0 : isK x0) (g0 : in32 x7) (g1 : in32 (V x0 0)) : nxs 4 76 25 [some (.inr (.inr x0)), some (.inl x1), some (.inr (.inl x2)), none, some (.inr (.inr 119)), some (.inr (.inl x5)), none, some (.inl x7), none] [] (M0 L V b) = some (true, cond (decide (V x0 0 ≤ x7)) 87 34, [some (.inr (.inr x0)), some (.inl x1), some (.inr (.inl x2)), none, some (.inr (.inr 119)), some (.inr (.inl x5)), none, some (.inl x7), none], [], M0 L V b) := by
  have f0 : decide ((TT L x0).1 = 64 + 2) = true := cls_of (isK_T c_x0)
  have f1 : (r32 x7 && r32 (V x0 0)) = true := rr32_of g0 g1
  have hG : (decide ((TT L x0).1 = 64 + 2) && ((r32 x7 && r32 (V x0 0)) && true)) = true := an f0 (an f1 rfl)
  show some (decide ((TT L x0).1 = 64 + 2) && ((r32 x7 && r32 (V x0 0)) && true), _) = _
  rw [hG]
  try rfl

theorem B76_34 (L : Nat) (V : Mv) (b : Bool) (x0 : Nat) (x1 : Int) (x2 : Int) (x5 : Int) (x7 : Int) (c_x0 : isK x0) (g0 : 0 ≤ (x1 * 8) + x7 ∧ (x1 * 8) + x7 < 64) (g1 : in32 (V (x0 + 1) ((x1 * 8) + x7).toNat)) : nxs 11 76 34 [some (.inr (.inr x0)), some (.inl x1), some (.inr (.inl x2)), none, some (.inr (.inr 119)), some (.inr (.inl x5)), none, some (.inl x7), none] [] (M0 L V b) = some (true, cond (decide (V (x0 + 1) ((x1 * 8) + x7).toNat ≤ 0)) 67 53, [some (.inr (.inr x0)), some (.inl x1), some (.inr (.inl x2)), none, some (.inr (.inr 119)), some (.inr (.inl x5)), none, some (.inl x7), some (.inl (V (x0 + 1) ((x1 * 8) + x7).toNat))], [], M0 L V b) := by
  have f0 : (decide ((TT L x0).1 = 64 + 2) && decide (RR b x0 4 = some (x0 + 1))) = true := clr_of (isK_T c_x0) (isK_R4 c_x0)
  have f1 : gX (M0 L V b) (x0 + 1) 1 ((x1 * 8) + x7) = true := gx_of (show aT _ _ = _ from isK_A4 (L := L) c_x0) g0
  have f2 : r32 (V (x0 + 1) ((x1 * 8) + x7).toNat) = true := r32_of g1
  have hG : ((decide ((TT L x0).1 = 64 + 2) && decide (RR b x0 4 = some (x0 + 1))) && (gX (M0 L V b) (x0 + 1) 1 ((x1 * 8) + x7) && (r32 (V (x0 + 1) ((x1 * 8) + x7).toNat) && true))) = true := an f0 (an f1 (an f2 rfl))
  show some ((decide ((TT L x0).1 = 64 + 2) && decide (RR b x0 4 = some (x0 + 1))) && (gX (M0 L V b) (x0 + 1) 1 ((x1 * 8) + x7) && (r32 (V (x0 + 1) ((x1 * 8) + x7).toNat) && true)), _) = _
  rw [hG]
  try rfl

theorem B76_53 (L : Nat) (V : Mv) (b : Bool) (x0 : Nat) (x1 : Int) (x2 : Int) (x5 : Int) (x7 : Int) (x8 : Int) (g0 : 0 ≤ x7 ∧ x7 < 8) (g1 : in64 (V 119 (x7).toNat)) (g2 : in32 (cmpI (V 119 (x7).toNat) 0)) : nxs 6 76 53 [some (.inr (.inr x0)), some (.inl x1), some (.inr (.inl x2)), none, some (.inr (.inr 119)), some (.inr (.inl x5)), none, some (.inl x7), some (.inl x8)] [] (M0 L V b) = some (true, cond (decide (0 ≤ cmpI (V 119 (x7).toNat) 0)) 67 63, [some (.inr (.inr x0)), some (.inl x1), some (.inr (.inl x2)), none, some (.inr (.inr 119)), some (.inr (.inl x5)), none, some (.inl x7), some (.inl x8)], [], M0 L V b) := by
  have f0 : gX (M0 L V b) 119 2 x7 = true := gx_of rfl g0
  have f1 : (r64 (V 119 (x7).toNat) && r64 0) = true := rr64_of g1 (by decide)
  have f2 : r32 (cmpI (V 119 (x7).toNat) 0) = true := r32_of g2
  have hG : (gX (M0 L V b) 119 2 x7 && ((r64 (V 119 (x7).toNat) && r64 0) && (r32 (cmpI (V 119 (x7).toNat) 0) && true))) = true := an f0 (an f1 (an f2 rfl))
  show some (gX (M0 L V b) 119 2 x7 && ((r64 (V 119 (x7).toNat) && r64 0) && (r32 (cmpI (V 119 (x7).toNat) 0) && true)), _) = _
  rw [hG]
  try rfl

theorem B76_63 (L : Nat) (V : Mv) (b : Bool) (x0 : Nat) (x1 : Int) (x2 : Int) (x5 : Int) (x7 : Int) (x8 : Int)  : nxs 1 76 63 [some (.inr (.inr x0)), some (.inl x1), some (.inr (.inl x2)), none, some (.inr (.inr 119)), some (.inr (.inl x5)), none, some (.inl x7), some (.inl x8)] [] (M0 L V b) = some (true, 66, [some (.inr (.inr x0)), some (.inl x1), some (.inr (.inl x2)), none, some (.inr (.inr 119)), some (.inr (.inl x5)), none, some (.inl x7), some (.inl x8)], [.inr (.inl (-9))], M0 L V b) := by
  rfl

theorem B76_67 (L : Nat) (V : Mv) (b : Bool) (x0 : Nat) (x1 : Int) (x2 : Int) (x5 : Int) (x7 : Int) (x8 : Int) (g0 : in32 x8) (g1 : 0 ≤ x7 ∧ x7 < 8) : nxs 11 76 67 [some (.inr (.inr x0)), some (.inl x1), some (.inr (.inl x2)), none, some (.inr (.inr 119)), some (.inr (.inl x5)), none, some (.inl x7), some (.inl x8)] [] (M0 L V b) = some (true, 25, [some (.inr (.inr x0)), some (.inl x1), some (.inr (.inl x2)), none, some (.inr (.inr 119)), some (.inr (.inl (x5 + (x8 * (V 119 (x7).toNat))))), none, some (.inl (x7 + 1)), some (.inl x8)], [], M0 L V b) := by
  have f0 : r32 x8 = true := r32_of g0
  have f1 : gX (M0 L V b) 119 2 x7 = true := gx_of rfl g1
  have hG : (r32 x8 && (gX (M0 L V b) 119 2 x7 && true)) = true := an f0 (an f1 rfl)
  show some (r32 x8 && (gX (M0 L V b) 119 2 x7 && true), _) = _
  rw [hG]
  try rfl

theorem B76_87 (L : Nat) (V : Mv) (b : Bool) (x0 : Nat) (x1 : Int) (x2 : Int) (x5 : Int) (x7 : Int) (c_x0 : isK x0) (g0 : 0 ≤ x1 ∧ x1 < 8) (g1 : in32 (V (x0 + 2) (x1).toNat)) (g2 : in64 x5) (g3 : in64 (V (x0 + 2) (x1).toNat)) (g4 : ¬ V (x0 + 2) (x1).toNat = 0) : nxs 7 76 87 [some (.inr (.inr x0)), some (.inl x1), some (.inr (.inl x2)), none, some (.inr (.inr 119)), some (.inr (.inl x5)), none, some (.inl x7), none] [] (M0 L V b) = some (true, 97, [some (.inr (.inr x0)), some (.inl x1), some (.inr (.inl x2)), none, some (.inr (.inr 119)), some (.inr (.inl x5)), none, some (.inl x7), none], [.inr (.inl (Int.tdiv x5 (V (x0 + 2) (x1).toNat)))], M0 L V b) := by
  have f0 : (decide ((TT L x0).1 = 64 + 2) && decide (RR b x0 5 = some (x0 + 2))) = true := clr_of (isK_T c_x0) (isK_R5 c_x0)
  have f1 : gX (M0 L V b) (x0 + 2) 1 x1 = true := gx_of (show aT _ _ = _ from isK_A5 (L := L) c_x0) g0
  have f2 : r32 (V (x0 + 2) (x1).toNat) = true := r32_of g1
  have f3 : gL x5 (V (x0 + 2) (x1).toNat) = true := gL_of g2 g3 g4
  have hG : ((decide ((TT L x0).1 = 64 + 2) && decide (RR b x0 5 = some (x0 + 2))) && (gX (M0 L V b) (x0 + 2) 1 x1 && (r32 (V (x0 + 2) (x1).toNat) && (gL x5 (V (x0 + 2) (x1).toNat) && true)))) = true := an f0 (an f1 (an f2 (an f3 rfl)))
  show some ((decide ((TT L x0).1 = 64 + 2) && decide (RR b x0 5 = some (x0 + 2))) && (gX (M0 L V b) (x0 + 2) 1 x1 && (r32 (V (x0 + 2) (x1).toNat) && (gL x5 (V (x0 + 2) (x1).toNat) && true))), _) = _
  rw [hG]
  try rfl

-- 77: MendedOrNew$Kind.ruleCount()J
theorem B77_0 (L : Nat) (V : Mv) (b : Bool) (x0 : Nat)  : nxs 1 77 0 [some (.inr (.inr x0))] [] (M0 L V b) = some (true, 1, [some (.inr (.inr x0))], [.inr (.inr x0)], M0 L V b) := by
  rfl

theorem B77_7 (L : Nat) (V : Mv) (b : Bool) (x0 : Nat) (s0 : Int) (g0 : in32 (s0 + 1)) (c_x0 : isK x0) : nxs 5 77 7 [some (.inr (.inr x0))] [.inl s0] (M0 L V b) = some (true, 14, [some (.inr (.inr x0))], [.inl (V x0 0), .inr (.inl (s0 + 1))], M0 L V b) := by
  have f0 : r32 (s0 + 1) = true := r32_of g0
  have f1 : decide ((TT L x0).1 = 64 + 2) = true := cls_of (isK_T c_x0)
  have hG : (r32 (s0 + 1) && (decide ((TT L x0).1 = 64 + 2) && true)) = true := an f0 (an f1 rfl)
  show some (r32 (s0 + 1) && (decide ((TT L x0).1 = 64 + 2) && true), _) = _
  rw [hG]
  try rfl

-- 79: MendedOrNew$Thought.settle(I)V
theorem B79_0 (L : Nat) (V : Mv) (b : Bool) (x0 : Nat) (x1 : Int)  : nxs 2 79 0 [some (.inr (.inr x0)), some (.inl x1), none] [] (M0 L V b) = some (true, 2, [some (.inr (.inr x0)), some (.inl x1), some (.inl 0)], [], M0 L V b) := by
  rfl

theorem B79_2 (L : Nat) (V : Mv) (b : Bool) (x0 : Nat) (x1 : Int) (x2 : Int) (g0 : in32 x2) : nxs 3 79 2 [some (.inr (.inr x0)), some (.inl x1), some (.inl x2)] [] (M0 L V b) = some (true, cond (decide (8 ≤ x2)) 30 8, [some (.inr (.inr x0)), some (.inl x1), some (.inl x2)], [], M0 L V b) := by
  have f0 : (r32 x2 && r32 8) = true := rr32_of g0 (by decide)
  have hG : ((r32 x2 && r32 8) && true) = true := an f0 rfl
  show some ((r32 x2 && r32 8) && true, _) = _
  rw [hG]
  try rfl

theorem B79_8 (L : Nat) (V : Mv) (b : Bool) (x0 : Nat) (x1 : Int) (x2 : Int) (c_x0 : isT x0) (g0 : in32 x2) (g1 : in32 x1) : nxs 6 79 8 [some (.inr (.inr x0)), some (.inl x1), some (.inl x2)] [] (M0 L V b) = some (true, cond (!decide (x2 = x1)) 22 18, [some (.inr (.inr x0)), some (.inl x1), some (.inl x2)], [.inl x2, .inr (.inr (x0 + 1))], M0 L V b) := by
  have f0 : (decide ((TT L x0).1 = 64 + 3) && decide (RR b x0 0 = some (x0 + 1))) = true := clr_of (isT_T c_x0) (isT_R0 c_x0)
  have f1 : (r32 x2 && r32 x1) = true := rr32_of g0 g1
  have hG : ((decide ((TT L x0).1 = 64 + 3) && decide (RR b x0 0 = some (x0 + 1))) && ((r32 x2 && r32 x1) && true)) = true := an f0 (an f1 rfl)
  show some ((decide ((TT L x0).1 = 64 + 3) && decide (RR b x0 0 = some (x0 + 1))) && ((r32 x2 && r32 x1) && true), _) = _
  rw [hG]
  try rfl

theorem B79_18 (L : Nat) (V : Mv) (b : Bool) (x0 : Nat) (x1 : Int) (x2 : Int) (s1 : Int)  : nxs 2 79 18 [some (.inr (.inr x0)), some (.inl x1), some (.inl x2)] [.inl s1, .inr (.inr 119)] (M0 L V b) = some (true, 23, [some (.inr (.inr x0)), some (.inl x1), some (.inl x2)], [.inr (.inl 1), .inl s1, .inr (.inr 119)], M0 L V b) := by
  rfl

theorem B79_22 (L : Nat) (V : Mv) (b : Bool) (x0 : Nat) (x1 : Int) (x2 : Int) (s1 : Int)  : nxs 1 79 22 [some (.inr (.inr x0)), some (.inl x1), some (.inl x2)] [.inl s1, .inr (.inr 119)] (M0 L V b) = some (true, 23, [some (.inr (.inr x0)), some (.inl x1), some (.inl x2)], [.inr (.inl 0), .inl s1, .inr (.inr 119)], M0 L V b) := by
  rfl

theorem B79_23 (L : Nat) (V : Mv) (b : Bool) (x0 : Nat) (x1 : Int) (x2 : Int) (s1 : Int) (s2 : Int) (g0 : 0 ≤ s1 ∧ s1 < 8) : nxs 3 79 23 [some (.inr (.inr x0)), some (.inl x1), some (.inl x2)] [.inr (.inl s2), .inl s1, .inr (.inr 119)] (M0 L V b) = some (true, 2, [some (.inr (.inr x0)), some (.inl x1), some (.inl (x2 + 1))], [], M0 L (uV V 119 (s1).toNat s2) b) := by
  have f0 : (gX (M0 L V b) 119 2 s1 && !Nat.beq 119 0) = true := gs_of (gx_of rfl g0) (by decide)
  have hG : ((gX (M0 L V b) 119 2 s1 && !Nat.beq 119 0) && true) = true := an f0 rfl
  show some ((gX (M0 L V b) 119 2 s1 && !Nat.beq 119 0) && true, _) = _
  rw [hG]
  try rfl

-- 80: MendedOrNew$Thought.passDay(LMendedOrNew$Kind;)I
theorem B80_0 (L : Nat) (V : Mv) (b : Bool) (x0 : Nat) (x1 : Nat)  : nxs 2 80 0 [some (.inr (.inr x0)), some (.inr (.inr x1)), none, none, none, none] [] (M0 L V b) = some (true, 2, [some (.inr (.inr x0)), some (.inr (.inr x1)), some (.inl 0), none, none, none], [], M0 L V b) := by
  rfl

theorem B80_2 (L : Nat) (V : Mv) (b : Bool) (x0 : Nat) (x1 : Nat) (x2 : Int) (g0 : in32 x2) : nxs 3 80 2 [some (.inr (.inr x0)), some (.inr (.inr x1)), some (.inl x2), none, none, none] [] (M0 L V b) = some (true, cond (decide (8 ≤ x2)) 62 8, [some (.inr (.inr x0)), some (.inr (.inr x1)), some (.inl x2), none, none, none], [], M0 L V b) := by
  have f0 : (r32 x2 && r32 8) = true := rr32_of g0 (by decide)
  have hG : ((r32 x2 && r32 8) && true) = true := an f0 rfl
  show some ((r32 x2 && r32 8) && true, _) = _
  rw [hG]
  try rfl

theorem B80_8 (L : Nat) (V : Mv) (b : Bool) (x0 : Nat) (x1 : Nat) (x2 : Int)  : nxs 4 80 8 [some (.inr (.inr x0)), some (.inr (.inr x1)), some (.inl x2), none, none, none] [] (M0 L V b) = some (true, 13, [some (.inr (.inr x0)), some (.inr (.inr x1)), some (.inl x2), some (.inr (.inl 0)), none, some (.inl 0)], [], M0 L V b) := by
  rfl

theorem B80_13 (L : Nat) (V : Mv) (b : Bool) (x0 : Nat) (x1 : Nat) (x2 : Int) (x3 : Int) (x5 : Int) (g0 : in32 x5) (g1 : in32 x2) : nxs 3 80 13 [some (.inr (.inr x0)), some (.inr (.inr x1)), some (.inl x2), some (.inr (.inl x3)), none, some (.inl x5)] [] (M0 L V b) = some (true, cond (decide (x2 < x5)) 49 19, [some (.inr (.inr x0)), some (.inr (.inr x1)), some (.inl x2), some (.inr (.inl x3)), none, some (.inl x5)], [], M0 L V b) := by
  have f0 : (r32 x5 && r32 x2) = true := rr32_of g0 g1
  have hG : ((r32 x5 && r32 x2) && true) = true := an f0 rfl
  show some ((r32 x5 && r32 x2) && true, _) = _
  rw [hG]
  try rfl

theorem B80_19 (L : Nat) (V : Mv) (b : Bool) (x0 : Nat) (x1 : Nat) (x2 : Int) (x3 : Int) (x5 : Int) (c_x0 : isT x0) (g0 : 0 ≤ x5 ∧ x5 < 8) (c_x1 : isK x1) (g1 : 0 ≤ (x5 * 8) + x2 ∧ (x5 * 8) + x2 < 64) (g2 : in32 (V (x1 + 1) ((x5 * 8) + x2).toNat)) : nxs 19 80 19 [some (.inr (.inr x0)), some (.inr (.inr x1)), some (.inl x2), some (.inr (.inl x3)), none, some (.inl x5)] [] (M0 L V b) = some (true, 13, [some (.inr (.inr x0)), some (.inr (.inr x1)), some (.inl x2), some (.inr (.inl (x3 + ((V (x0 + 1) (x5).toNat) * (V (x1 + 1) ((x5 * 8) + x2).toNat))))), none, some (.inl (x5 + 1))], [], M0 L V b) := by
  have f0 : (decide ((TT L x0).1 = 64 + 3) && decide (RR b x0 0 = some (x0 + 1))) = true := clr_of (isT_T c_x0) (isT_R0 c_x0)
  have f1 : gX (M0 L V b) (x0 + 1) 2 x5 = true := gx_of (show aT _ _ = _ from isT_A0 (L := L) c_x0) g0
  have f2 : (decide ((TT L x1).1 = 64 + 2) && decide (RR b x1 4 = some (x1 + 1))) = true := clr_of (isK_T c_x1) (isK_R4 c_x1)
  have f3 : gX (M0 L V b) (x1 + 1) 1 ((x5 * 8) + x2) = true := gx_of (show aT _ _ = _ from isK_A4 (L := L) c_x1) g1
  have f4 : r32 (V (x1 + 1) ((x5 * 8) + x2).toNat) = true := r32_of g2
  have hG : ((decide ((TT L x0).1 = 64 + 3) && decide (RR b x0 0 = some (x0 + 1))) && (gX (M0 L V b) (x0 + 1) 2 x5 && ((decide ((TT L x1).1 = 64 + 2) && decide (RR b x1 4 = some (x1 + 1))) && (gX (M0 L V b) (x1 + 1) 1 ((x5 * 8) + x2) && (r32 (V (x1 + 1) ((x5 * 8) + x2).toNat) && true))))) = true := an f0 (an f1 (an f2 (an f3 (an f4 rfl))))
  show some ((decide ((TT L x0).1 = 64 + 3) && decide (RR b x0 0 = some (x0 + 1))) && (gX (M0 L V b) (x0 + 1) 2 x5 && ((decide ((TT L x1).1 = 64 + 2) && decide (RR b x1 4 = some (x1 + 1))) && (gX (M0 L V b) (x1 + 1) 1 ((x5 * 8) + x2) && (r32 (V (x1 + 1) ((x5 * 8) + x2).toNat) && true)))), _) = _
  rw [hG]
  try rfl

theorem B80_49 (L : Nat) (V : Mv) (b : Bool) (x0 : Nat) (x1 : Nat) (x2 : Int) (x3 : Int) (x5 : Int) (c_x0 : isT x0) (g0 : 0 ≤ x2 ∧ x2 < 8) : nxs 7 80 49 [some (.inr (.inr x0)), some (.inr (.inr x1)), some (.inl x2), some (.inr (.inl x3)), none, some (.inl x5)] [] (M0 L V b) = some (true, 2, [some (.inr (.inr x0)), some (.inr (.inr x1)), some (.inl (x2 + 1)), some (.inr (.inl x3)), none, some (.inl x5)], [], M0 L (uV V (x0 + 2) (x2).toNat x3) b) := by
  have f0 : (decide ((TT L x0).1 = 64 + 3) && decide (RR b x0 1 = some (x0 + 2))) = true := clr_of (isT_T c_x0) (isT_R1 c_x0)
  have f1 : (gX (M0 L V b) (x0 + 2) 2 x2 && !Nat.beq (x0 + 2) 0) = true := gs_of (gx_of (show aT _ _ = _ from isT_A1 (L := L) c_x0) g0) (by omega)
  have hG : ((decide ((TT L x0).1 = 64 + 3) && decide (RR b x0 1 = some (x0 + 2))) && ((gX (M0 L V b) (x0 + 2) 2 x2 && !Nat.beq (x0 + 2) 0) && true)) = true := an f0 (an f1 rfl)
  show some ((decide ((TT L x0).1 = 64 + 3) && decide (RR b x0 1 = some (x0 + 2))) && ((gX (M0 L V b) (x0 + 2) 2 x2 && !Nat.beq (x0 + 2) 0) && true), _) = _
  rw [hG]
  try rfl

theorem B80_62 (L : Nat) (V : Mv) (b : Bool) (x0 : Nat) (x1 : Nat) (x2 : Int)  : nxs 1 80 62 [some (.inr (.inr x0)), some (.inr (.inr x1)), some (.inl x2), none, none, none] [] (M0 L V b) = some (true, 63, [some (.inr (.inr x0)), some (.inr (.inr x1)), some (.inl x2), none, none, none], [.inr (.inr x0)], M0 L V b) := by
  rfl

-- 81: MendedOrNew$Thought.takeNext()I
theorem B81_0 (L : Nat) (V : Mv) (b : Bool) (x0 : Nat)  : nxs 6 81 0 [some (.inr (.inr x0)), none, none, none, none, none] [] (M0 L V b) = some (true, 7, [some (.inr (.inr x0)), some (.inr (.inl 0)), none, some (.inr (.inl 0)), none, some (.inl 0)], [], M0 L V b) := by
  rfl

theorem B81_7 (L : Nat) (V : Mv) (b : Bool) (x0 : Nat) (x1 : Int) (x3 : Int) (x5 : Int) (g0 : in32 x5) : nxs 3 81 7 [some (.inr (.inr x0)), some (.inr (.inl x1)), none, some (.inr (.inl x3)), none, some (.inl x5)] [] (M0 L V b) = some (true, cond (decide (8 ≤ x5)) 44 14, [some (.inr (.inr x0)), some (.inr (.inl x1)), none, some (.inr (.inl x3)), none, some (.inl x5)], [], M0 L V b) := by
  have f0 : (r32 x5 && r32 8) = true := rr32_of g0 (by decide)
  have hG : ((r32 x5 && r32 8) && true) = true := an f0 rfl
  show some ((r32 x5 && r32 8) && true, _) = _
  rw [hG]
  try rfl

theorem B81_14 (L : Nat) (V : Mv) (b : Bool) (x0 : Nat) (x1 : Int) (x3 : Int) (x5 : Int) (c_x0 : isT x0) (g0 : 0 ≤ x5 ∧ x5 < 8) : nxs 5 81 14 [some (.inr (.inr x0)), some (.inr (.inl x1)), none, some (.inr (.inl x3)), none, some (.inl x5)] [] (M0 L V b) = some (true, 22, [some (.inr (.inr x0)), some (.inr (.inl x1)), none, some (.inr (.inl x3)), none, some (.inl x5)], [.inr (.inl (V (x0 + 2) (x5).toNat)), .inr (.inl x1)], M0 L V b) := by
  have f0 : (decide ((TT L x0).1 = 64 + 3) && decide (RR b x0 1 = some (x0 + 2))) = true := clr_of (isT_T c_x0) (isT_R1 c_x0)
  have f1 : gX (M0 L V b) (x0 + 2) 2 x5 = true := gx_of (show aT _ _ = _ from isT_A1 (L := L) c_x0) g0
  have hG : ((decide ((TT L x0).1 = 64 + 3) && decide (RR b x0 1 = some (x0 + 2))) && (gX (M0 L V b) (x0 + 2) 2 x5 && true)) = true := an f0 (an f1 rfl)
  show some ((decide ((TT L x0).1 = 64 + 3) && decide (RR b x0 1 = some (x0 + 2))) && (gX (M0 L V b) (x0 + 2) 2 x5 && true), _) = _
  rw [hG]
  try rfl

theorem B81_25 (L : Nat) (V : Mv) (b : Bool) (x0 : Nat) (x1 : Int) (x3 : Int) (x5 : Int) (s0 : Int) (c_x0 : isT x0) (g0 : 0 ≤ x5 ∧ x5 < 8) (g1 : in64 x3) (g2 : in64 (V (x0 + 2) (x5).toNat)) : nxs 10 81 25 [some (.inr (.inr x0)), some (.inr (.inl x1)), none, some (.inr (.inl x3)), none, some (.inl x5)] [.inr (.inl s0)] (M0 L V b) = some (true, 7, [some (.inr (.inr x0)), some (.inr (.inl s0)), none, some (.inr (.inl (cond (decide (V (x0 + 2) (x5).toNat < x3)) x3 (V (x0 + 2) (x5).toNat)))), none, some (.inl (x5 + 1))], [], M0 L V b) := by
  have f0 : (decide ((TT L x0).1 = 64 + 3) && decide (RR b x0 1 = some (x0 + 2))) = true := clr_of (isT_T c_x0) (isT_R1 c_x0)
  have f1 : gX (M0 L V b) (x0 + 2) 2 x5 = true := gx_of (show aT _ _ = _ from isT_A1 (L := L) c_x0) g0
  have f2 : (r64 x3 && (r64 (V (x0 + 2) (x5).toNat) && true)) = true := an (r64_of g1) (an (r64_of g2) rfl)
  have hG : ((decide ((TT L x0).1 = 64 + 3) && decide (RR b x0 1 = some (x0 + 2))) && (gX (M0 L V b) (x0 + 2) 2 x5 && ((r64 x3 && (r64 (V (x0 + 2) (x5).toNat) && true)) && true))) = true := an f0 (an f1 (an f2 rfl))
  show some ((decide ((TT L x0).1 = 64 + 3) && decide (RR b x0 1 = some (x0 + 2))) && (gX (M0 L V b) (x0 + 2) 2 x5 && ((r64 x3 && (r64 (V (x0 + 2) (x5).toNat) && true)) && true)), _) = _
  rw [hG]
  try rfl

theorem B81_44 (L : Nat) (V : Mv) (b : Bool) (x0 : Nat) (x1 : Int) (x3 : Int) (x5 : Int) (g0 : in64 x1) (g1 : in32 (cmpI x1 0)) : nxs 4 81 44 [some (.inr (.inr x0)), some (.inr (.inl x1)), none, some (.inr (.inl x3)), none, some (.inl x5)] [] (M0 L V b) = some (true, cond (!decide (cmpI x1 0 = 0)) 53 50, [some (.inr (.inr x0)), some (.inr (.inl x1)), none, some (.inr (.inl x3)), none, some (.inl x5)], [], M0 L V b) := by
  have f0 : (r64 x1 && r64 0) = true := rr64_of g0 (by decide)
  have f1 : r32 (cmpI x1 0) = true := r32_of g1
  have hG : ((r64 x1 && r64 0) && (r32 (cmpI x1 0) && true)) = true := an f0 (an f1 rfl)
  show some ((r64 x1 && r64 0) && (r32 (cmpI x1 0) && true), _) = _
  rw [hG]
  try rfl

theorem B81_50 (L : Nat) (V : Mv) (b : Bool) (x0 : Nat) (x1 : Int) (x3 : Int) (x5 : Int)  : nxs 1 81 50 [some (.inr (.inr x0)), some (.inr (.inl x1)), none, some (.inr (.inl x3)), none, some (.inl x5)] [] (M0 L V b) = some (true, 52, [some (.inr (.inr x0)), some (.inr (.inl x1)), none, some (.inr (.inl x3)), none, some (.inl x5)], [.inl (-3)], M0 L V b) := by
  rfl

theorem B81_53 (L : Nat) (V : Mv) (b : Bool) (x0 : Nat) (x1 : Int) (x3 : Int) (x5 : Int) (g0 : in64 x3) (g1 : in64 x1) (g2 : ¬ x1 = 0) (g3 : in64 (Int.tdiv x3 x1)) (g4 : in32 (cmpI (Int.tdiv x3 x1) 1000000000000000)) : nxs 6 81 53 [some (.inr (.inr x0)), some (.inr (.inl x1)), none, some (.inr (.inl x3)), none, some (.inl x5)] [] (M0 L V b) = some (true, cond (decide (cmpI (Int.tdiv x3 x1) 1000000000000000 ≤ 0)) 66 63, [some (.inr (.inr x0)), some (.inr (.inl x1)), none, some (.inr (.inl x3)), none, some (.inl x5)], [], M0 L V b) := by
  have f0 : gL x3 x1 = true := gL_of g0 g1 g2
  have f1 : (r64 (Int.tdiv x3 x1) && r64 1000000000000000) = true := rr64_of g3 (by decide)
  have f2 : r32 (cmpI (Int.tdiv x3 x1) 1000000000000000) = true := r32_of g4
  have hG : (gL x3 x1 && ((r64 (Int.tdiv x3 x1) && r64 1000000000000000) && (r32 (cmpI (Int.tdiv x3 x1) 1000000000000000) && true))) = true := an f0 (an f1 (an f2 rfl))
  show some (gL x3 x1 && ((r64 (Int.tdiv x3 x1) && r64 1000000000000000) && (r32 (cmpI (Int.tdiv x3 x1) 1000000000000000) && true)), _) = _
  rw [hG]
  try rfl

theorem B81_63 (L : Nat) (V : Mv) (b : Bool) (x0 : Nat) (x1 : Int) (x3 : Int) (x5 : Int)  : nxs 1 81 63 [some (.inr (.inr x0)), some (.inr (.inl x1)), none, some (.inr (.inl x3)), none, some (.inl x5)] [] (M0 L V b) = some (true, 65, [some (.inr (.inr x0)), some (.inr (.inl x1)), none, some (.inr (.inl x3)), none, some (.inl x5)], [.inl (-4)], M0 L V b) := by
  rfl

theorem B81_66 (L : Nat) (V : Mv) (b : Bool) (x0 : Nat) (x1 : Int) (x3 : Int) (x5 : Int)  : nxs 2 81 66 [some (.inr (.inr x0)), some (.inr (.inl x1)), none, some (.inr (.inl x3)), none, some (.inl x5)] [] (M0 L V b) = some (true, 69, [some (.inr (.inr x0)), some (.inr (.inl x1)), none, some (.inr (.inl x3)), none, some (.inl 0)], [], M0 L V b) := by
  rfl

theorem B81_69 (L : Nat) (V : Mv) (b : Bool) (x0 : Nat) (x1 : Int) (x3 : Int) (x5 : Int) (g0 : in32 x5) : nxs 3 81 69 [some (.inr (.inr x0)), some (.inr (.inl x1)), none, some (.inr (.inl x3)), none, some (.inl x5)] [] (M0 L V b) = some (true, cond (decide (8 ≤ x5)) 98 76, [some (.inr (.inr x0)), some (.inr (.inl x1)), none, some (.inr (.inl x3)), none, some (.inl x5)], [], M0 L V b) := by
  have f0 : (r32 x5 && r32 8) = true := rr32_of g0 (by decide)
  have hG : ((r32 x5 && r32 8) && true) = true := an f0 rfl
  show some ((r32 x5 && r32 8) && true, _) = _
  rw [hG]
  try rfl

theorem B81_76 (L : Nat) (V : Mv) (b : Bool) (x0 : Nat) (x1 : Int) (x3 : Int) (x5 : Int) (c_x0 : isT x0) (g0 : 0 ≤ x5 ∧ x5 < 8) (g1 : in64 (V (x0 + 2) (x5).toNat)) (g2 : in64 x1) (g3 : ¬ x1 = 0) : nxs 12 81 76 [some (.inr (.inr x0)), some (.inr (.inl x1)), none, some (.inr (.inl x3)), none, some (.inl x5)] [] (M0 L V b) = some (true, 69, [some (.inr (.inr x0)), some (.inr (.inl x1)), none, some (.inr (.inl x3)), none, some (.inl (x5 + 1))], [], M0 L (uV V (x0 + 1) (x5).toNat (Int.tdiv (V (x0 + 2) (x5).toNat) x1)) b) := by
  have f0 : (decide ((TT L x0).1 = 64 + 3) && decide (RR b x0 0 = some (x0 + 1))) = true := clr_of (isT_T c_x0) (isT_R0 c_x0)
  have f1 : (decide ((TT L x0).1 = 64 + 3) && decide (RR b x0 1 = some (x0 + 2))) = true := clr_of (isT_T c_x0) (isT_R1 c_x0)
  have f2 : gX (M0 L V b) (x0 + 2) 2 x5 = true := gx_of (show aT _ _ = _ from isT_A1 (L := L) c_x0) g0
  have f3 : gL (V (x0 + 2) (x5).toNat) x1 = true := gL_of g1 g2 g3
  have f4 : (gX (M0 L V b) (x0 + 1) 2 x5 && !Nat.beq (x0 + 1) 0) = true := gs_of (gx_of (show aT _ _ = _ from isT_A0 (L := L) c_x0) g0) (by omega)
  have hG : ((decide ((TT L x0).1 = 64 + 3) && decide (RR b x0 0 = some (x0 + 1))) && ((decide ((TT L x0).1 = 64 + 3) && decide (RR b x0 1 = some (x0 + 2))) && (gX (M0 L V b) (x0 + 2) 2 x5 && (gL (V (x0 + 2) (x5).toNat) x1 && ((gX (M0 L V b) (x0 + 1) 2 x5 && !Nat.beq (x0 + 1) 0) && true))))) = true := an f0 (an f1 (an f2 (an f3 (an f4 rfl))))
  show some ((decide ((TT L x0).1 = 64 + 3) && decide (RR b x0 0 = some (x0 + 1))) && ((decide ((TT L x0).1 = 64 + 3) && decide (RR b x0 1 = some (x0 + 2))) && (gX (M0 L V b) (x0 + 2) 2 x5 && (gL (V (x0 + 2) (x5).toNat) x1 && ((gX (M0 L V b) (x0 + 1) 2 x5 && !Nat.beq (x0 + 1) 0) && true)))), _) = _
  rw [hG]
  try rfl

theorem B81_98 (L : Nat) (V : Mv) (b : Bool) (x0 : Nat) (x1 : Int) (x3 : Int) (x5 : Int)  : nxs 1 81 98 [some (.inr (.inr x0)), some (.inr (.inl x1)), none, some (.inr (.inl x3)), none, some (.inl x5)] [] (M0 L V b) = some (true, 99, [some (.inr (.inr x0)), some (.inr (.inl x1)), none, some (.inr (.inl x3)), none, some (.inl x5)], [.inl 1], M0 L V b) := by
  rfl

-- 82: MendedOrNew$Thought.takeKnock(LMendedOrNew$Kind;Z)I
theorem B82_0 (L : Nat) (V : Mv) (b : Bool) (x0 : Nat) (x1 : Nat) (x2 : Int)  : nxs 2 82 0 [some (.inr (.inr x0)), some (.inr (.inr x1)), some (.inl x2), none, none] [] (M0 L V b) = some (true, 2, [some (.inr (.inr x0)), some (.inr (.inr x1)), some (.inl x2), some (.inl 0), none], [], M0 L V b) := by
  rfl

theorem B82_2 (L : Nat) (V : Mv) (b : Bool) (x0 : Nat) (x1 : Nat) (x2 : Int) (x3 : Int) (g0 : in32 x3) : nxs 3 82 2 [some (.inr (.inr x0)), some (.inr (.inr x1)), some (.inl x2), some (.inl x3), none] [] (M0 L V b) = some (true, cond (decide (8 ≤ x3)) 50 8, [some (.inr (.inr x0)), some (.inr (.inr x1)), some (.inl x2), some (.inl x3), none], [], M0 L V b) := by
  have f0 : (r32 x3 && r32 8) = true := rr32_of g0 (by decide)
  have hG : ((r32 x3 && r32 8) && true) = true := an f0 rfl
  show some ((r32 x3 && r32 8) && true, _) = _
  rw [hG]
  try rfl

theorem B82_8 (L : Nat) (V : Mv) (b : Bool) (x0 : Nat) (x1 : Nat) (x2 : Int) (x3 : Int) (c_x1 : isK x1) (g0 : 0 ≤ x3 ∧ x3 < 8) (c_x0 : isT x0) (g1 : in32 x2) : nxs 14 82 8 [some (.inr (.inr x0)), some (.inr (.inr x1)), some (.inl x2), some (.inl x3), none] [] (M0 L V b) = some (true, cond (decide (x2 = 0)) 36 31, [some (.inr (.inr x0)), some (.inr (.inr x1)), some (.inl x2), some (.inl x3), some (.inl (V (x1 + 4) (x3).toNat))], [.inr (.inl (V (x0 + 1) (x3).toNat)), .inl x3, .inr (.inr (x0 + 2))], M0 L V b) := by
  have f0 : (decide ((TT L x1).1 = 64 + 2) && decide (RR b x1 7 = some (x1 + 4))) = true := clr_of (isK_T c_x1) (isK_R7 c_x1)
  have f1 : gX (M0 L V b) (x1 + 4) 1 x3 = true := gx_of (show aT _ _ = _ from isK_A7 (L := L) c_x1) g0
  have f2 : (decide ((TT L x0).1 = 64 + 3) && decide (RR b x0 1 = some (x0 + 2))) = true := clr_of (isT_T c_x0) (isT_R1 c_x0)
  have f3 : (decide ((TT L x0).1 = 64 + 3) && decide (RR b x0 0 = some (x0 + 1))) = true := clr_of (isT_T c_x0) (isT_R0 c_x0)
  have f4 : gX (M0 L V b) (x0 + 1) 2 x3 = true := gx_of (show aT _ _ = _ from isT_A0 (L := L) c_x0) g0
  have f5 : r32 x2 = true := r32_of g1
  have hG : ((decide ((TT L x1).1 = 64 + 2) && decide (RR b x1 7 = some (x1 + 4))) && (gX (M0 L V b) (x1 + 4) 1 x3 && ((decide ((TT L x0).1 = 64 + 3) && decide (RR b x0 1 = some (x0 + 2))) && ((decide ((TT L x0).1 = 64 + 3) && decide (RR b x0 0 = some (x0 + 1))) && (gX (M0 L V b) (x0 + 1) 2 x3 && (r32 x2 && true)))))) = true := an f0 (an f1 (an f2 (an f3 (an f4 (an f5 rfl)))))
  show some ((decide ((TT L x1).1 = 64 + 2) && decide (RR b x1 7 = some (x1 + 4))) && (gX (M0 L V b) (x1 + 4) 1 x3 && ((decide ((TT L x0).1 = 64 + 3) && decide (RR b x0 1 = some (x0 + 2))) && ((decide ((TT L x0).1 = 64 + 3) && decide (RR b x0 0 = some (x0 + 1))) && (gX (M0 L V b) (x0 + 1) 2 x3 && (r32 x2 && true))))), _) = _
  rw [hG]
  try rfl

theorem B82_31 (L : Nat) (V : Mv) (b : Bool) (x0 : Nat) (x1 : Nat) (x2 : Int) (x3 : Int) (x4 : Int) (s1 : Int) (s2 : Int)  : nxs 2 82 31 [some (.inr (.inr x0)), some (.inr (.inr x1)), some (.inl x2), some (.inl x3), some (.inl x4)] [.inr (.inl s2), .inl s1, .inr (.inr 119)] (M0 L V b) = some (true, 41, [some (.inr (.inr x0)), some (.inr (.inr x1)), some (.inl x2), some (.inl x3), some (.inl x4)], [.inl x4, .inr (.inl s2), .inl s1, .inr (.inr 119)], M0 L V b) := by
  rfl

theorem B82_36 (L : Nat) (V : Mv) (b : Bool) (x0 : Nat) (x1 : Nat) (x2 : Int) (x3 : Int) (x4 : Int) (s1 : Int) (s2 : Int)  : nxs 3 82 36 [some (.inr (.inr x0)), some (.inr (.inr x1)), some (.inl x2), some (.inl x3), some (.inl x4)] [.inr (.inl s2), .inl s1, .inr (.inr 119)] (M0 L V b) = some (true, 41, [some (.inr (.inr x0)), some (.inr (.inr x1)), some (.inl x2), some (.inl x3), some (.inl x4)], [.inl (10 - x4), .inr (.inl s2), .inl s1, .inr (.inr 119)], M0 L V b) := by
  rfl

theorem B82_41 (L : Nat) (V : Mv) (b : Bool) (x0 : Nat) (x1 : Nat) (x2 : Int) (x3 : Int) (x4 : Int) (s1 : Int) (s2 : Int) (s3 : Int) (g0 : in32 s3) (g1 : 0 ≤ s1 ∧ s1 < 8) : nxs 5 82 41 [some (.inr (.inr x0)), some (.inr (.inr x1)), some (.inl x2), some (.inl x3), some (.inl x4)] [.inl s3, .inr (.inl s2), .inl s1, .inr (.inr 119)] (M0 L V b) = some (true, 2, [some (.inr (.inr x0)), some (.inr (.inr x1)), some (.inl x2), some (.inl (x3 + 1)), some (.inl x4)], [], M0 L (uV V 119 (s1).toNat (s2 * s3)) b) := by
  have f0 : r32 s3 = true := r32_of g0
  have f1 : (gX (M0 L V b) 119 2 s1 && !Nat.beq 119 0) = true := gs_of (gx_of rfl g1) (by decide)
  have hG : (r32 s3 && ((gX (M0 L V b) 119 2 s1 && !Nat.beq 119 0) && true)) = true := an f0 (an f1 rfl)
  show some (r32 s3 && ((gX (M0 L V b) 119 2 s1 && !Nat.beq 119 0) && true), _) = _
  rw [hG]
  try rfl

theorem B82_50 (L : Nat) (V : Mv) (b : Bool) (x0 : Nat) (x1 : Nat) (x2 : Int) (x3 : Int)  : nxs 1 82 50 [some (.inr (.inr x0)), some (.inr (.inr x1)), some (.inl x2), some (.inl x3), none] [] (M0 L V b) = some (true, 51, [some (.inr (.inr x0)), some (.inr (.inr x1)), some (.inl x2), some (.inl x3), none], [.inr (.inr x0)], M0 L V b) := by
  rfl

-- 83: MendedOrNew$Thought.sumFrom(I)J
theorem B83_0 (L : Nat) (V : Mv) (b : Bool) (x0 : Nat) (x1 : Int)  : nxs 4 83 0 [some (.inr (.inr x0)), some (.inl x1), none, none, none] [] (M0 L V b) = some (true, 5, [some (.inr (.inr x0)), some (.inl x1), some (.inr (.inl 0)), none, some (.inl x1)], [], M0 L V b) := by
  rfl

theorem B83_5 (L : Nat) (V : Mv) (b : Bool) (x0 : Nat) (x1 : Int) (x2 : Int) (x4 : Int) (g0 : in32 x4) : nxs 3 83 5 [some (.inr (.inr x0)), some (.inl x1), some (.inr (.inl x2)), none, some (.inl x4)] [] (M0 L V b) = some (true, cond (decide (8 ≤ x4)) 28 12, [some (.inr (.inr x0)), some (.inl x1), some (.inr (.inl x2)), none, some (.inl x4)], [], M0 L V b) := by
  have f0 : (r32 x4 && r32 8) = true := rr32_of g0 (by decide)
  have hG : ((r32 x4 && r32 8) && true) = true := an f0 rfl
  show some ((r32 x4 && r32 8) && true, _) = _
  rw [hG]
  try rfl

theorem B83_12 (L : Nat) (V : Mv) (b : Bool) (x0 : Nat) (x1 : Int) (x2 : Int) (x4 : Int) (c_x0 : isT x0) (g0 : 0 ≤ x4 ∧ x4 < 8) : nxs 9 83 12 [some (.inr (.inr x0)), some (.inl x1), some (.inr (.inl x2)), none, some (.inl x4)] [] (M0 L V b) = some (true, 5, [some (.inr (.inr x0)), some (.inl x1), some (.inr (.inl (x2 + (V (x0 + 1) (x4).toNat)))), none, some (.inl (x4 + 1))], [], M0 L V b) := by
  have f0 : (decide ((TT L x0).1 = 64 + 3) && decide (RR b x0 0 = some (x0 + 1))) = true := clr_of (isT_T c_x0) (isT_R0 c_x0)
  have f1 : gX (M0 L V b) (x0 + 1) 2 x4 = true := gx_of (show aT _ _ = _ from isT_A0 (L := L) c_x0) g0
  have hG : ((decide ((TT L x0).1 = 64 + 3) && decide (RR b x0 0 = some (x0 + 1))) && (gX (M0 L V b) (x0 + 1) 2 x4 && true)) = true := an f0 (an f1 rfl)
  show some ((decide ((TT L x0).1 = 64 + 3) && decide (RR b x0 0 = some (x0 + 1))) && (gX (M0 L V b) (x0 + 1) 2 x4 && true), _) = _
  rw [hG]
  try rfl

theorem B83_28 (L : Nat) (V : Mv) (b : Bool) (x0 : Nat) (x1 : Int) (x2 : Int) (x4 : Int)  : nxs 1 83 28 [some (.inr (.inr x0)), some (.inl x1), some (.inr (.inl x2)), none, some (.inl x4)] [] (M0 L V b) = some (true, 29, [some (.inr (.inr x0)), some (.inl x1), some (.inr (.inl x2)), none, some (.inl x4)], [.inr (.inl x2)], M0 L V b) := by
  rfl

-- 84: MendedOrNew$Thought.knockWeight(LMendedOrNew$Kind;)J
theorem B84_0 (L : Nat) (V : Mv) (b : Bool) (x0 : Nat) (x1 : Nat)  : nxs 4 84 0 [some (.inr (.inr x0)), some (.inr (.inr x1)), none, none, none] [] (M0 L V b) = some (true, 5, [some (.inr (.inr x0)), some (.inr (.inr x1)), some (.inr (.inl 0)), none, some (.inl 0)], [], M0 L V b) := by
  rfl

theorem B84_5 (L : Nat) (V : Mv) (b : Bool) (x0 : Nat) (x1 : Nat) (x2 : Int) (x4 : Int) (g0 : in32 x4) : nxs 3 84 5 [some (.inr (.inr x0)), some (.inr (.inr x1)), some (.inr (.inl x2)), none, some (.inl x4)] [] (M0 L V b) = some (true, cond (decide (8 ≤ x4)) 37 12, [some (.inr (.inr x0)), some (.inr (.inr x1)), some (.inr (.inl x2)), none, some (.inl x4)], [], M0 L V b) := by
  have f0 : (r32 x4 && r32 8) = true := rr32_of g0 (by decide)
  have hG : ((r32 x4 && r32 8) && true) = true := an f0 rfl
  show some ((r32 x4 && r32 8) && true, _) = _
  rw [hG]
  try rfl

theorem B84_12 (L : Nat) (V : Mv) (b : Bool) (x0 : Nat) (x1 : Nat) (x2 : Int) (x4 : Int) (c_x0 : isT x0) (g0 : 0 ≤ x4 ∧ x4 < 8) (c_x1 : isK x1) (g1 : in32 (V (x1 + 4) (x4).toNat)) : nxs 15 84 12 [some (.inr (.inr x0)), some (.inr (.inr x1)), some (.inr (.inl x2)), none, some (.inl x4)] [] (M0 L V b) = some (true, 5, [some (.inr (.inr x0)), some (.inr (.inr x1)), some (.inr (.inl (x2 + ((V (x0 + 1) (x4).toNat) * (V (x1 + 4) (x4).toNat))))), none, some (.inl (x4 + 1))], [], M0 L V b) := by
  have f0 : (decide ((TT L x0).1 = 64 + 3) && decide (RR b x0 0 = some (x0 + 1))) = true := clr_of (isT_T c_x0) (isT_R0 c_x0)
  have f1 : gX (M0 L V b) (x0 + 1) 2 x4 = true := gx_of (show aT _ _ = _ from isT_A0 (L := L) c_x0) g0
  have f2 : (decide ((TT L x1).1 = 64 + 2) && decide (RR b x1 7 = some (x1 + 4))) = true := clr_of (isK_T c_x1) (isK_R7 c_x1)
  have f3 : gX (M0 L V b) (x1 + 4) 1 x4 = true := gx_of (show aT _ _ = _ from isK_A7 (L := L) c_x1) g0
  have f4 : r32 (V (x1 + 4) (x4).toNat) = true := r32_of g1
  have hG : ((decide ((TT L x0).1 = 64 + 3) && decide (RR b x0 0 = some (x0 + 1))) && (gX (M0 L V b) (x0 + 1) 2 x4 && ((decide ((TT L x1).1 = 64 + 2) && decide (RR b x1 7 = some (x1 + 4))) && (gX (M0 L V b) (x1 + 4) 1 x4 && (r32 (V (x1 + 4) (x4).toNat) && true))))) = true := an f0 (an f1 (an f2 (an f3 (an f4 rfl))))
  show some ((decide ((TT L x0).1 = 64 + 3) && decide (RR b x0 0 = some (x0 + 1))) && (gX (M0 L V b) (x0 + 1) 2 x4 && ((decide ((TT L x1).1 = 64 + 2) && decide (RR b x1 7 = some (x1 + 4))) && (gX (M0 L V b) (x1 + 4) 1 x4 && (r32 (V (x1 + 4) (x4).toNat) && true)))), _) = _
  rw [hG]
  try rfl

theorem B84_37 (L : Nat) (V : Mv) (b : Bool) (x0 : Nat) (x1 : Nat) (x2 : Int) (x4 : Int)  : nxs 1 84 37 [some (.inr (.inr x0)), some (.inr (.inr x1)), some (.inr (.inl x2)), none, some (.inl x4)] [] (M0 L V b) = some (true, 38, [some (.inr (.inr x0)), some (.inr (.inr x1)), some (.inr (.inl x2)), none, some (.inl x4)], [.inr (.inl x2)], M0 L V b) := by
  rfl

-- 85: MendedOrNew$Thought.heaviest()I
theorem B85_0 (L : Nat) (V : Mv) (b : Bool) (x0 : Nat)  : nxs 4 85 0 [some (.inr (.inr x0)), none, none] [] (M0 L V b) = some (true, 4, [some (.inr (.inr x0)), some (.inl 0), some (.inl 1)], [], M0 L V b) := by
  rfl

theorem B85_4 (L : Nat) (V : Mv) (b : Bool) (x0 : Nat) (x1 : Int) (x2 : Int) (g0 : in32 x2) : nxs 3 85 4 [some (.inr (.inr x0)), some (.inl x1), some (.inl x2)] [] (M0 L V b) = some (true, cond (decide (8 ≤ x2)) 38 10, [some (.inr (.inr x0)), some (.inl x1), some (.inl x2)], [], M0 L V b) := by
  have f0 : (r32 x2 && r32 8) = true := rr32_of g0 (by decide)
  have hG : ((r32 x2 && r32 8) && true) = true := an f0 rfl
  show some ((r32 x2 && r32 8) && true, _) = _
  rw [hG]
  try rfl

theorem B85_10 (L : Nat) (V : Mv) (b : Bool) (x0 : Nat) (x1 : Int) (x2 : Int) (c_x0 : isT x0) (g0 : 0 ≤ x2 ∧ x2 < 8) (g1 : 0 ≤ x1 ∧ x1 < 8) (g2 : in64 (V (x0 + 1) (x2).toNat)) (g3 : in64 (V (x0 + 1) (x1).toNat)) (g4 : in32 (cmpI (V (x0 + 1) (x2).toNat) (V (x0 + 1) (x1).toNat))) : nxs 10 85 10 [some (.inr (.inr x0)), some (.inl x1), some (.inl x2)] [] (M0 L V b) = some (true, cond (decide (cmpI (V (x0 + 1) (x2).toNat) (V (x0 + 1) (x1).toNat) ≤ 0)) 30 26, [some (.inr (.inr x0)), some (.inl x1), some (.inl x2)], [], M0 L V b) := by
  have f0 : (decide ((TT L x0).1 = 64 + 3) && decide (RR b x0 0 = some (x0 + 1))) = true := clr_of (isT_T c_x0) (isT_R0 c_x0)
  have f1 : gX (M0 L V b) (x0 + 1) 2 x2 = true := gx_of (show aT _ _ = _ from isT_A0 (L := L) c_x0) g0
  have f2 : (decide ((TT L x0).1 = 64 + 3) && decide (RR b x0 0 = some (x0 + 1))) = true := clr_of (isT_T c_x0) (isT_R0 c_x0)
  have f3 : gX (M0 L V b) (x0 + 1) 2 x1 = true := gx_of (show aT _ _ = _ from isT_A0 (L := L) c_x0) g1
  have f4 : (r64 (V (x0 + 1) (x2).toNat) && r64 (V (x0 + 1) (x1).toNat)) = true := rr64_of g2 g3
  have f5 : r32 (cmpI (V (x0 + 1) (x2).toNat) (V (x0 + 1) (x1).toNat)) = true := r32_of g4
  have hG : ((decide ((TT L x0).1 = 64 + 3) && decide (RR b x0 0 = some (x0 + 1))) && (gX (M0 L V b) (x0 + 1) 2 x2 && ((decide ((TT L x0).1 = 64 + 3) && decide (RR b x0 0 = some (x0 + 1))) && (gX (M0 L V b) (x0 + 1) 2 x1 && ((r64 (V (x0 + 1) (x2).toNat) && r64 (V (x0 + 1) (x1).toNat)) && (r32 (cmpI (V (x0 + 1) (x2).toNat) (V (x0 + 1) (x1).toNat)) && true)))))) = true := an f0 (an f1 (an f2 (an f3 (an f4 (an f5 rfl)))))
  show some ((decide ((TT L x0).1 = 64 + 3) && decide (RR b x0 0 = some (x0 + 1))) && (gX (M0 L V b) (x0 + 1) 2 x2 && ((decide ((TT L x0).1 = 64 + 3) && decide (RR b x0 0 = some (x0 + 1))) && (gX (M0 L V b) (x0 + 1) 2 x1 && ((r64 (V (x0 + 1) (x2).toNat) && r64 (V (x0 + 1) (x1).toNat)) && (r32 (cmpI (V (x0 + 1) (x2).toNat) (V (x0 + 1) (x1).toNat)) && true))))), _) = _
  rw [hG]
  try rfl

theorem B85_26 (L : Nat) (V : Mv) (b : Bool) (x0 : Nat) (x1 : Int) (x2 : Int)  : nxs 2 85 26 [some (.inr (.inr x0)), some (.inl x1), some (.inl x2)] [] (M0 L V b) = some (true, 31, [some (.inr (.inr x0)), some (.inl x1), some (.inl x2)], [.inl x2], M0 L V b) := by
  rfl

theorem B85_30 (L : Nat) (V : Mv) (b : Bool) (x0 : Nat) (x1 : Int) (x2 : Int)  : nxs 1 85 30 [some (.inr (.inr x0)), some (.inl x1), some (.inl x2)] [] (M0 L V b) = some (true, 31, [some (.inr (.inr x0)), some (.inl x1), some (.inl x2)], [.inl x1], M0 L V b) := by
  rfl

theorem B85_31 (L : Nat) (V : Mv) (b : Bool) (x0 : Nat) (x1 : Int) (x2 : Int) (s0 : Int)  : nxs 3 85 31 [some (.inr (.inr x0)), some (.inl x1), some (.inl x2)] [.inl s0] (M0 L V b) = some (true, 4, [some (.inr (.inr x0)), some (.inl s0), some (.inl (x2 + 1))], [], M0 L V b) := by
  rfl

theorem B85_38 (L : Nat) (V : Mv) (b : Bool) (x0 : Nat) (x1 : Int) (x2 : Int)  : nxs 1 85 38 [some (.inr (.inr x0)), some (.inl x1), some (.inl x2)] [] (M0 L V b) = some (true, 39, [some (.inr (.inr x0)), some (.inl x1), some (.inl x2)], [.inl x1], M0 L V b) := by
  rfl

-- 86: MendedOrNew$Thought.follow(LMendedOrNew$Kind;I)I
theorem B86_0 (L : Nat) (V : Mv) (b : Bool) (x0 : Nat) (x1 : Nat) (x2 : Int) (g0 : in32 x2) : nxs 3 86 0 [some (.inr (.inr x0)), some (.inr (.inr x1)), some (.inl x2), none] [] (M0 L V b) = some (true, cond (decide (x2 < 2)) 31 5, [some (.inr (.inr x0)), some (.inr (.inr x1)), some (.inl x2), none], [], M0 L V b) := by
  have f0 : (r32 x2 && r32 2) = true := rr32_of g0 (by decide)
  have hG : ((r32 x2 && r32 2) && true) = true := an f0 rfl
  show some ((r32 x2 && r32 2) && true, _) = _
  rw [hG]
  try rfl

theorem B86_5 (L : Nat) (V : Mv) (b : Bool) (x0 : Nat) (x1 : Nat) (x2 : Int)  : nxs 4 86 5 [some (.inr (.inr x0)), some (.inr (.inr x1)), some (.inl x2), none] [] (M0 L V b) = some (true, 9, [some (.inr (.inr x0)), some (.inr (.inr x1)), some (.inl x2), none], [.inl (x2 - 2), .inr (.inr x1)], M0 L V b) := by
  rfl

theorem B86_12 (L : Nat) (V : Mv) (b : Bool) (x0 : Nat) (x1 : Nat) (x2 : Int) (s0 : Int) (g0 : in32 s0) : nxs 1 86 12 [some (.inr (.inr x0)), some (.inr (.inr x1)), some (.inl x2), none] [.inl s0] (M0 L V b) = some (true, cond (!decide (s0 = 0)) 17 15, [some (.inr (.inr x0)), some (.inr (.inr x1)), some (.inl x2), none], [], M0 L V b) := by
  have f0 : r32 s0 = true := r32_of g0
  have hG : (r32 s0 && true) = true := an f0 rfl
  show some (r32 s0 && true, _) = _
  rw [hG]
  try rfl

theorem B86_15 (L : Nat) (V : Mv) (b : Bool) (x0 : Nat) (x1 : Nat) (x2 : Int)  : nxs 1 86 15 [some (.inr (.inr x0)), some (.inr (.inr x1)), some (.inl x2), none] [] (M0 L V b) = some (true, 16, [some (.inr (.inr x0)), some (.inr (.inr x1)), some (.inl x2), none], [.inl (-1)], M0 L V b) := by
  rfl

theorem B86_17 (L : Nat) (V : Mv) (b : Bool) (x0 : Nat) (x1 : Nat) (x2 : Int) (c_x1 : isK x1) (g0 : 0 ≤ x2 - 2 ∧ x2 - 2 < 4) : nxs 7 86 17 [some (.inr (.inr x0)), some (.inr (.inr x1)), some (.inl x2), none] [] (M0 L V b) = some (true, 26, [some (.inr (.inr x0)), some (.inr (.inr x1)), some (.inl x2), none], [.inl (V (x1 + 6) (x2 - 2).toNat), .inr (.inr x0)], M0 L V b) := by
  have f0 : (decide ((TT L x1).1 = 64 + 2) && decide (RR b x1 9 = some (x1 + 6))) = true := clr_of (isK_T c_x1) (isK_R9 c_x1)
  have f1 : gX (M0 L V b) (x1 + 6) 1 (x2 - 2) = true := gx_of (show aT _ _ = _ from isK_A9 (L := L) c_x1) g0
  have hG : ((decide ((TT L x1).1 = 64 + 2) && decide (RR b x1 9 = some (x1 + 6))) && (gX (M0 L V b) (x1 + 6) 1 (x2 - 2) && true)) = true := an f0 (an f1 rfl)
  show some ((decide ((TT L x1).1 = 64 + 2) && decide (RR b x1 9 = some (x1 + 6))) && (gX (M0 L V b) (x1 + 6) 1 (x2 - 2) && true), _) = _
  rw [hG]
  try rfl

theorem B86_29 (L : Nat) (V : Mv) (b : Bool) (x0 : Nat) (x1 : Nat) (x2 : Int)  : nxs 1 86 29 [some (.inr (.inr x0)), some (.inr (.inr x1)), some (.inl x2), none] [] (M0 L V b) = some (true, 30, [some (.inr (.inr x0)), some (.inr (.inr x1)), some (.inl x2), none], [.inl 1], M0 L V b) := by
  rfl

theorem B86_31 (L : Nat) (V : Mv) (b : Bool) (x0 : Nat) (x1 : Nat) (x2 : Int)  : nxs 2 86 31 [some (.inr (.inr x0)), some (.inr (.inr x1)), some (.inl x2), none] [] (M0 L V b) = some (true, 33, [some (.inr (.inr x0)), some (.inr (.inr x1)), some (.inl x2), none], [.inr (.inr x1), .inr (.inr x0)], M0 L V b) := by
  rfl

theorem B86_36 (L : Nat) (V : Mv) (b : Bool) (x0 : Nat) (x1 : Nat) (x2 : Int) (s0 : Int) (g0 : in32 s0) : nxs 3 86 36 [some (.inr (.inr x0)), some (.inr (.inr x1)), some (.inl x2), none] [.inl s0] (M0 L V b) = some (true, cond (decide (0 ≤ s0)) 45 41, [some (.inr (.inr x0)), some (.inr (.inr x1)), some (.inl x2), some (.inl s0)], [], M0 L V b) := by
  have f0 : r32 s0 = true := r32_of g0
  have hG : (r32 s0 && true) = true := an f0 rfl
  show some (r32 s0 && true, _) = _
  rw [hG]
  try rfl

theorem B86_41 (L : Nat) (V : Mv) (b : Bool) (x0 : Nat) (x1 : Nat) (x2 : Int) (x3 : Int)  : nxs 2 86 41 [some (.inr (.inr x0)), some (.inr (.inr x1)), some (.inl x2), some (.inl x3)] [] (M0 L V b) = some (true, 60, [some (.inr (.inr x0)), some (.inr (.inr x1)), some (.inl x2), some (.inl x3)], [.inl x3], M0 L V b) := by
  rfl

theorem B86_45 (L : Nat) (V : Mv) (b : Bool) (x0 : Nat) (x1 : Nat) (x2 : Int) (x3 : Int) (g0 : in32 x2) : nxs 5 86 45 [some (.inr (.inr x0)), some (.inr (.inr x1)), some (.inl x2), some (.inl x3)] [] (M0 L V b) = some (true, cond (!decide (x2 = 1)) 56 52, [some (.inr (.inr x0)), some (.inr (.inr x1)), some (.inl x2), some (.inl x3)], [.inr (.inr x1), .inr (.inr x0)], M0 L V b) := by
  have f0 : (r32 x2 && r32 1) = true := rr32_of g0 (by decide)
  have hG : ((r32 x2 && r32 1) && true) = true := an f0 rfl
  show some ((r32 x2 && r32 1) && true, _) = _
  rw [hG]
  try rfl

theorem B86_52 (L : Nat) (V : Mv) (b : Bool) (x0 : Nat) (x1 : Nat) (x2 : Int) (x3 : Int) (s0 : Nat) (s1 : Nat)  : nxs 2 86 52 [some (.inr (.inr x0)), some (.inr (.inr x1)), some (.inl x2), some (.inl x3)] [.inr (.inr s1), .inr (.inr s0)] (M0 L V b) = some (true, 57, [some (.inr (.inr x0)), some (.inr (.inr x1)), some (.inl x2), some (.inl x3)], [.inl 1, .inr (.inr s1), .inr (.inr s0)], M0 L V b) := by
  rfl

theorem B86_56 (L : Nat) (V : Mv) (b : Bool) (x0 : Nat) (x1 : Nat) (x2 : Int) (x3 : Int) (s0 : Nat) (s1 : Nat)  : nxs 1 86 56 [some (.inr (.inr x0)), some (.inr (.inr x1)), some (.inl x2), some (.inl x3)] [.inr (.inr s1), .inr (.inr s0)] (M0 L V b) = some (true, 57, [some (.inr (.inr x0)), some (.inr (.inr x1)), some (.inl x2), some (.inl x3)], [.inl 0, .inr (.inr s1), .inr (.inr s0)], M0 L V b) := by
  rfl

-- 87: MendedOrNew$Thought.copyFrom(LMendedOrNew$Thought;)V
-- 89: MendedOrNew$Log.append(I)I
theorem B89_0 (L : Nat) (V : Mv) (b : Bool) (x0 : Nat) (x1 : Int) (c_x0 : isL4 x0) (g0 : in32 (V x0 0)) : nxs 4 89 0 [some (.inr (.inr x0)), some (.inl x1)] [] (M0 L V b) = some (true, cond (decide (V x0 0 < 16)) 12 9, [some (.inr (.inr x0)), some (.inl x1)], [], M0 L V b) := by
  have f0 : decide ((TT L x0).1 = 64 + 4) = true := cls_of (isL4_T c_x0)
  have f1 : (r32 (V x0 0) && r32 16) = true := rr32_of g0 (by decide)
  have hG : (decide ((TT L x0).1 = 64 + 4) && ((r32 (V x0 0) && r32 16) && true)) = true := an f0 (an f1 rfl)
  show some (decide ((TT L x0).1 = 64 + 4) && ((r32 (V x0 0) && r32 16) && true), _) = _
  rw [hG]
  try rfl

theorem B89_9 (L : Nat) (V : Mv) (b : Bool) (x0 : Nat) (x1 : Int)  : nxs 1 89 9 [some (.inr (.inr x0)), some (.inl x1)] [] (M0 L V b) = some (true, 11, [some (.inr (.inr x0)), some (.inl x1)], [.inl (-4)], M0 L V b) := by
  rfl

theorem B89_12 (L : Nat) (V : Mv) (b : Bool) (x0 : Nat) (x1 : Int) (c_x0 : isL4 x0) (g0 : 0 ≤ V x0 0 ∧ V x0 0 < 16) : nxs 14 89 12 [some (.inr (.inr x0)), some (.inl x1)] [] (M0 L V b) = some (true, 36, [some (.inr (.inr x0)), some (.inl x1)], [.inl ((uV (uV V (x0 + 1) (V x0 0).toNat x1) x0 0 (((uV V (x0 + 1) (V x0 0).toNat x1) x0 0) + 1)) x0 0)], M0 L (uV (uV V (x0 + 1) (V x0 0).toNat x1) x0 0 (((uV V (x0 + 1) (V x0 0).toNat x1) x0 0) + 1)) b) := by
  have f0 : (decide ((TT L x0).1 = 64 + 4) && decide (RR b x0 1 = some (x0 + 1))) = true := clr_of (isL4_T c_x0) (isL4_R1 c_x0)
  have f1 : decide ((TT L x0).1 = 64 + 4) = true := cls_of (isL4_T c_x0)
  have f2 : (gX (M0 L V b) (x0 + 1) 1 (V x0 0) && !Nat.beq (x0 + 1) 0) = true := gs_of (gx_of (show aT _ _ = _ from isL4_A1 (L := L) c_x0) g0) (by omega)
  have f3 : decide ((TT L x0).1 = 64 + 4) = true := cls_of (isL4_T c_x0)
  have f4 : (decide ((TT L x0).1 = 64 + 4) && decide ((0 : Nat) = 0 ∨ (0 : Nat) = 3 ∧ ((((uV V (x0 + 1) (V x0 0).toNat x1) x0 0) + 1 : Int) = 0 ∨ (((uV V (x0 + 1) (V x0 0).toNat x1) x0 0) + 1 : Int) = 1))) = true := an (cls_of (isL4_T c_x0)) (decide_eq_true (Or.inl rfl))
  have f5 : decide ((TT L x0).1 = 64 + 4) = true := cls_of (isL4_T c_x0)
  have hG : ((decide ((TT L x0).1 = 64 + 4) && decide (RR b x0 1 = some (x0 + 1))) && (decide ((TT L x0).1 = 64 + 4) && ((gX (M0 L V b) (x0 + 1) 1 (V x0 0) && !Nat.beq (x0 + 1) 0) && (decide ((TT L x0).1 = 64 + 4) && ((decide ((TT L x0).1 = 64 + 4) && decide ((0 : Nat) = 0 ∨ (0 : Nat) = 3 ∧ ((((uV V (x0 + 1) (V x0 0).toNat x1) x0 0) + 1 : Int) = 0 ∨ (((uV V (x0 + 1) (V x0 0).toNat x1) x0 0) + 1 : Int) = 1))) && (decide ((TT L x0).1 = 64 + 4) && true)))))) = true := an f0 (an f1 (an f2 (an f3 (an f4 (an f5 rfl)))))
  show some ((decide ((TT L x0).1 = 64 + 4) && decide (RR b x0 1 = some (x0 + 1))) && (decide ((TT L x0).1 = 64 + 4) && ((gX (M0 L V b) (x0 + 1) 1 (V x0 0) && !Nat.beq (x0 + 1) 0) && (decide ((TT L x0).1 = 64 + 4) && ((decide ((TT L x0).1 = 64 + 4) && decide ((0 : Nat) = 0 ∨ (0 : Nat) = 3 ∧ ((((uV V (x0 + 1) (V x0 0).toNat x1) x0 0) + 1 : Int) = 0 ∨ (((uV V (x0 + 1) (V x0 0).toNat x1) x0 0) + 1 : Int) = 1))) && (decide ((TT L x0).1 = 64 + 4) && true))))), _) = _
  rw [hG]
  try rfl

-- 90: MendedOrNew$Log.copyFrom(LMendedOrNew$Log;)V
-- 92: MendedOrNew$Slot.store([LMendedOrNew$Thought;[ILMendedOrNew$Log;)I
theorem B92_0 (L : Nat) (V : Mv) (b : Bool) (x0 : Nat) (x3 : Nat)  : nxs 2 92 0 [some (.inr (.inr x0)), some (.inr (.inr 12)), some (.inr (.inr 62)), some (.inr (.inr x3)), none] [] (M0 L V b) = some (true, 3, [some (.inr (.inr x0)), some (.inr (.inr 12)), some (.inr (.inr 62)), some (.inr (.inr x3)), some (.inl 0)], [], M0 L V b) := by
  rfl

theorem B92_3 (L : Nat) (V : Mv) (b : Bool) (x0 : Nat) (x3 : Nat) (x4 : Int) (g0 : in32 x4) : nxs 3 92 3 [some (.inr (.inr x0)), some (.inr (.inr 12)), some (.inr (.inr 62)), some (.inr (.inr x3)), some (.inl x4)] [] (M0 L V b) = some (true, cond (decide (3 ≤ x4)) 40 9, [some (.inr (.inr x0)), some (.inr (.inr 12)), some (.inr (.inr 62)), some (.inr (.inr x3)), some (.inl x4)], [], M0 L V b) := by
  have f0 : (r32 x4 && r32 3) = true := rr32_of g0 (by decide)
  have hG : ((r32 x4 && r32 3) && true) = true := an f0 rfl
  show some ((r32 x4 && r32 3) && true, _) = _
  rw [hG]
  try rfl

theorem B92_9 (L : Nat) (V : Mv) (b : Bool) (x0 : Nat) (x3 : Nat) (x4 : Int) (c_x0 : isS x0) (g0 : 0 ≤ x4 ∧ x4 < 3) : nxs 7 92 9 [some (.inr (.inr x0)), some (.inr (.inr 12)), some (.inr (.inr 62)), some (.inr (.inr x3)), some (.inl x4)] [] (M0 L V b) = some (true, 20, [some (.inr (.inr x0)), some (.inr (.inr 12)), some (.inr (.inr 62)), some (.inr (.inr x3)), some (.inl x4)], [.inr (.inr (21 + 15 * (x4).toNat)), .inr (.inr (x0 + 1 + 4 + 3 * (x4).toNat))], M0 L V b) := by
  have f0 : (decide ((TT L x0).1 = 64 + 5) && decide (RR b x0 1 = some (x0 + 1))) = true := clr_of (isS_T c_x0) (isS_R1 c_x0)
  have f1 : gA (M0 L V b) (x0 + 1) 4 3 x4 = true := gA_S L _ b c_x0 g0
  have f2 : gA (M0 L V b) 12 9 15 x4 = true := gA_12 L _ b g0
  have hG : ((decide ((TT L x0).1 = 64 + 5) && decide (RR b x0 1 = some (x0 + 1))) && (gA (M0 L V b) (x0 + 1) 4 3 x4 && (gA (M0 L V b) 12 9 15 x4 && true))) = true := an f0 (an f1 (an f2 rfl))
  show some ((decide ((TT L x0).1 = 64 + 5) && decide (RR b x0 1 = some (x0 + 1))) && (gA (M0 L V b) (x0 + 1) 4 3 x4 && (gA (M0 L V b) 12 9 15 x4 && true)), _) = _
  rw [hG]
  try rfl

theorem B92_23 (L : Nat) (V : Mv) (b : Bool) (x0 : Nat) (x3 : Nat) (x4 : Int) (c_x0 : isS x0) (g0 : 0 ≤ x4 ∧ x4 < 3) : nxs 9 92 23 [some (.inr (.inr x0)), some (.inr (.inr 12)), some (.inr (.inr 62)), some (.inr (.inr x3)), some (.inl x4)] [] (M0 L V b) = some (true, 3, [some (.inr (.inr x0)), some (.inr (.inr 12)), some (.inr (.inr 62)), some (.inr (.inr x3)), some (.inl (x4 + 1))], [], M0 L (uV V (x0 + 2) (x4).toNat (V 62 (x4).toNat)) b) := by
  have f0 : (decide ((TT L x0).1 = 64 + 5) && decide (RR b x0 2 = some (x0 + 2))) = true := clr_of (isS_T c_x0) (isS_R2 c_x0)
  have f1 : gX (M0 L V b) 62 1 x4 = true := gx_of rfl g0
  have f2 : (gX (M0 L V b) (x0 + 2) 1 x4 && !Nat.beq (x0 + 2) 0) = true := gs_of (gx_of (show aT _ _ = _ from isS_A2 (L := L) c_x0) g0) (by omega)
  have hG : ((decide ((TT L x0).1 = 64 + 5) && decide (RR b x0 2 = some (x0 + 2))) && (gX (M0 L V b) 62 1 x4 && ((gX (M0 L V b) (x0 + 2) 1 x4 && !Nat.beq (x0 + 2) 0) && true))) = true := an f0 (an f1 (an f2 rfl))
  show some ((decide ((TT L x0).1 = 64 + 5) && decide (RR b x0 2 = some (x0 + 2))) && (gX (M0 L V b) 62 1 x4 && ((gX (M0 L V b) (x0 + 2) 1 x4 && !Nat.beq (x0 + 2) 0) && true)), _) = _
  rw [hG]
  try rfl

theorem B92_40 (L : Nat) (V : Mv) (b : Bool) (x0 : Nat) (x3 : Nat) (x4 : Int) (c_x0 : isS x0) : nxs 3 92 40 [some (.inr (.inr x0)), some (.inr (.inr 12)), some (.inr (.inr 62)), some (.inr (.inr x3)), some (.inl x4)] [] (M0 L V b) = some (true, 45, [some (.inr (.inr x0)), some (.inr (.inr 12)), some (.inr (.inr 62)), some (.inr (.inr x3)), some (.inl x4)], [.inr (.inr x3), .inr (.inr (x0 + 3))], M0 L V b) := by
  have f0 : (decide ((TT L x0).1 = 64 + 5) && decide (RR b x0 3 = some (x0 + 3))) = true := clr_of (isS_T c_x0) (isS_R3 c_x0)
  have hG : ((decide ((TT L x0).1 = 64 + 5) && decide (RR b x0 3 = some (x0 + 3))) && true) = true := an f0 rfl
  show some ((decide ((TT L x0).1 = 64 + 5) && decide (RR b x0 3 = some (x0 + 3))) && true, _) = _
  rw [hG]
  try rfl

theorem B92_48 (L : Nat) (V : Mv) (b : Bool) (x0 : Nat) (x3 : Nat) (x4 : Int) (c_x0 : isS x0) (g0 : in32 (V x0 0)) : nxs 3 92 48 [some (.inr (.inr x0)), some (.inr (.inr 12)), some (.inr (.inr 62)), some (.inr (.inr x3)), some (.inl x4)] [] (M0 L V b) = some (true, cond (decide (V x0 0 = 0)) 59 55, [some (.inr (.inr x0)), some (.inr (.inr 12)), some (.inr (.inr 62)), some (.inr (.inr x3)), some (.inl x4)], [], M0 L V b) := by
  have f0 : decide ((TT L x0).1 = 64 + 5) = true := cls_of (isS_T c_x0)
  have f1 : r32 (V x0 0) = true := r32_of g0
  have hG : (decide ((TT L x0).1 = 64 + 5) && (r32 (V x0 0) && true)) = true := an f0 (an f1 rfl)
  show some (decide ((TT L x0).1 = 64 + 5) && (r32 (V x0 0) && true), _) = _
  rw [hG]
  try rfl

theorem B92_55 (L : Nat) (V : Mv) (b : Bool) (x0 : Nat) (x3 : Nat) (x4 : Int)  : nxs 2 92 55 [some (.inr (.inr x0)), some (.inr (.inr 12)), some (.inr (.inr 62)), some (.inr (.inr x3)), some (.inl x4)] [] (M0 L V b) = some (true, 60, [some (.inr (.inr x0)), some (.inr (.inr 12)), some (.inr (.inr 62)), some (.inr (.inr x3)), some (.inl x4)], [.inl 0], M0 L V b) := by
  rfl

theorem B92_59 (L : Nat) (V : Mv) (b : Bool) (x0 : Nat) (x3 : Nat) (x4 : Int)  : nxs 1 92 59 [some (.inr (.inr x0)), some (.inr (.inr 12)), some (.inr (.inr 62)), some (.inr (.inr x3)), some (.inl x4)] [] (M0 L V b) = some (true, 60, [some (.inr (.inr x0)), some (.inr (.inr 12)), some (.inr (.inr 62)), some (.inr (.inr x3)), some (.inl x4)], [.inl 1], M0 L V b) := by
  rfl

theorem B92_60 (L : Nat) (V : Mv) (b : Bool) (x0 : Nat) (x3 : Nat) (x4 : Int) (s0 : Int) (c_x0 : isS x0) : nxs 5 92 60 [some (.inr (.inr x0)), some (.inr (.inr 12)), some (.inr (.inr 62)), some (.inr (.inr x3)), some (.inl x4)] [.inl s0] (M0 L V b) = some (true, 69, [some (.inr (.inr x0)), some (.inr (.inr 12)), some (.inr (.inr 62)), some (.inr (.inr x3)), some (.inl s0)], [.inl s0], M0 L (uV V x0 0 1) b) := by
  have f0 : (decide ((TT L x0).1 = 64 + 5) && decide ((3 : Nat) = 0 ∨ (3 : Nat) = 3 ∧ ((1 : Int) = 0 ∨ (1 : Int) = 1))) = true := an (cls_of (isS_T c_x0)) (by decide)
  have hG : ((decide ((TT L x0).1 = 64 + 5) && decide ((3 : Nat) = 0 ∨ (3 : Nat) = 3 ∧ ((1 : Int) = 0 ∨ (1 : Int) = 1))) && true) = true := an f0 rfl
  show some ((decide ((TT L x0).1 = 64 + 5) && decide ((3 : Nat) = 0 ∨ (3 : Nat) = 3 ∧ ((1 : Int) = 0 ∨ (1 : Int) = 1))) && true, _) = _
  rw [hG]
  try rfl

-- 93: MendedOrNew$Slot.restore([LMendedOrNew$Thought;[ILMendedOrNew$Log;)I
theorem B93_0 (L : Nat) (V : Mv) (b : Bool) (x0 : Nat) (x3 : Nat)  : nxs 4 93 0 [some (.inr (.inr x0)), some (.inr (.inr 12)), some (.inr (.inr 62)), some (.inr (.inr x3)), none, none] [] (M0 L V b) = some (true, 6, [some (.inr (.inr x0)), some (.inr (.inr 12)), some (.inr (.inr 62)), some (.inr (.inr x3)), some (.inl 0), some (.inl 0)], [], M0 L V b) := by
  rfl

theorem B93_6 (L : Nat) (V : Mv) (b : Bool) (x0 : Nat) (x3 : Nat) (x4 : Int) (x5 : Int) (g0 : in32 x5) : nxs 3 93 6 [some (.inr (.inr x0)), some (.inr (.inr 12)), some (.inr (.inr 62)), some (.inr (.inr x3)), some (.inl x4), some (.inl x5)] [] (M0 L V b) = some (true, cond (decide (3 ≤ x5)) 49 12, [some (.inr (.inr x0)), some (.inr (.inr 12)), some (.inr (.inr 62)), some (.inr (.inr x3)), some (.inl x4), some (.inl x5)], [], M0 L V b) := by
  have f0 : (r32 x5 && r32 3) = true := rr32_of g0 (by decide)
  have hG : ((r32 x5 && r32 3) && true) = true := an f0 rfl
  show some ((r32 x5 && r32 3) && true, _) = _
  rw [hG]
  try rfl

theorem B93_12 (L : Nat) (V : Mv) (b : Bool) (x0 : Nat) (x3 : Nat) (x4 : Int) (x5 : Int) (c_x0 : isS x0) (g0 : 0 ≤ x5 ∧ x5 < 3) (g1 : in32 (V (x0 + 2) (x5).toNat)) (g2 : in32 (V 62 (x5).toNat)) : nxs 8 93 12 [some (.inr (.inr x0)), some (.inr (.inr 12)), some (.inr (.inr 62)), some (.inr (.inr x3)), some (.inl x4), some (.inl x5)] [] (M0 L V b) = some (true, cond (!decide (V (x0 + 2) (x5).toNat = V 62 (x5).toNat)) 43 26, [some (.inr (.inr x0)), some (.inr (.inr 12)), some (.inr (.inr 62)), some (.inr (.inr x3)), some (.inl x4), some (.inl x5)], [], M0 L V b) := by
  have f0 : (decide ((TT L x0).1 = 64 + 5) && decide (RR b x0 2 = some (x0 + 2))) = true := clr_of (isS_T c_x0) (isS_R2 c_x0)
  have f1 : gX (M0 L V b) (x0 + 2) 1 x5 = true := gx_of (show aT _ _ = _ from isS_A2 (L := L) c_x0) g0
  have f2 : gX (M0 L V b) 62 1 x5 = true := gx_of rfl g0
  have f3 : (r32 (V (x0 + 2) (x5).toNat) && r32 (V 62 (x5).toNat)) = true := rr32_of g1 g2
  have hG : ((decide ((TT L x0).1 = 64 + 5) && decide (RR b x0 2 = some (x0 + 2))) && (gX (M0 L V b) (x0 + 2) 1 x5 && (gX (M0 L V b) 62 1 x5 && ((r32 (V (x0 + 2) (x5).toNat) && r32 (V 62 (x5).toNat)) && true)))) = true := an f0 (an f1 (an f2 (an f3 rfl)))
  show some ((decide ((TT L x0).1 = 64 + 5) && decide (RR b x0 2 = some (x0 + 2))) && (gX (M0 L V b) (x0 + 2) 1 x5 && (gX (M0 L V b) 62 1 x5 && ((r32 (V (x0 + 2) (x5).toNat) && r32 (V 62 (x5).toNat)) && true))), _) = _
  rw [hG]
  try rfl

theorem B93_26 (L : Nat) (V : Mv) (b : Bool) (x0 : Nat) (x3 : Nat) (x4 : Int) (x5 : Int) (g0 : 0 ≤ x5 ∧ x5 < 3) (c_x0 : isS x0) : nxs 7 93 26 [some (.inr (.inr x0)), some (.inr (.inr 12)), some (.inr (.inr 62)), some (.inr (.inr x3)), some (.inl x4), some (.inl x5)] [] (M0 L V b) = some (true, 37, [some (.inr (.inr x0)), some (.inr (.inr 12)), some (.inr (.inr 62)), some (.inr (.inr x3)), some (.inl x4), some (.inl x5)], [.inr (.inr (x0 + 1 + 4 + 3 * (x5).toNat)), .inr (.inr (21 + 15 * (x5).toNat))], M0 L V b) := by
  have f0 : gA (M0 L V b) 12 9 15 x5 = true := gA_12 L _ b g0
  have f1 : (decide ((TT L x0).1 = 64 + 5) && decide (RR b x0 1 = some (x0 + 1))) = true := clr_of (isS_T c_x0) (isS_R1 c_x0)
  have f2 : gA (M0 L V b) (x0 + 1) 4 3 x5 = true := gA_S L _ b c_x0 g0
  have hG : (gA (M0 L V b) 12 9 15 x5 && ((decide ((TT L x0).1 = 64 + 5) && decide (RR b x0 1 = some (x0 + 1))) && (gA (M0 L V b) (x0 + 1) 4 3 x5 && true))) = true := an f0 (an f1 (an f2 rfl))
  show some (gA (M0 L V b) 12 9 15 x5 && ((decide ((TT L x0).1 = 64 + 5) && decide (RR b x0 1 = some (x0 + 1))) && (gA (M0 L V b) (x0 + 1) 4 3 x5 && true)), _) = _
  rw [hG]
  try rfl

theorem B93_40 (L : Nat) (V : Mv) (b : Bool) (x0 : Nat) (x3 : Nat) (x4 : Int) (x5 : Int)  : nxs 1 93 40 [some (.inr (.inr x0)), some (.inr (.inr 12)), some (.inr (.inr 62)), some (.inr (.inr x3)), some (.inl x4), some (.inl x5)] [] (M0 L V b) = some (true, 43, [some (.inr (.inr x0)), some (.inr (.inr 12)), some (.inr (.inr 62)), some (.inr (.inr x3)), some (.inl (x4 + 1)), some (.inl x5)], [], M0 L V b) := by
  rfl

theorem B93_43 (L : Nat) (V : Mv) (b : Bool) (x0 : Nat) (x3 : Nat) (x4 : Int) (x5 : Int)  : nxs 2 93 43 [some (.inr (.inr x0)), some (.inr (.inr 12)), some (.inr (.inr 62)), some (.inr (.inr x3)), some (.inl x4), some (.inl x5)] [] (M0 L V b) = some (true, 6, [some (.inr (.inr x0)), some (.inr (.inr 12)), some (.inr (.inr 62)), some (.inr (.inr x3)), some (.inl x4), some (.inl (x5 + 1))], [], M0 L V b) := by
  rfl

theorem B93_49 (L : Nat) (V : Mv) (b : Bool) (x0 : Nat) (x3 : Nat) (x4 : Int) (x5 : Int) (c_x0 : isS x0) : nxs 3 93 49 [some (.inr (.inr x0)), some (.inr (.inr 12)), some (.inr (.inr 62)), some (.inr (.inr x3)), some (.inl x4), some (.inl x5)] [] (M0 L V b) = some (true, 54, [some (.inr (.inr x0)), some (.inr (.inr 12)), some (.inr (.inr 62)), some (.inr (.inr x3)), some (.inl x4), some (.inl x5)], [.inr (.inr (x0 + 3)), .inr (.inr x3)], M0 L V b) := by
  have f0 : (decide ((TT L x0).1 = 64 + 5) && decide (RR b x0 3 = some (x0 + 3))) = true := clr_of (isS_T c_x0) (isS_R3 c_x0)
  have hG : ((decide ((TT L x0).1 = 64 + 5) && decide (RR b x0 3 = some (x0 + 3))) && true) = true := an f0 rfl
  show some ((decide ((TT L x0).1 = 64 + 5) && decide (RR b x0 3 = some (x0 + 3))) && true, _) = _
  rw [hG]
  try rfl

theorem B93_57 (L : Nat) (V : Mv) (b : Bool) (x0 : Nat) (x3 : Nat) (x4 : Int) (x5 : Int)  : nxs 1 93 57 [some (.inr (.inr x0)), some (.inr (.inr 12)), some (.inr (.inr 62)), some (.inr (.inr x3)), some (.inl x4), some (.inl x5)] [] (M0 L V b) = some (true, 59, [some (.inr (.inr x0)), some (.inr (.inr 12)), some (.inr (.inr 62)), some (.inr (.inr x3)), some (.inl x4), some (.inl x5)], [.inl x4], M0 L V b) := by
  rfl

-- 95: MendedOrNew$Chain.findCost(LMendedOrNew$Kind;[ILMendedOrNew$Fraction;)Z
theorem B95_0 (L : Nat) (V : Mv) (b : Bool) (x1 : Nat) (x2 : Nat) (x3 : Nat) (n_x2 : Nat) (t_x2 : TT L x2 = (1, n_x2)) : nxs 3 95 0 [some (.inr (.inr 100)), some (.inr (.inr x1)), some (.inr (.inr x2)), some (.inr (.inr x3))] [] (M0 L V b) = some (true, 3, [some (.inr (.inr 100)), some (.inr (.inr x1)), some (.inr (.inr x2)), some (.inr (.inr x3))], [.inr (.inr x2), .inr (.inr x1), .inr (.inr 100)], M0 L V b) := by
  rfl

theorem B95_6 (L : Nat) (V : Mv) (b : Bool) (x1 : Nat) (x2 : Nat) (x3 : Nat) (s0 : Int) (n_x2 : Nat) (t_x2 : TT L x2 = (1, n_x2)) (g0 : in32 s0) : nxs 1 95 6 [some (.inr (.inr 100)), some (.inr (.inr x1)), some (.inr (.inr x2)), some (.inr (.inr x3))] [.inl s0] (M0 L V b) = some (true, cond (decide (s0 = 0)) 22 9, [some (.inr (.inr 100)), some (.inr (.inr x1)), some (.inr (.inr x2)), some (.inr (.inr x3))], [], M0 L V b) := by
  have f0 : r32 s0 = true := r32_of g0
  have hG : (r32 s0 && true) = true := an f0 rfl
  show some (r32 s0 && true, _) = _
  rw [hG]
  try rfl

theorem B95_9 (L : Nat) (V : Mv) (b : Bool) (x1 : Nat) (x2 : Nat) (x3 : Nat) (n_x2 : Nat) (t_x2 : TT L x2 = (1, n_x2)) : nxs 3 95 9 [some (.inr (.inr 100)), some (.inr (.inr x1)), some (.inr (.inr x2)), some (.inr (.inr x3))] [] (M0 L V b) = some (true, 12, [some (.inr (.inr 100)), some (.inr (.inr x1)), some (.inr (.inr x2)), some (.inr (.inr x3))], [.inr (.inr x3), .inr (.inr x1), .inr (.inr 100)], M0 L V b) := by
  rfl

theorem B95_15 (L : Nat) (V : Mv) (b : Bool) (x1 : Nat) (x2 : Nat) (x3 : Nat) (s0 : Int) (n_x2 : Nat) (t_x2 : TT L x2 = (1, n_x2)) (g0 : in32 s0) : nxs 1 95 15 [some (.inr (.inr 100)), some (.inr (.inr x1)), some (.inr (.inr x2)), some (.inr (.inr x3))] [.inl s0] (M0 L V b) = some (true, cond (decide (s0 = 0)) 22 18, [some (.inr (.inr 100)), some (.inr (.inr x1)), some (.inr (.inr x2)), some (.inr (.inr x3))], [], M0 L V b) := by
  have f0 : r32 s0 = true := r32_of g0
  have hG : (r32 s0 && true) = true := an f0 rfl
  show some (r32 s0 && true, _) = _
  rw [hG]
  try rfl

theorem B95_18 (L : Nat) (V : Mv) (b : Bool) (x1 : Nat) (x2 : Nat) (x3 : Nat) (n_x2 : Nat) (t_x2 : TT L x2 = (1, n_x2)) : nxs 2 95 18 [some (.inr (.inr 100)), some (.inr (.inr x1)), some (.inr (.inr x2)), some (.inr (.inr x3))] [] (M0 L V b) = some (true, 23, [some (.inr (.inr 100)), some (.inr (.inr x1)), some (.inr (.inr x2)), some (.inr (.inr x3))], [.inl 1], M0 L V b) := by
  rfl

theorem B95_22 (L : Nat) (V : Mv) (b : Bool) (x1 : Nat) (x2 : Nat) (x3 : Nat) (n_x2 : Nat) (t_x2 : TT L x2 = (1, n_x2)) : nxs 1 95 22 [some (.inr (.inr 100)), some (.inr (.inr x1)), some (.inr (.inr x2)), some (.inr (.inr x3))] [] (M0 L V b) = some (true, 23, [some (.inr (.inr 100)), some (.inr (.inr x1)), some (.inr (.inr x2)), some (.inr (.inr x3))], [.inl 0], M0 L V b) := by
  rfl

-- 96: MendedOrNew$Chain.obey(LMendedOrNew$Kind;[I)Z
theorem B96_0 (L : Nat) (V : Mv) (b : Bool) (x1 : Nat) (x2 : Nat) (n_x2 : Nat) (t_x2 : TT L x2 = (1, n_x2)) : nxs 2 96 0 [some (.inr (.inr 100)), some (.inr (.inr x1)), some (.inr (.inr x2)), none, none] [] (M0 L V b) = some (true, 2, [some (.inr (.inr 100)), some (.inr (.inr x1)), some (.inr (.inr x2)), some (.inl 0), none], [], M0 L V b) := by
  rfl

theorem B96_2 (L : Nat) (V : Mv) (b : Bool) (x1 : Nat) (x2 : Nat) (x3 : Int) (n_x2 : Nat) (t_x2 : TT L x2 = (1, n_x2)) (c_x1 : isK x1) (g0 : in32 x3) (g1 : in32 (V x1 0)) : nxs 4 96 2 [some (.inr (.inr 100)), some (.inr (.inr x1)), some (.inr (.inr x2)), some (.inl x3), none] [] (M0 L V b) = some (true, cond (decide (V x1 0 ≤ x3)) 95 10, [some (.inr (.inr 100)), some (.inr (.inr x1)), some (.inr (.inr x2)), some (.inl x3), none], [], M0 L V b) := by
  have f0 : decide ((TT L x1).1 = 64 + 2) = true := cls_of (isK_T c_x1)
  have f1 : (r32 x3 && r32 (V x1 0)) = true := rr32_of g0 g1
  have hG : (decide ((TT L x1).1 = 64 + 2) && ((r32 x3 && r32 (V x1 0)) && true)) = true := an f0 (an f1 rfl)
  show some (decide ((TT L x1).1 = 64 + 2) && ((r32 x3 && r32 (V x1 0)) && true), _) = _
  rw [hG]
  try rfl

theorem B96_10 (L : Nat) (V : Mv) (b : Bool) (x1 : Nat) (x2 : Nat) (x3 : Int) (n_x2 : Nat) (t_x2 : TT L x2 = (1, n_x2)) (g0 : 0 ≤ x3 ∧ x3 < (n_x2 : Int)) (g1 : in32 ((V x2 (x3).toNat) - 1)) : nxs 8 96 10 [some (.inr (.inr 100)), some (.inr (.inr x1)), some (.inr (.inr x2)), some (.inl x3), none] [] (M0 L V b) = some (true, cond (decide ((V x2 (x3).toNat) - 1 < 0)) 33 22, [some (.inr (.inr 100)), some (.inr (.inr x1)), some (.inr (.inr x2)), some (.inl x3), some (.inl ((V x2 (x3).toNat) - 1))], [], M0 L V b) := by
  have f0 : gX (M0 L V b) x2 1 x3 = true := gx_of (show aT _ _ = _ from t_x2) g0
  have f1 : r32 ((V x2 (x3).toNat) - 1) = true := r32_of g1
  have hG : (gX (M0 L V b) x2 1 x3 && (r32 ((V x2 (x3).toNat) - 1) && true)) = true := an f0 (an f1 rfl)
  show some (gX (M0 L V b) x2 1 x3 && (r32 ((V x2 (x3).toNat) - 1) && true), _) = _
  rw [hG]
  try rfl

theorem B96_22 (L : Nat) (V : Mv) (b : Bool) (x1 : Nat) (x2 : Nat) (x3 : Int) (x4 : Int) (n_x2 : Nat) (t_x2 : TT L x2 = (1, n_x2)) : nxs 2 96 22 [some (.inr (.inr 100)), some (.inr (.inr x1)), some (.inr (.inr x2)), some (.inl x3), some (.inl x4)] [] (M0 L V b) = some (true, 25, [some (.inr (.inr 100)), some (.inr (.inr x1)), some (.inr (.inr x2)), some (.inl x3), some (.inl x4)], [.inl x4, .inr (.inr x1)], M0 L V b) := by
  rfl

theorem B96_28 (L : Nat) (V : Mv) (b : Bool) (x1 : Nat) (x2 : Nat) (x3 : Int) (x4 : Int) (s0 : Int) (n_x2 : Nat) (t_x2 : TT L x2 = (1, n_x2)) (g0 : in32 s0) : nxs 1 96 28 [some (.inr (.inr 100)), some (.inr (.inr x1)), some (.inr (.inr x2)), some (.inl x3), some (.inl x4)] [.inl s0] (M0 L V b) = some (true, cond (!decide (s0 = 0)) 33 31, [some (.inr (.inr 100)), some (.inr (.inr x1)), some (.inr (.inr x2)), some (.inl x3), some (.inl x4)], [], M0 L V b) := by
  have f0 : r32 s0 = true := r32_of g0
  have hG : (r32 s0 && true) = true := an f0 rfl
  show some (r32 s0 && true, _) = _
  rw [hG]
  try rfl

theorem B96_31 (L : Nat) (V : Mv) (b : Bool) (x1 : Nat) (x2 : Nat) (x3 : Int) (x4 : Int) (n_x2 : Nat) (t_x2 : TT L x2 = (1, n_x2)) : nxs 1 96 31 [some (.inr (.inr 100)), some (.inr (.inr x1)), some (.inr (.inr x2)), some (.inl x3), some (.inl x4)] [] (M0 L V b) = some (true, 32, [some (.inr (.inr 100)), some (.inr (.inr x1)), some (.inr (.inr x2)), some (.inl x3), some (.inl x4)], [.inl 0], M0 L V b) := by
  rfl

theorem B96_33 (L : Nat) (V : Mv) (b : Bool) (x1 : Nat) (x2 : Nat) (x3 : Int) (x4 : Int) (n_x2 : Nat) (t_x2 : TT L x2 = (1, n_x2)) (g0 : in32 x4) : nxs 5 96 33 [some (.inr (.inr 100)), some (.inr (.inr x1)), some (.inr (.inr x2)), some (.inl x3), some (.inl x4)] [] (M0 L V b) = some (true, cond (decide (0 ≤ x4)) 47 43, [some (.inr (.inr 100)), some (.inr (.inr x1)), some (.inr (.inr x2)), some (.inl x3), some (.inl x4)], [.inl x3, .inr (.inr 101)], M0 L V b) := by
  have f0 : r32 x4 = true := r32_of g0
  have hG : (r32 x4 && true) = true := an f0 rfl
  show some (r32 x4 && true, _) = _
  rw [hG]
  try rfl

theorem B96_43 (L : Nat) (V : Mv) (b : Bool) (x1 : Nat) (x2 : Nat) (x3 : Int) (x4 : Int) (s0 : Nat) (s1 : Int) (n_x2 : Nat) (n_s0 : Nat) (t_x2 : TT L x2 = (1, n_x2)) (t_s0 : TT L s0 = (1, n_s0)) : nxs 2 96 43 [some (.inr (.inr 100)), some (.inr (.inr x1)), some (.inr (.inr x2)), some (.inl x3), some (.inl x4)] [.inl s1, .inr (.inr s0)] (M0 L V b) = some (true, 54, [some (.inr (.inr 100)), some (.inr (.inr x1)), some (.inr (.inr x2)), some (.inl x3), some (.inl x4)], [.inl x3, .inl s1, .inr (.inr s0)], M0 L V b) := by
  rfl

theorem B96_47 (L : Nat) (V : Mv) (b : Bool) (x1 : Nat) (x2 : Nat) (x3 : Int) (x4 : Int) (s0 : Nat) (s1 : Int) (n_x2 : Nat) (n_s0 : Nat) (t_x2 : TT L x2 = (1, n_x2)) (t_s0 : TT L s0 = (1, n_s0)) (c_x1 : isK x1) (g0 : 0 ≤ x4 ∧ x4 < 4) : nxs 4 96 47 [some (.inr (.inr 100)), some (.inr (.inr x1)), some (.inr (.inr x2)), some (.inl x3), some (.inl x4)] [.inl s1, .inr (.inr s0)] (M0 L V b) = some (true, 54, [some (.inr (.inr 100)), some (.inr (.inr x1)), some (.inr (.inr x2)), some (.inl x3), some (.inl x4)], [.inl (V (x1 + 6) (x4).toNat), .inl s1, .inr (.inr s0)], M0 L V b) := by
  have f0 : (decide ((TT L x1).1 = 64 + 2) && decide (RR b x1 9 = some (x1 + 6))) = true := clr_of (isK_T c_x1) (isK_R9 c_x1)
  have f1 : gX (M0 L V b) (x1 + 6) 1 x4 = true := gx_of (show aT _ _ = _ from isK_A9 (L := L) c_x1) g0
  have hG : ((decide ((TT L x1).1 = 64 + 2) && decide (RR b x1 9 = some (x1 + 6))) && (gX (M0 L V b) (x1 + 6) 1 x4 && true)) = true := an f0 (an f1 rfl)
  show some ((decide ((TT L x1).1 = 64 + 2) && decide (RR b x1 9 = some (x1 + 6))) && (gX (M0 L V b) (x1 + 6) 1 x4 && true), _) = _
  rw [hG]
  try rfl

theorem B96_54 (L : Nat) (V : Mv) (b : Bool) (x1 : Nat) (x2 : Nat) (x3 : Int) (x4 : Int) (s0 : Nat) (s1 : Int) (s2 : Int) (n_x2 : Nat) (n_s0 : Nat) (t_x2 : TT L x2 = (1, n_x2)) (t_s0 : TT L s0 = (1, n_s0)) (g0 : 0 ≤ s1 ∧ s1 < (n_s0 : Int)) (z_s0 : s0 ≠ 0) (c_x1 : isK x1) (g1 : 0 ≤ x3 ∧ x3 < 8) (g2 : 0 ≤ (uV V s0 (s1).toNat s2) 101 (x3).toNat ∧ (uV V s0 (s1).toNat s2) 101 (x3).toNat < 8) (g3 : in32 x4) : nxs 13 96 54 [some (.inr (.inr 100)), some (.inr (.inr x1)), some (.inr (.inr x2)), some (.inl x3), some (.inl x4)] [.inl s2, .inl s1, .inr (.inr s0)] (M0 L V b) = some (true, cond (decide (0 ≤ x4)) 80 76, [some (.inr (.inr 100)), some (.inr (.inr x1)), some (.inr (.inr x2)), some (.inl x3), some (.inl x4)], [.inl ((uV V s0 (s1).toNat s2) (x1 + 3) ((uV V s0 (s1).toNat s2) 101 (x3).toNat).toNat), .inl x3, .inr (.inr 102)], M0 L (uV V s0 (s1).toNat s2) b) := by
  have f0 : (gX (M0 L V b) s0 1 s1 && !Nat.beq s0 0) = true := gs_of (gx_of (show aT _ _ = _ from t_s0) g0) z_s0
  have f1 : (decide ((TT L x1).1 = 64 + 2) && decide (RR b x1 6 = some (x1 + 3))) = true := clr_of (isK_T c_x1) (isK_R6 c_x1)
  have f2 : gX (M0 L (uV V s0 (s1).toNat s2) b) 101 1 x3 = true := gx_of rfl g1
  have f3 : gX (M0 L (uV V s0 (s1).toNat s2) b) (x1 + 3) 1 ((uV V s0 (s1).toNat s2) 101 (x3).toNat) = true := gx_of (show aT _ _ = _ from isK_A6 (L := L) c_x1) g2
  have f4 : r32 x4 = true := r32_of g3
  have hG : ((gX (M0 L V b) s0 1 s1 && !Nat.beq s0 0) && ((decide ((TT L x1).1 = 64 + 2) && decide (RR b x1 6 = some (x1 + 3))) && (gX (M0 L (uV V s0 (s1).toNat s2) b) 101 1 x3 && (gX (M0 L (uV V s0 (s1).toNat s2) b) (x1 + 3) 1 ((uV V s0 (s1).toNat s2) 101 (x3).toNat) && (r32 x4 && true))))) = true := an f0 (an f1 (an f2 (an f3 (an f4 rfl))))
  show some ((gX (M0 L V b) s0 1 s1 && !Nat.beq s0 0) && ((decide ((TT L x1).1 = 64 + 2) && decide (RR b x1 6 = some (x1 + 3))) && (gX (M0 L (uV V s0 (s1).toNat s2) b) 101 1 x3 && (gX (M0 L (uV V s0 (s1).toNat s2) b) (x1 + 3) 1 ((uV V s0 (s1).toNat s2) 101 (x3).toNat) && (r32 x4 && true)))), _) = _
  rw [hG]
  try rfl

theorem B96_76 (L : Nat) (V : Mv) (b : Bool) (x1 : Nat) (x2 : Nat) (x3 : Int) (x4 : Int) (s0 : Nat) (s1 : Int) (s2 : Int) (n_x2 : Nat) (n_s0 : Nat) (t_x2 : TT L x2 = (1, n_x2)) (t_s0 : TT L s0 = (1, n_s0)) : nxs 2 96 76 [some (.inr (.inr 100)), some (.inr (.inr x1)), some (.inr (.inr x2)), some (.inl x3), some (.inl x4)] [.inl s2, .inl s1, .inr (.inr s0)] (M0 L V b) = some (true, 87, [some (.inr (.inr 100)), some (.inr (.inr x1)), some (.inr (.inr x2)), some (.inl x3), some (.inl x4)], [.inl 0, .inl s2, .inl s1, .inr (.inr s0)], M0 L V b) := by
  rfl

theorem B96_80 (L : Nat) (V : Mv) (b : Bool) (x1 : Nat) (x2 : Nat) (x3 : Int) (x4 : Int) (s0 : Nat) (s1 : Int) (s2 : Int) (n_x2 : Nat) (n_s0 : Nat) (t_x2 : TT L x2 = (1, n_x2)) (t_s0 : TT L s0 = (1, n_s0)) (c_x1 : isK x1) (g0 : 0 ≤ x4 ∧ x4 < 4) : nxs 4 96 80 [some (.inr (.inr 100)), some (.inr (.inr x1)), some (.inr (.inr x2)), some (.inl x3), some (.inl x4)] [.inl s2, .inl s1, .inr (.inr s0)] (M0 L V b) = some (true, 87, [some (.inr (.inr 100)), some (.inr (.inr x1)), some (.inr (.inr x2)), some (.inl x3), some (.inl x4)], [.inl (V (x1 + 5) (x4).toNat), .inl s2, .inl s1, .inr (.inr s0)], M0 L V b) := by
  have f0 : (decide ((TT L x1).1 = 64 + 2) && decide (RR b x1 8 = some (x1 + 5))) = true := clr_of (isK_T c_x1) (isK_R8 c_x1)
  have f1 : gX (M0 L V b) (x1 + 5) 1 x4 = true := gx_of (show aT _ _ = _ from isK_A8 (L := L) c_x1) g0
  have hG : ((decide ((TT L x1).1 = 64 + 2) && decide (RR b x1 8 = some (x1 + 5))) && (gX (M0 L V b) (x1 + 5) 1 x4 && true)) = true := an f0 (an f1 rfl)
  show some ((decide ((TT L x1).1 = 64 + 2) && decide (RR b x1 8 = some (x1 + 5))) && (gX (M0 L V b) (x1 + 5) 1 x4 && true), _) = _
  rw [hG]
  try rfl

theorem B96_87 (L : Nat) (V : Mv) (b : Bool) (x1 : Nat) (x2 : Nat) (x3 : Int) (x4 : Int) (s0 : Nat) (s1 : Int) (s2 : Int) (s3 : Int) (n_x2 : Nat) (n_s0 : Nat) (t_x2 : TT L x2 = (1, n_x2)) (t_s0 : TT L s0 = (1, n_s0)) (g0 : 0 ≤ s1 ∧ s1 < (n_s0 : Int)) (z_s0 : s0 ≠ 0) : nxs 4 96 87 [some (.inr (.inr 100)), some (.inr (.inr x1)), some (.inr (.inr x2)), some (.inl x3), some (.inl x4)] [.inl s3, .inl s2, .inl s1, .inr (.inr s0)] (M0 L V b) = some (true, 2, [some (.inr (.inr 100)), some (.inr (.inr x1)), some (.inr (.inr x2)), some (.inl (x3 + 1)), some (.inl x4)], [], M0 L (uV V s0 (s1).toNat (s2 + s3)) b) := by
  have f0 : (gX (M0 L V b) s0 1 s1 && !Nat.beq s0 0) = true := gs_of (gx_of (show aT _ _ = _ from t_s0) g0) z_s0
  have hG : ((gX (M0 L V b) s0 1 s1 && !Nat.beq s0 0) && true) = true := an f0 rfl
  show some ((gX (M0 L V b) s0 1 s1 && !Nat.beq s0 0) && true, _) = _
  rw [hG]
  try rfl

theorem B96_95 (L : Nat) (V : Mv) (b : Bool) (x1 : Nat) (x2 : Nat) (x3 : Int) (n_x2 : Nat) (t_x2 : TT L x2 = (1, n_x2)) : nxs 2 96 95 [some (.inr (.inr 100)), some (.inr (.inr x1)), some (.inr (.inr x2)), some (.inl x3), none] [] (M0 L V b) = some (true, 97, [some (.inr (.inr 100)), some (.inr (.inr x1)), some (.inr (.inr x2)), some (.inl x3), none], [.inr (.inr x1), .inr (.inr 100)], M0 L V b) := by
  rfl

theorem B96_100 (L : Nat) (V : Mv) (b : Bool) (x1 : Nat) (x2 : Nat) (x3 : Int) (n_x2 : Nat) (t_x2 : TT L x2 = (1, n_x2)) : nxs 1 96 100 [some (.inr (.inr 100)), some (.inr (.inr x1)), some (.inr (.inr x2)), some (.inl x3), none] [] (M0 L V b) = some (true, 101, [some (.inr (.inr 100)), some (.inr (.inr x1)), some (.inr (.inr x2)), some (.inl x3), none], [.inl 1], M0 L V b) := by
  rfl

-- 97: MendedOrNew$Chain.spread(LMendedOrNew$Kind;)V
theorem B97_0 (L : Nat) (V : Mv) (b : Bool) (x1 : Nat)  : nxs 2 97 0 [some (.inr (.inr 100)), some (.inr (.inr x1)), none, none, none] [] (M0 L V b) = some (true, 2, [some (.inr (.inr 100)), some (.inr (.inr x1)), some (.inl 0), none, none], [], M0 L V b) := by
  rfl

theorem B97_2 (L : Nat) (V : Mv) (b : Bool) (x1 : Nat) (x2 : Int) (c_x1 : isK x1) (g0 : in32 x2) (g1 : in32 (V x1 0)) : nxs 4 97 2 [some (.inr (.inr 100)), some (.inr (.inr x1)), some (.inl x2), none, none] [] (M0 L V b) = some (true, cond (decide (V x1 0 ≤ x2)) 79 10, [some (.inr (.inr 100)), some (.inr (.inr x1)), some (.inl x2), none, none], [], M0 L V b) := by
  have f0 : decide ((TT L x1).1 = 64 + 2) = true := cls_of (isK_T c_x1)
  have f1 : (r32 x2 && r32 (V x1 0)) = true := rr32_of g0 g1
  have hG : (decide ((TT L x1).1 = 64 + 2) && ((r32 x2 && r32 (V x1 0)) && true)) = true := an f0 (an f1 rfl)
  show some (decide ((TT L x1).1 = 64 + 2) && ((r32 x2 && r32 (V x1 0)) && true), _) = _
  rw [hG]
  try rfl

theorem B97_10 (L : Nat) (V : Mv) (b : Bool) (x1 : Nat) (x2 : Int) (g0 : 0 ≤ x2 ∧ x2 < 8) : nxs 7 97 10 [some (.inr (.inr 100)), some (.inr (.inr x1)), some (.inl x2), none, none] [] (M0 L V b) = some (true, 20, [some (.inr (.inr 100)), some (.inr (.inr x1)), some (.inl x2), some (.inl 0), some (.inl (V 101 (x2).toNat))], [], M0 L V b) := by
  have f0 : gX (M0 L V b) 101 1 x2 = true := gx_of rfl g0
  have hG : (gX (M0 L V b) 101 1 x2 && true) = true := an f0 rfl
  show some (gX (M0 L V b) 101 1 x2 && true, _) = _
  rw [hG]
  try rfl

theorem B97_20 (L : Nat) (V : Mv) (b : Bool) (x1 : Nat) (x2 : Int) (x3 : Int) (x4 : Int) (c_x1 : isK x1) (g0 : in32 x4) (g1 : in32 (V x1 0)) : nxs 4 97 20 [some (.inr (.inr 100)), some (.inr (.inr x1)), some (.inl x2), some (.inl x3), some (.inl x4)] [] (M0 L V b) = some (true, cond (decide (V x1 0 ≤ x4)) 66 29, [some (.inr (.inr 100)), some (.inr (.inr x1)), some (.inl x2), some (.inl x3), some (.inl x4)], [], M0 L V b) := by
  have f0 : decide ((TT L x1).1 = 64 + 2) = true := cls_of (isK_T c_x1)
  have f1 : (r32 x4 && r32 (V x1 0)) = true := rr32_of g0 g1
  have hG : (decide ((TT L x1).1 = 64 + 2) && ((r32 x4 && r32 (V x1 0)) && true)) = true := an f0 (an f1 rfl)
  show some (decide ((TT L x1).1 = 64 + 2) && ((r32 x4 && r32 (V x1 0)) && true), _) = _
  rw [hG]
  try rfl

theorem B97_29 (L : Nat) (V : Mv) (b : Bool) (x1 : Nat) (x2 : Int) (x3 : Int) (x4 : Int) (c_x1 : isK x1) (g0 : 0 ≤ x2 ∧ x2 < 8) (g1 : 0 ≤ ((V 101 (x2).toNat) * 8) + x4 ∧ ((V 101 (x2).toNat) * 8) + x4 < 64) (g2 : in32 (V (x1 + 1) (((V 101 (x2).toNat) * 8) + x4).toNat)) : nxs 13 97 29 [some (.inr (.inr 100)), some (.inr (.inr x1)), some (.inl x2), some (.inl x3), some (.inl x4)] [] (M0 L V b) = some (true, cond (decide (V (x1 + 1) (((V 101 (x2).toNat) * 8) + x4).toNat ≤ 0)) 57 50, [some (.inr (.inr 100)), some (.inr (.inr x1)), some (.inl x2), some (.inl x3), some (.inl x4)], [.inl x3], M0 L V b) := by
  have f0 : (decide ((TT L x1).1 = 64 + 2) && decide (RR b x1 4 = some (x1 + 1))) = true := clr_of (isK_T c_x1) (isK_R4 c_x1)
  have f1 : gX (M0 L V b) 101 1 x2 = true := gx_of rfl g0
  have f2 : gX (M0 L V b) (x1 + 1) 1 (((V 101 (x2).toNat) * 8) + x4) = true := gx_of (show aT _ _ = _ from isK_A4 (L := L) c_x1) g1
  have f3 : r32 (V (x1 + 1) (((V 101 (x2).toNat) * 8) + x4).toNat) = true := r32_of g2
  have hG : ((decide ((TT L x1).1 = 64 + 2) && decide (RR b x1 4 = some (x1 + 1))) && (gX (M0 L V b) 101 1 x2 && (gX (M0 L V b) (x1 + 1) 1 (((V 101 (x2).toNat) * 8) + x4) && (r32 (V (x1 + 1) (((V 101 (x2).toNat) * 8) + x4).toNat) && true)))) = true := an f0 (an f1 (an f2 (an f3 rfl)))
  show some ((decide ((TT L x1).1 = 64 + 2) && decide (RR b x1 4 = some (x1 + 1))) && (gX (M0 L V b) 101 1 x2 && (gX (M0 L V b) (x1 + 1) 1 (((V 101 (x2).toNat) * 8) + x4) && (r32 (V (x1 + 1) (((V 101 (x2).toNat) * 8) + x4).toNat) && true))), _) = _
  rw [hG]
  try rfl

theorem B97_50 (L : Nat) (V : Mv) (b : Bool) (x1 : Nat) (x2 : Int) (x3 : Int) (x4 : Int) (s0 : Int)  : nxs 4 97 50 [some (.inr (.inr 100)), some (.inr (.inr x1)), some (.inl x2), some (.inl x3), some (.inl x4)] [.inl s0] (M0 L V b) = some (true, 58, [some (.inr (.inr 100)), some (.inr (.inr x1)), some (.inl x2), some (.inl x3), some (.inl x4)], [.inl (oShl 1 x4), .inl s0], M0 L V b) := by
  rfl

theorem B97_57 (L : Nat) (V : Mv) (b : Bool) (x1 : Nat) (x2 : Int) (x3 : Int) (x4 : Int) (s0 : Int)  : nxs 1 97 57 [some (.inr (.inr 100)), some (.inr (.inr x1)), some (.inl x2), some (.inl x3), some (.inl x4)] [.inl s0] (M0 L V b) = some (true, 58, [some (.inr (.inr 100)), some (.inr (.inr x1)), some (.inl x2), some (.inl x3), some (.inl x4)], [.inl 0, .inl s0], M0 L V b) := by
  rfl

theorem B97_58 (L : Nat) (V : Mv) (b : Bool) (x1 : Nat) (x2 : Int) (x3 : Int) (x4 : Int) (s0 : Int) (s1 : Int)  : nxs 4 97 58 [some (.inr (.inr 100)), some (.inr (.inr x1)), some (.inl x2), some (.inl x3), some (.inl x4)] [.inl s1, .inl s0] (M0 L V b) = some (true, 20, [some (.inr (.inr 100)), some (.inr (.inr x1)), some (.inl x2), some (.inl (oOr s0 s1)), some (.inl (x4 + 1))], [], M0 L V b) := by
  rfl

theorem B97_66 (L : Nat) (V : Mv) (b : Bool) (x1 : Nat) (x2 : Int) (x3 : Int) (x4 : Int) (g0 : 0 ≤ x2 ∧ x2 < 8) : nxs 7 97 66 [some (.inr (.inr 100)), some (.inr (.inr x1)), some (.inl x2), some (.inl x3), some (.inl x4)] [] (M0 L V b) = some (true, 2, [some (.inr (.inr 100)), some (.inr (.inr x1)), some (.inl (x2 + 1)), some (.inl x3), some (.inl x4)], [], M0 L (uV V 103 (x2).toNat x3) b) := by
  have f0 : (gX (M0 L V b) 103 1 x2 && !Nat.beq 103 0) = true := gs_of (gx_of rfl g0) (by decide)
  have hG : ((gX (M0 L V b) 103 1 x2 && !Nat.beq 103 0) && true) = true := an f0 rfl
  show some ((gX (M0 L V b) 103 1 x2 && !Nat.beq 103 0) && true, _) = _
  rw [hG]
  try rfl

theorem B97_79 (L : Nat) (V : Mv) (b : Bool) (x1 : Nat) (x2 : Int)  : nxs 2 97 79 [some (.inr (.inr 100)), some (.inr (.inr x1)), some (.inl x2), none, none] [] (M0 L V b) = some (true, 81, [some (.inr (.inr 100)), some (.inr (.inr x1)), some (.inl 0), none, none], [], M0 L V b) := by
  rfl

theorem B97_81 (L : Nat) (V : Mv) (b : Bool) (x1 : Nat) (x2 : Int) (c_x1 : isK x1) (g0 : in32 x2) (g1 : in32 (V x1 0)) : nxs 4 97 81 [some (.inr (.inr 100)), some (.inr (.inr x1)), some (.inl x2), none, none] [] (M0 L V b) = some (true, cond (decide (V x1 0 ≤ x2)) 139 89, [some (.inr (.inr 100)), some (.inr (.inr x1)), some (.inl x2), none, none], [], M0 L V b) := by
  have f0 : decide ((TT L x1).1 = 64 + 2) = true := cls_of (isK_T c_x1)
  have f1 : (r32 x2 && r32 (V x1 0)) = true := rr32_of g0 g1
  have hG : (decide ((TT L x1).1 = 64 + 2) && ((r32 x2 && r32 (V x1 0)) && true)) = true := an f0 (an f1 rfl)
  show some (decide ((TT L x1).1 = 64 + 2) && ((r32 x2 && r32 (V x1 0)) && true), _) = _
  rw [hG]
  try rfl

theorem B97_89 (L : Nat) (V : Mv) (b : Bool) (x1 : Nat) (x2 : Int)  : nxs 2 97 89 [some (.inr (.inr 100)), some (.inr (.inr x1)), some (.inl x2), none, none] [] (M0 L V b) = some (true, 91, [some (.inr (.inr 100)), some (.inr (.inr x1)), some (.inl x2), some (.inl 0), none], [], M0 L V b) := by
  rfl

theorem B97_91 (L : Nat) (V : Mv) (b : Bool) (x1 : Nat) (x2 : Int) (x3 : Int) (c_x1 : isK x1) (g0 : in32 x3) (g1 : in32 (V x1 0)) : nxs 4 97 91 [some (.inr (.inr 100)), some (.inr (.inr x1)), some (.inl x2), some (.inl x3), none] [] (M0 L V b) = some (true, cond (decide (V x1 0 ≤ x3)) 133 99, [some (.inr (.inr 100)), some (.inr (.inr x1)), some (.inl x2), some (.inl x3), none], [], M0 L V b) := by
  have f0 : decide ((TT L x1).1 = 64 + 2) = true := cls_of (isK_T c_x1)
  have f1 : (r32 x3 && r32 (V x1 0)) = true := rr32_of g0 g1
  have hG : (decide ((TT L x1).1 = 64 + 2) && ((r32 x3 && r32 (V x1 0)) && true)) = true := an f0 (an f1 rfl)
  show some (decide ((TT L x1).1 = 64 + 2) && ((r32 x3 && r32 (V x1 0)) && true), _) = _
  rw [hG]
  try rfl

theorem B97_99 (L : Nat) (V : Mv) (b : Bool) (x1 : Nat) (x2 : Int) (x3 : Int) (g0 : 0 ≤ x3 ∧ x3 < 8) (g1 : in32 (oAnd (oShr (V 103 (x3).toNat) x2) 1)) : nxs 9 97 99 [some (.inr (.inr 100)), some (.inr (.inr x1)), some (.inl x2), some (.inl x3), none] [] (M0 L V b) = some (true, cond (decide (oAnd (oShr (V 103 (x3).toNat) x2) 1 = 0)) 127 112, [some (.inr (.inr 100)), some (.inr (.inr x1)), some (.inl x2), some (.inl x3), none], [], M0 L V b) := by
  have f0 : gX (M0 L V b) 103 1 x3 = true := gx_of rfl g0
  have f1 : r32 (oAnd (oShr (V 103 (x3).toNat) x2) 1) = true := r32_of g1
  have hG : (gX (M0 L V b) 103 1 x3 && (r32 (oAnd (oShr (V 103 (x3).toNat) x2) 1) && true)) = true := an f0 (an f1 rfl)
  show some (gX (M0 L V b) 103 1 x3 && (r32 (oAnd (oShr (V 103 (x3).toNat) x2) 1) && true), _) = _
  rw [hG]
  try rfl

theorem B97_112 (L : Nat) (V : Mv) (b : Bool) (x1 : Nat) (x2 : Int) (x3 : Int) (g0 : 0 ≤ x3 ∧ x3 < 8) (g1 : 0 ≤ x2 ∧ x2 < 8) : nxs 11 97 112 [some (.inr (.inr 100)), some (.inr (.inr x1)), some (.inl x2), some (.inl x3), none] [] (M0 L V b) = some (true, 127, [some (.inr (.inr 100)), some (.inr (.inr x1)), some (.inl x2), some (.inl x3), none], [], M0 L (uV V 103 (x3).toNat (oOr (V 103 (x3).toNat) (V 103 (x2).toNat))) b) := by
  have f0 : gX (M0 L V b) 103 1 x3 = true := gx_of rfl g0
  have f1 : gX (M0 L V b) 103 1 x2 = true := gx_of rfl g1
  have f2 : (gX (M0 L V b) 103 1 x3 && !Nat.beq 103 0) = true := gs_of (gx_of rfl g0) (by decide)
  have hG : (gX (M0 L V b) 103 1 x3 && (gX (M0 L V b) 103 1 x2 && ((gX (M0 L V b) 103 1 x3 && !Nat.beq 103 0) && true))) = true := an f0 (an f1 (an f2 rfl))
  show some (gX (M0 L V b) 103 1 x3 && (gX (M0 L V b) 103 1 x2 && ((gX (M0 L V b) 103 1 x3 && !Nat.beq 103 0) && true)), _) = _
  rw [hG]
  try rfl

theorem B97_127 (L : Nat) (V : Mv) (b : Bool) (x1 : Nat) (x2 : Int) (x3 : Int)  : nxs 2 97 127 [some (.inr (.inr 100)), some (.inr (.inr x1)), some (.inl x2), some (.inl x3), none] [] (M0 L V b) = some (true, 91, [some (.inr (.inr 100)), some (.inr (.inr x1)), some (.inl x2), some (.inl (x3 + 1)), none], [], M0 L V b) := by
  rfl

theorem B97_133 (L : Nat) (V : Mv) (b : Bool) (x1 : Nat) (x2 : Int) (x3 : Int)  : nxs 2 97 133 [some (.inr (.inr 100)), some (.inr (.inr x1)), some (.inl x2), some (.inl x3), none] [] (M0 L V b) = some (true, 81, [some (.inr (.inr 100)), some (.inr (.inr x1)), some (.inl (x2 + 1)), some (.inl x3), none], [], M0 L V b) := by
  rfl

-- 98: MendedOrNew$Chain.settleCost(LMendedOrNew$Kind;LMendedOrNew$Fraction;)Z
theorem B98_0 (L : Nat) (V : Mv) (b : Bool) (x1 : Nat) (x2 : Nat)  : nxs 2 98 0 [some (.inr (.inr 100)), some (.inr (.inr x1)), some (.inr (.inr x2)), none, none, none, none, none] [] (M0 L V b) = some (true, 2, [some (.inr (.inr 100)), some (.inr (.inr x1)), some (.inr (.inr x2)), none, none, none, none, none], [.inr (.inr x1), .inr (.inr 100)], M0 L V b) := by
  rfl

theorem B98_5 (L : Nat) (V : Mv) (b : Bool) (x1 : Nat) (x2 : Nat) (s0 : Int) (g0 : in32 s0) : nxs 1 98 5 [some (.inr (.inr 100)), some (.inr (.inr x1)), some (.inr (.inr x2)), none, none, none, none, none] [.inl s0] (M0 L V b) = some (true, cond (decide (s0 = 0)) 16 8, [some (.inr (.inr 100)), some (.inr (.inr x1)), some (.inr (.inr x2)), none, none, none, none, none], [], M0 L V b) := by
  have f0 : r32 s0 = true := r32_of g0
  have hG : (r32 s0 && true) = true := an f0 rfl
  show some (r32 s0 && true, _) = _
  rw [hG]
  try rfl

theorem B98_8 (L : Nat) (V : Mv) (b : Bool) (x1 : Nat) (x2 : Nat)  : nxs 2 98 8 [some (.inr (.inr 100)), some (.inr (.inr x1)), some (.inr (.inr x2)), none, none, none, none, none] [] (M0 L V b) = some (true, 10, [some (.inr (.inr 100)), some (.inr (.inr x1)), some (.inr (.inr x2)), none, none, none, none, none], [.inr (.inr x1), .inr (.inr 100)], M0 L V b) := by
  rfl

theorem B98_13 (L : Nat) (V : Mv) (b : Bool) (x1 : Nat) (x2 : Nat) (s0 : Int) (g0 : in32 s0) : nxs 1 98 13 [some (.inr (.inr 100)), some (.inr (.inr x1)), some (.inr (.inr x2)), none, none, none, none, none] [.inl s0] (M0 L V b) = some (true, cond (!decide (s0 = 0)) 18 16, [some (.inr (.inr 100)), some (.inr (.inr x1)), some (.inr (.inr x2)), none, none, none, none, none], [], M0 L V b) := by
  have f0 : r32 s0 = true := r32_of g0
  have hG : (r32 s0 && true) = true := an f0 rfl
  show some (r32 s0 && true, _) = _
  rw [hG]
  try rfl

theorem B98_16 (L : Nat) (V : Mv) (b : Bool) (x1 : Nat) (x2 : Nat)  : nxs 1 98 16 [some (.inr (.inr 100)), some (.inr (.inr x1)), some (.inr (.inr x2)), none, none, none, none, none] [] (M0 L V b) = some (true, 17, [some (.inr (.inr 100)), some (.inr (.inr x1)), some (.inr (.inr x2)), none, none, none, none, none], [.inl 0], M0 L V b) := by
  rfl

theorem B98_18 (L : Nat) (V : Mv) (b : Bool) (x1 : Nat) (x2 : Nat)  : nxs 6 98 18 [some (.inr (.inr 100)), some (.inr (.inr x1)), some (.inr (.inr x2)), none, none, none, none, none] [] (M0 L V b) = some (true, 26, [some (.inr (.inr 100)), some (.inr (.inr x1)), some (.inr (.inr x2)), some (.inr (.inl 0)), none, some (.inr (.inl 0)), none, some (.inl 0)], [], M0 L V b) := by
  rfl

theorem B98_26 (L : Nat) (V : Mv) (b : Bool) (x1 : Nat) (x2 : Nat) (x3 : Int) (x5 : Int) (x7 : Int) (g0 : in32 x7) (g1 : in32 (V 100 6)) : nxs 4 98 26 [some (.inr (.inr 100)), some (.inr (.inr x1)), some (.inr (.inr x2)), some (.inr (.inl x3)), none, some (.inr (.inl x5)), none, some (.inl x7)] [] (M0 L V b) = some (true, cond (decide (V 100 6 ≤ x7)) 77 35, [some (.inr (.inr 100)), some (.inr (.inr x1)), some (.inr (.inr x2)), some (.inr (.inl x3)), none, some (.inr (.inl x5)), none, some (.inl x7)], [], M0 L V b) := by
  have f0 : (r32 x7 && r32 (V 100 6)) = true := rr32_of g0 g1
  have hG : ((r32 x7 && r32 (V 100 6)) && true) = true := an f0 rfl
  show some ((r32 x7 && r32 (V 100 6)) && true, _) = _
  rw [hG]
  try rfl

theorem B98_35 (L : Nat) (V : Mv) (b : Bool) (x1 : Nat) (x2 : Nat) (x3 : Int) (x5 : Int) (x7 : Int) (g0 : 0 ≤ x7 ∧ x7 < 8) (g1 : 0 ≤ V 104 (x7).toNat ∧ V 104 (x7).toNat < 8) (g2 : in32 (V 102 (V 104 (x7).toNat).toNat)) : nxs 25 98 35 [some (.inr (.inr 100)), some (.inr (.inr x1)), some (.inr (.inr x2)), some (.inr (.inl x3)), none, some (.inr (.inl x5)), none, some (.inl x7)] [] (M0 L V b) = some (true, 26, [some (.inr (.inr 100)), some (.inr (.inr x1)), some (.inr (.inr x2)), some (.inr (.inl (x3 + ((V 106 (x7).toNat) * (V 102 (V 104 (x7).toNat).toNat))))), none, some (.inr (.inl (x5 + (V 106 (x7).toNat)))), none, some (.inl (x7 + 1))], [], M0 L V b) := by
  have f0 : gX (M0 L V b) 106 2 x7 = true := gx_of rfl g0
  have f1 : gX (M0 L V b) 104 1 x7 = true := gx_of rfl g0
  have f2 : gX (M0 L V b) 102 1 (V 104 (x7).toNat) = true := gx_of rfl g1
  have f3 : r32 (V 102 (V 104 (x7).toNat).toNat) = true := r32_of g2
  have f4 : gX (M0 L V b) 106 2 x7 = true := gx_of rfl g0
  have hG : (gX (M0 L V b) 106 2 x7 && (gX (M0 L V b) 104 1 x7 && (gX (M0 L V b) 102 1 (V 104 (x7).toNat) && (r32 (V 102 (V 104 (x7).toNat).toNat) && (gX (M0 L V b) 106 2 x7 && true))))) = true := an f0 (an f1 (an f2 (an f3 (an f4 rfl))))
  show some (gX (M0 L V b) 106 2 x7 && (gX (M0 L V b) 104 1 x7 && (gX (M0 L V b) 102 1 (V 104 (x7).toNat) && (r32 (V 102 (V 104 (x7).toNat).toNat) && (gX (M0 L V b) 106 2 x7 && true)))), _) = _
  rw [hG]
  try rfl

theorem B98_77 (L : Nat) (V : Mv) (b : Bool) (x1 : Nat) (x2 : Nat) (x3 : Int) (x5 : Int) (x7 : Int)  : nxs 3 98 77 [some (.inr (.inr 100)), some (.inr (.inr x1)), some (.inr (.inr x2)), some (.inr (.inl x3)), none, some (.inr (.inl x5)), none, some (.inl x7)] [] (M0 L V b) = some (true, 81, [some (.inr (.inr 100)), some (.inr (.inr x1)), some (.inr (.inr x2)), some (.inr (.inl x3)), none, some (.inr (.inl x5)), none, some (.inl x7)], [.inr (.inl x5), .inr (.inl x3), .inr (.inr x2)], M0 L V b) := by
  rfl

theorem B98_84 (L : Nat) (V : Mv) (b : Bool) (x1 : Nat) (x2 : Nat) (x3 : Int) (x5 : Int) (x7 : Int)  : nxs 1 98 84 [some (.inr (.inr 100)), some (.inr (.inr x1)), some (.inr (.inr x2)), some (.inr (.inl x3)), none, some (.inr (.inl x5)), none, some (.inl x7)] [] (M0 L V b) = some (true, 85, [some (.inr (.inr 100)), some (.inr (.inr x1)), some (.inr (.inr x2)), some (.inr (.inl x3)), none, some (.inr (.inl x5)), none, some (.inl x7)], [.inl 1], M0 L V b) := by
  rfl

-- 99: MendedOrNew$Chain.findMembers(LMendedOrNew$Kind;)Z
theorem B99_0 (L : Nat) (V : Mv) (b : Bool) (x1 : Nat)  : nxs 1 99 0 [some (.inr (.inr 100)), some (.inr (.inr x1)), none, none] [] (M0 L V b) = some (true, 1, [some (.inr (.inr 100)), some (.inr (.inr x1)), none, none], [.inr (.inr 100)], M0 L V b) := by
  rfl

theorem B99_4 (L : Nat) (V : Mv) (b : Bool) (x1 : Nat) (s0 : Int)  : nxs 3 99 4 [some (.inr (.inr 100)), some (.inr (.inr x1)), none, none] [.inl s0] (M0 L V b) = some (true, 7, [some (.inr (.inr 100)), some (.inr (.inr x1)), some (.inl s0), some (.inl 0)], [], M0 L V b) := by
  rfl

theorem B99_7 (L : Nat) (V : Mv) (b : Bool) (x1 : Nat) (x2 : Int) (x3 : Int) (c_x1 : isK x1) (g0 : in32 x3) (g1 : in32 (V x1 0)) : nxs 4 99 7 [some (.inr (.inr 100)), some (.inr (.inr x1)), some (.inl x2), some (.inl x3)] [] (M0 L V b) = some (true, cond (decide (V x1 0 ≤ x3)) 45 15, [some (.inr (.inr 100)), some (.inr (.inr x1)), some (.inl x2), some (.inl x3)], [], M0 L V b) := by
  have f0 : decide ((TT L x1).1 = 64 + 2) = true := cls_of (isK_T c_x1)
  have f1 : (r32 x3 && r32 (V x1 0)) = true := rr32_of g0 g1
  have hG : (decide ((TT L x1).1 = 64 + 2) && ((r32 x3 && r32 (V x1 0)) && true)) = true := an f0 (an f1 rfl)
  show some (decide ((TT L x1).1 = 64 + 2) && ((r32 x3 && r32 (V x1 0)) && true), _) = _
  rw [hG]
  try rfl

theorem B99_15 (L : Nat) (V : Mv) (b : Bool) (x1 : Nat) (x2 : Int) (x3 : Int)  : nxs 2 99 15 [some (.inr (.inr 100)), some (.inr (.inr x1)), some (.inl x2), some (.inl x3)] [] (M0 L V b) = some (true, 17, [some (.inr (.inr 100)), some (.inr (.inr x1)), some (.inl x2), some (.inl x3)], [.inr (.inr 100), .inl x2], M0 L V b) := by
  rfl

theorem B99_20 (L : Nat) (V : Mv) (b : Bool) (x1 : Nat) (x2 : Int) (x3 : Int) (s0 : Int) (s1 : Int) (g0 : in32 (oAnd (oShr s1 x3) 1)) : nxs 5 99 20 [some (.inr (.inr 100)), some (.inr (.inr x1)), some (.inl x2), some (.inl x3)] [.inl s1, .inl s0] (M0 L V b) = some (true, cond (decide (oAnd (oShr s1 x3) 1 = 0)) 36 27, [some (.inr (.inr 100)), some (.inr (.inr x1)), some (.inl x2), some (.inl x3)], [.inl s0], M0 L V b) := by
  have f0 : r32 (oAnd (oShr s1 x3) 1) = true := r32_of g0
  have hG : (r32 (oAnd (oShr s1 x3) 1) && true) = true := an f0 rfl
  show some (r32 (oAnd (oShr s1 x3) 1) && true, _) = _
  rw [hG]
  try rfl

theorem B99_27 (L : Nat) (V : Mv) (b : Bool) (x1 : Nat) (x2 : Int) (x3 : Int) (s0 : Int) (g0 : 0 ≤ x3 ∧ x3 < 8) : nxs 5 99 27 [some (.inr (.inr 100)), some (.inr (.inr x1)), some (.inl x2), some (.inl x3)] [.inl s0] (M0 L V b) = some (true, 37, [some (.inr (.inr 100)), some (.inr (.inr x1)), some (.inl x2), some (.inl x3)], [.inl (V 103 (x3).toNat), .inl s0], M0 L V b) := by
  have f0 : gX (M0 L V b) 103 1 x3 = true := gx_of rfl g0
  have hG : (gX (M0 L V b) 103 1 x3 && true) = true := an f0 rfl
  show some (gX (M0 L V b) 103 1 x3 && true, _) = _
  rw [hG]
  try rfl

theorem B99_36 (L : Nat) (V : Mv) (b : Bool) (x1 : Nat) (x2 : Int) (x3 : Int) (s0 : Int)  : nxs 1 99 36 [some (.inr (.inr 100)), some (.inr (.inr x1)), some (.inl x2), some (.inl x3)] [.inl s0] (M0 L V b) = some (true, 37, [some (.inr (.inr 100)), some (.inr (.inr x1)), some (.inl x2), some (.inl x3)], [.inl x2, .inl s0], M0 L V b) := by
  rfl

theorem B99_37 (L : Nat) (V : Mv) (b : Bool) (x1 : Nat) (x2 : Int) (x3 : Int) (s0 : Int) (s1 : Int)  : nxs 4 99 37 [some (.inr (.inr 100)), some (.inr (.inr x1)), some (.inl x2), some (.inl x3)] [.inl s1, .inl s0] (M0 L V b) = some (true, 7, [some (.inr (.inr 100)), some (.inr (.inr x1)), some (.inl (oAnd s0 s1)), some (.inl (x3 + 1))], [], M0 L V b) := by
  rfl

theorem B99_45 (L : Nat) (V : Mv) (b : Bool) (x1 : Nat) (x2 : Int) (x3 : Int)  : nxs 5 99 45 [some (.inr (.inr 100)), some (.inr (.inr x1)), some (.inl x2), some (.inl x3)] [] (M0 L V b) = some (true, 52, [some (.inr (.inr 100)), some (.inr (.inr x1)), some (.inl x2), some (.inl 0)], [], M0 L (uV V 100 6 0) b) := by
  rfl

theorem B99_52 (L : Nat) (V : Mv) (b : Bool) (x1 : Nat) (x2 : Int) (x3 : Int) (c_x1 : isK x1) (g0 : in32 x3) (g1 : in32 (V x1 0)) : nxs 4 99 52 [some (.inr (.inr 100)), some (.inr (.inr x1)), some (.inl x2), some (.inl x3)] [] (M0 L V b) = some (true, cond (decide (V x1 0 ≤ x3)) 94 60, [some (.inr (.inr 100)), some (.inr (.inr x1)), some (.inl x2), some (.inl x3)], [], M0 L V b) := by
  have f0 : decide ((TT L x1).1 = 64 + 2) = true := cls_of (isK_T c_x1)
  have f1 : (r32 x3 && r32 (V x1 0)) = true := rr32_of g0 g1
  have hG : (decide ((TT L x1).1 = 64 + 2) && ((r32 x3 && r32 (V x1 0)) && true)) = true := an f0 (an f1 rfl)
  show some (decide ((TT L x1).1 = 64 + 2) && ((r32 x3 && r32 (V x1 0)) && true), _) = _
  rw [hG]
  try rfl

theorem B99_60 (L : Nat) (V : Mv) (b : Bool) (x1 : Nat) (x2 : Int) (x3 : Int) (g0 : in32 (oAnd (oShr x2 x3) 1)) : nxs 6 99 60 [some (.inr (.inr 100)), some (.inr (.inr x1)), some (.inl x2), some (.inl x3)] [] (M0 L V b) = some (true, cond (decide (oAnd (oShr x2 x3) 1 = 0)) 88 68, [some (.inr (.inr 100)), some (.inr (.inr x1)), some (.inl x2), some (.inl x3)], [], M0 L V b) := by
  have f0 : r32 (oAnd (oShr x2 x3) 1) = true := r32_of g0
  have hG : (r32 (oAnd (oShr x2 x3) 1) && true) = true := an f0 rfl
  show some (r32 (oAnd (oShr x2 x3) 1) && true, _) = _
  rw [hG]
  try rfl

theorem B99_68 (L : Nat) (V : Mv) (b : Bool) (x1 : Nat) (x2 : Int) (x3 : Int) (g0 : 0 ≤ V 100 6 ∧ V 100 6 < 8) : nxs 12 99 68 [some (.inr (.inr 100)), some (.inr (.inr x1)), some (.inl x2), some (.inl x3)] [] (M0 L V b) = some (true, 88, [some (.inr (.inr 100)), some (.inr (.inr x1)), some (.inl x2), some (.inl x3)], [], M0 L (uV (uV V 104 (V 100 6).toNat x3) 100 6 (((uV V 104 (V 100 6).toNat x3) 100 6) + 1)) b) := by
  have f0 : (gX (M0 L V b) 104 1 (V 100 6) && !Nat.beq 104 0) = true := gs_of (gx_of rfl g0) (by decide)
  have hG : ((gX (M0 L V b) 104 1 (V 100 6) && !Nat.beq 104 0) && true) = true := an f0 rfl
  show some ((gX (M0 L V b) 104 1 (V 100 6) && !Nat.beq 104 0) && true, _) = _
  rw [hG]
  try rfl

theorem B99_88 (L : Nat) (V : Mv) (b : Bool) (x1 : Nat) (x2 : Int) (x3 : Int)  : nxs 2 99 88 [some (.inr (.inr 100)), some (.inr (.inr x1)), some (.inl x2), some (.inl x3)] [] (M0 L V b) = some (true, 52, [some (.inr (.inr 100)), some (.inr (.inr x1)), some (.inl x2), some (.inl (x3 + 1))], [], M0 L V b) := by
  rfl

theorem B99_94 (L : Nat) (V : Mv) (b : Bool) (x1 : Nat) (x2 : Int) (x3 : Int) (g0 : in32 (V 100 6)) : nxs 3 99 94 [some (.inr (.inr 100)), some (.inr (.inr x1)), some (.inl x2), some (.inl x3)] [] (M0 L V b) = some (true, cond (decide (V 100 6 ≤ 0)) 105 101, [some (.inr (.inr 100)), some (.inr (.inr x1)), some (.inl x2), some (.inl x3)], [], M0 L V b) := by
  have f0 : r32 (V 100 6) = true := r32_of g0
  have hG : (r32 (V 100 6) && true) = true := an f0 rfl
  show some (r32 (V 100 6) && true, _) = _
  rw [hG]
  try rfl

theorem B99_101 (L : Nat) (V : Mv) (b : Bool) (x1 : Nat) (x2 : Int) (x3 : Int)  : nxs 2 99 101 [some (.inr (.inr 100)), some (.inr (.inr x1)), some (.inl x2), some (.inl x3)] [] (M0 L V b) = some (true, 106, [some (.inr (.inr 100)), some (.inr (.inr x1)), some (.inl x2), some (.inl x3)], [.inl 1], M0 L V b) := by
  rfl

theorem B99_105 (L : Nat) (V : Mv) (b : Bool) (x1 : Nat) (x2 : Int) (x3 : Int)  : nxs 1 99 105 [some (.inr (.inr 100)), some (.inr (.inr x1)), some (.inl x2), some (.inl x3)] [] (M0 L V b) = some (true, 106, [some (.inr (.inr 100)), some (.inr (.inr x1)), some (.inl x2), some (.inl x3)], [.inl 0], M0 L V b) := by
  rfl

-- 100: MendedOrNew$Chain.mornings()I
theorem B100_0 (L : Nat) (V : Mv) (b : Bool)   : nxs 6 100 0 [some (.inr (.inr 100))] [] (M0 L V b) = some (true, 8, [some (.inr (.inr 100))], [.inl (oOr (V 103 (0 : Int).toNat) 1)], M0 L V b) := by
  have f0 : gX (M0 L V b) 103 1 0 = true := gx_of rfl (by decide)
  have hG : (gX (M0 L V b) 103 1 0 && true) = true := an f0 rfl
  show some (gX (M0 L V b) 103 1 0 && true, _) = _
  rw [hG]
  try rfl

-- 101: MendedOrNew$Chain.findShares(LMendedOrNew$Kind;)Z
theorem B101_0 (L : Nat) (V : Mv) (b : Bool) (x1 : Nat)  : nxs 8 101 0 [some (.inr (.inr 100)), some (.inr (.inr x1)), none, none, none, none, none, none, none] [] (M0 L V b) = some (true, 10, [some (.inr (.inr 100)), some (.inr (.inr x1)), some (.inl ((V 100 6) - 1)), none, none, none, none, none, none], [.inl ((V 100 6) - 1), .inr (.inr x1), .inr (.inr 100)], M0 L V b) := by
  rfl

theorem B101_13 (L : Nat) (V : Mv) (b : Bool) (x1 : Nat) (x2 : Int)  : nxs 4 101 13 [some (.inr (.inr 100)), some (.inr (.inr x1)), some (.inl x2), none, none, none, none, none, none] [] (M0 L V b) = some (true, 18, [some (.inr (.inr 100)), some (.inr (.inr x1)), some (.inl x2), some (.inr (.inl 1)), none, some (.inl 0), none, none, none], [], M0 L V b) := by
  rfl

theorem B101_18 (L : Nat) (V : Mv) (b : Bool) (x1 : Nat) (x2 : Int) (x3 : Int) (x5 : Int) (g0 : in32 x5) (g1 : in32 x2) : nxs 3 101 18 [some (.inr (.inr 100)), some (.inr (.inr x1)), some (.inl x2), some (.inr (.inl x3)), none, some (.inl x5), none, none, none] [] (M0 L V b) = some (true, cond (decide (x2 ≤ x5)) 85 24, [some (.inr (.inr 100)), some (.inr (.inr x1)), some (.inl x2), some (.inr (.inl x3)), none, some (.inl x5), none, none, none], [], M0 L V b) := by
  have f0 : (r32 x5 && r32 x2) = true := rr32_of g0 g1
  have hG : ((r32 x5 && r32 x2) && true) = true := an f0 rfl
  show some ((r32 x5 && r32 x2) && true, _) = _
  rw [hG]
  try rfl

theorem B101_24 (L : Nat) (V : Mv) (b : Bool) (x1 : Nat) (x2 : Int) (x3 : Int) (x5 : Int) (g0 : 0 ≤ (x5 * 8) + x5 ∧ (x5 * 8) + x5 < 64) (g1 : in64 (V 105 ((x5 * 8) + x5).toNat)) (g2 : in32 (cmpI (V 105 ((x5 * 8) + x5).toNat) 0)) : nxs 13 101 24 [some (.inr (.inr 100)), some (.inr (.inr x1)), some (.inl x2), some (.inr (.inl x3)), none, some (.inl x5), none, none, none] [] (M0 L V b) = some (true, cond (!decide (cmpI (V 105 ((x5 * 8) + x5).toNat) 0 = 0)) 48 46, [some (.inr (.inr 100)), some (.inr (.inr x1)), some (.inl x2), some (.inr (.inl x3)), none, some (.inl x5), some (.inr (.inl (V 105 ((x5 * 8) + x5).toNat))), none, none], [], M0 L V b) := by
  have f0 : gX (M0 L V b) 105 2 ((x5 * 8) + x5) = true := gx_of rfl g0
  have f1 : (r64 (V 105 ((x5 * 8) + x5).toNat) && r64 0) = true := rr64_of g1 (by decide)
  have f2 : r32 (cmpI (V 105 ((x5 * 8) + x5).toNat) 0) = true := r32_of g2
  have hG : (gX (M0 L V b) 105 2 ((x5 * 8) + x5) && ((r64 (V 105 ((x5 * 8) + x5).toNat) && r64 0) && (r32 (cmpI (V 105 ((x5 * 8) + x5).toNat) 0) && true))) = true := an f0 (an f1 (an f2 rfl))
  show some (gX (M0 L V b) 105 2 ((x5 * 8) + x5) && ((r64 (V 105 ((x5 * 8) + x5).toNat) && r64 0) && (r32 (cmpI (V 105 ((x5 * 8) + x5).toNat) 0) && true)), _) = _
  rw [hG]
  try rfl

theorem B101_46 (L : Nat) (V : Mv) (b : Bool) (x1 : Nat) (x2 : Int) (x3 : Int) (x5 : Int) (x6 : Int)  : nxs 1 101 46 [some (.inr (.inr 100)), some (.inr (.inr x1)), some (.inl x2), some (.inr (.inl x3)), none, some (.inl x5), some (.inr (.inl x6)), none, none] [] (M0 L V b) = some (true, 47, [some (.inr (.inr 100)), some (.inr (.inr x1)), some (.inl x2), some (.inr (.inl x3)), none, some (.inl x5), some (.inr (.inl x6)), none, none], [.inl 0], M0 L V b) := by
  rfl

theorem B101_48 (L : Nat) (V : Mv) (b : Bool) (x1 : Nat) (x2 : Int) (x3 : Int) (x5 : Int) (x6 : Int)  : nxs 4 101 48 [some (.inr (.inr 100)), some (.inr (.inr x1)), some (.inl x2), some (.inr (.inl x3)), none, some (.inl x5), some (.inr (.inl x6)), none, none] [] (M0 L V b) = some (true, 54, [some (.inr (.inr 100)), some (.inr (.inr x1)), some (.inl x2), some (.inr (.inl x3)), none, some (.inl x5), some (.inr (.inl x6)), none, some (.inl (x5 + 1))], [], M0 L V b) := by
  rfl

theorem B101_54 (L : Nat) (V : Mv) (b : Bool) (x1 : Nat) (x2 : Int) (x3 : Int) (x5 : Int) (x6 : Int) (x8 : Int) (g0 : in32 x8) (g1 : in32 x2) : nxs 3 101 54 [some (.inr (.inr 100)), some (.inr (.inr x1)), some (.inl x2), some (.inr (.inl x3)), none, some (.inl x5), some (.inr (.inl x6)), none, some (.inl x8)] [] (M0 L V b) = some (true, cond (decide (x2 ≤ x8)) 76 60, [some (.inr (.inr 100)), some (.inr (.inr x1)), some (.inl x2), some (.inr (.inl x3)), none, some (.inl x5), some (.inr (.inl x6)), none, some (.inl x8)], [], M0 L V b) := by
  have f0 : (r32 x8 && r32 x2) = true := rr32_of g0 g1
  have hG : ((r32 x8 && r32 x2) && true) = true := an f0 rfl
  show some ((r32 x8 && r32 x2) && true, _) = _
  rw [hG]
  try rfl

theorem B101_60 (L : Nat) (V : Mv) (b : Bool) (x1 : Nat) (x2 : Int) (x3 : Int) (x5 : Int) (x6 : Int) (x8 : Int)  : nxs 5 101 60 [some (.inr (.inr 100)), some (.inr (.inr x1)), some (.inl x2), some (.inr (.inl x3)), none, some (.inl x5), some (.inr (.inl x6)), none, some (.inl x8)] [] (M0 L V b) = some (true, 67, [some (.inr (.inr 100)), some (.inr (.inr x1)), some (.inl x2), some (.inr (.inl x3)), none, some (.inl x5), some (.inr (.inl x6)), none, some (.inl x8)], [.inr (.inl x3), .inl x2, .inl x5, .inl x8, .inr (.inr 100)], M0 L V b) := by
  rfl

theorem B101_70 (L : Nat) (V : Mv) (b : Bool) (x1 : Nat) (x2 : Int) (x3 : Int) (x5 : Int) (x6 : Int) (x8 : Int)  : nxs 2 101 70 [some (.inr (.inr 100)), some (.inr (.inr x1)), some (.inl x2), some (.inr (.inl x3)), none, some (.inl x5), some (.inr (.inl x6)), none, some (.inl x8)] [] (M0 L V b) = some (true, 54, [some (.inr (.inr 100)), some (.inr (.inr x1)), some (.inl x2), some (.inr (.inl x3)), none, some (.inl x5), some (.inr (.inl x6)), none, some (.inl (x8 + 1))], [], M0 L V b) := by
  rfl

theorem B101_76 (L : Nat) (V : Mv) (b : Bool) (x1 : Nat) (x2 : Int) (x3 : Int) (x5 : Int) (x6 : Int) (x8 : Int)  : nxs 4 101 76 [some (.inr (.inr 100)), some (.inr (.inr x1)), some (.inl x2), some (.inr (.inl x3)), none, some (.inl x5), some (.inr (.inl x6)), none, some (.inl x8)] [] (M0 L V b) = some (true, 18, [some (.inr (.inr 100)), some (.inr (.inr x1)), some (.inl x2), some (.inr (.inl x6)), none, some (.inl (x5 + 1)), some (.inr (.inl x6)), none, some (.inl x8)], [], M0 L V b) := by
  rfl

theorem B101_85 (L : Nat) (V : Mv) (b : Bool) (x1 : Nat) (x2 : Int) (x3 : Int) (x5 : Int) (g0 : 0 ≤ x2 ∧ x2 < 8) : nxs 9 101 85 [some (.inr (.inr 100)), some (.inr (.inr x1)), some (.inl x2), some (.inr (.inl x3)), none, some (.inl x5), none, none, none] [] (M0 L V b) = some (true, 97, [some (.inr (.inr 100)), some (.inr (.inr x1)), some (.inl x2), some (.inr (.inl x3)), none, some (.inl (x2 - 1)), none, none, none], [], M0 L (uV V 106 (x2).toNat x3) b) := by
  have f0 : (gX (M0 L V b) 106 2 x2 && !Nat.beq 106 0) = true := gs_of (gx_of rfl g0) (by decide)
  have hG : ((gX (M0 L V b) 106 2 x2 && !Nat.beq 106 0) && true) = true := an f0 rfl
  show some ((gX (M0 L V b) 106 2 x2 && !Nat.beq 106 0) && true, _) = _
  rw [hG]
  try rfl

theorem B101_97 (L : Nat) (V : Mv) (b : Bool) (x1 : Nat) (x2 : Int) (x3 : Int) (x5 : Int) (g0 : in32 x5) : nxs 2 101 97 [some (.inr (.inr 100)), some (.inr (.inr x1)), some (.inl x2), some (.inr (.inl x3)), none, some (.inl x5), none, none, none] [] (M0 L V b) = some (true, cond (decide (x5 < 0)) 191 102, [some (.inr (.inr 100)), some (.inr (.inr x1)), some (.inl x2), some (.inr (.inl x3)), none, some (.inl x5), none, none, none], [], M0 L V b) := by
  have f0 : r32 x5 = true := r32_of g0
  have hG : (r32 x5 && true) = true := an f0 rfl
  show some (r32 x5 && true, _) = _
  rw [hG]
  try rfl

theorem B101_102 (L : Nat) (V : Mv) (b : Bool) (x1 : Nat) (x2 : Int) (x3 : Int) (x5 : Int) (g0 : 0 ≤ (x5 * 8) + x2 ∧ (x5 * 8) + x2 < 64) : nxs 15 101 102 [some (.inr (.inr 100)), some (.inr (.inr x1)), some (.inl x2), some (.inr (.inl x3)), none, some (.inl x5), none, none, none] [] (M0 L V b) = some (true, 124, [some (.inr (.inr 100)), some (.inr (.inr x1)), some (.inl x2), some (.inr (.inl x3)), none, some (.inl x5), some (.inr (.inl ((V 105 ((x5 * 8) + x2).toNat) * x3))), none, some (.inl (x5 + 1))], [], M0 L V b) := by
  have f0 : gX (M0 L V b) 105 2 ((x5 * 8) + x2) = true := gx_of rfl g0
  have hG : (gX (M0 L V b) 105 2 ((x5 * 8) + x2) && true) = true := an f0 rfl
  show some (gX (M0 L V b) 105 2 ((x5 * 8) + x2) && true, _) = _
  rw [hG]
  try rfl

theorem B101_124 (L : Nat) (V : Mv) (b : Bool) (x1 : Nat) (x2 : Int) (x3 : Int) (x5 : Int) (x6 : Int) (x8 : Int) (g0 : in32 x8) (g1 : in32 x2) : nxs 3 101 124 [some (.inr (.inr 100)), some (.inr (.inr x1)), some (.inl x2), some (.inr (.inl x3)), none, some (.inl x5), some (.inr (.inl x6)), none, some (.inl x8)] [] (M0 L V b) = some (true, cond (decide (x2 ≤ x8)) 162 130, [some (.inr (.inr 100)), some (.inr (.inr x1)), some (.inl x2), some (.inr (.inl x3)), none, some (.inl x5), some (.inr (.inl x6)), none, some (.inl x8)], [], M0 L V b) := by
  have f0 : (r32 x8 && r32 x2) = true := rr32_of g0 g1
  have hG : ((r32 x8 && r32 x2) && true) = true := an f0 rfl
  show some ((r32 x8 && r32 x2) && true, _) = _
  rw [hG]
  try rfl

theorem B101_130 (L : Nat) (V : Mv) (b : Bool) (x1 : Nat) (x2 : Int) (x3 : Int) (x5 : Int) (x6 : Int) (x8 : Int) (g0 : 0 ≤ (x5 * 8) + x8 ∧ (x5 * 8) + x8 < 64) (g1 : 0 ≤ x8 ∧ x8 < 8) : nxs 18 101 130 [some (.inr (.inr 100)), some (.inr (.inr x1)), some (.inl x2), some (.inr (.inl x3)), none, some (.inl x5), some (.inr (.inl x6)), none, some (.inl x8)] [] (M0 L V b) = some (true, 124, [some (.inr (.inr 100)), some (.inr (.inr x1)), some (.inl x2), some (.inr (.inl x3)), none, some (.inl x5), some (.inr (.inl (x6 - ((V 105 ((x5 * 8) + x8).toNat) * (V 106 (x8).toNat))))), none, some (.inl (x8 + 1))], [], M0 L V b) := by
  have f0 : gX (M0 L V b) 105 2 ((x5 * 8) + x8) = true := gx_of rfl g0
  have f1 : gX (M0 L V b) 106 2 x8 = true := gx_of rfl g1
  have hG : (gX (M0 L V b) 105 2 ((x5 * 8) + x8) && (gX (M0 L V b) 106 2 x8 && true)) = true := an f0 (an f1 rfl)
  show some (gX (M0 L V b) 105 2 ((x5 * 8) + x8) && (gX (M0 L V b) 106 2 x8 && true), _) = _
  rw [hG]
  try rfl

theorem B101_162 (L : Nat) (V : Mv) (b : Bool) (x1 : Nat) (x2 : Int) (x3 : Int) (x5 : Int) (x6 : Int) (x8 : Int) (g0 : 0 ≤ (x5 * 8) + x5 ∧ (x5 * 8) + x5 < 64) (g1 : in64 x6) (g2 : in64 (V 105 ((x5 * 8) + x5).toNat)) (g3 : ¬ V 105 ((x5 * 8) + x5).toNat = 0) (g4 : 0 ≤ x5 ∧ x5 < 8) : nxs 16 101 162 [some (.inr (.inr 100)), some (.inr (.inr x1)), some (.inl x2), some (.inr (.inl x3)), none, some (.inl x5), some (.inr (.inl x6)), none, some (.inl x8)] [] (M0 L V b) = some (true, 97, [some (.inr (.inr 100)), some (.inr (.inr x1)), some (.inl x2), some (.inr (.inl x3)), none, some (.inl (x5 + (-1))), some (.inr (.inl x6)), none, some (.inl x8)], [], M0 L (uV V 106 (x5).toNat (Int.tdiv x6 (V 105 ((x5 * 8) + x5).toNat))) b) := by
  have f0 : gX (M0 L V b) 105 2 ((x5 * 8) + x5) = true := gx_of rfl g0
  have f1 : gL x6 (V 105 ((x5 * 8) + x5).toNat) = true := gL_of g1 g2 g3
  have f2 : (gX (M0 L V b) 106 2 x5 && !Nat.beq 106 0) = true := gs_of (gx_of rfl g4) (by decide)
  have hG : (gX (M0 L V b) 105 2 ((x5 * 8) + x5) && (gL x6 (V 105 ((x5 * 8) + x5).toNat) && ((gX (M0 L V b) 106 2 x5 && !Nat.beq 106 0) && true))) = true := an f0 (an f1 (an f2 rfl))
  show some (gX (M0 L V b) 105 2 ((x5 * 8) + x5) && (gL x6 (V 105 ((x5 * 8) + x5).toNat) && ((gX (M0 L V b) 106 2 x5 && !Nat.beq 106 0) && true)), _) = _
  rw [hG]
  try rfl

theorem B101_191 (L : Nat) (V : Mv) (b : Bool) (x1 : Nat) (x2 : Int) (x3 : Int) (x5 : Int)  : nxs 1 101 191 [some (.inr (.inr 100)), some (.inr (.inr x1)), some (.inl x2), some (.inr (.inl x3)), none, some (.inl x5), none, none, none] [] (M0 L V b) = some (true, 192, [some (.inr (.inr 100)), some (.inr (.inr x1)), some (.inl x2), some (.inr (.inl x3)), none, some (.inl x5), none, none, none], [.inl 1], M0 L V b) := by
  rfl

-- 102: MendedOrNew$Chain.fillGrid(LMendedOrNew$Kind;I)V
theorem B102_0 (L : Nat) (V : Mv) (b : Bool) (x1 : Nat) (x2 : Int)  : nxs 2 102 0 [some (.inr (.inr 100)), some (.inr (.inr x1)), some (.inl x2), none, none, none] [] (M0 L V b) = some (true, 2, [some (.inr (.inr 100)), some (.inr (.inr x1)), some (.inl x2), some (.inl 0), none, none], [], M0 L V b) := by
  rfl

theorem B102_2 (L : Nat) (V : Mv) (b : Bool) (x1 : Nat) (x2 : Int) (x3 : Int) (g0 : in32 x3) (g1 : in32 x2) : nxs 3 102 2 [some (.inr (.inr 100)), some (.inr (.inr x1)), some (.inl x2), some (.inl x3), none, none] [] (M0 L V b) = some (true, cond (decide (x2 ≤ x3)) 97 7, [some (.inr (.inr 100)), some (.inr (.inr x1)), some (.inl x2), some (.inl x3), none, none], [], M0 L V b) := by
  have f0 : (r32 x3 && r32 x2) = true := rr32_of g0 g1
  have hG : ((r32 x3 && r32 x2) && true) = true := an f0 rfl
  show some ((r32 x3 && r32 x2) && true, _) = _
  rw [hG]
  try rfl

theorem B102_7 (L : Nat) (V : Mv) (b : Bool) (x1 : Nat) (x2 : Int) (x3 : Int)  : nxs 2 102 7 [some (.inr (.inr 100)), some (.inr (.inr x1)), some (.inl x2), some (.inl x3), none, none] [] (M0 L V b) = some (true, 10, [some (.inr (.inr 100)), some (.inr (.inr x1)), some (.inl x2), some (.inl x3), some (.inl 0), none], [], M0 L V b) := by
  rfl

theorem B102_10 (L : Nat) (V : Mv) (b : Bool) (x1 : Nat) (x2 : Int) (x3 : Int) (x4 : Int) (g0 : in32 x4) (g1 : in32 x2) : nxs 3 102 10 [some (.inr (.inr 100)), some (.inr (.inr x1)), some (.inl x2), some (.inl x3), some (.inl x4), none] [] (M0 L V b) = some (true, cond (decide (x2 < x4)) 91 16, [some (.inr (.inr 100)), some (.inr (.inr x1)), some (.inl x2), some (.inl x3), some (.inl x4), none], [], M0 L V b) := by
  have f0 : (r32 x4 && r32 x2) = true := rr32_of g0 g1
  have hG : ((r32 x4 && r32 x2) && true) = true := an f0 rfl
  show some ((r32 x4 && r32 x2) && true, _) = _
  rw [hG]
  try rfl

theorem B102_16 (L : Nat) (V : Mv) (b : Bool) (x1 : Nat) (x2 : Int) (x3 : Int) (x4 : Int) (c_x1 : isK x1) (g0 : 0 ≤ x4 ∧ x4 < 8) (g1 : 0 ≤ V 104 (x4).toNat ∧ V 104 (x4).toNat < 8) (g2 : 0 ≤ x3 ∧ x3 < 8) (g3 : 0 ≤ ((V 101 (V 104 (x4).toNat).toNat) * 8) + (V 104 (x3).toNat) ∧ ((V 101 (V 104 (x4).toNat).toNat) * 8) + (V 104 (x3).toNat) < 64) (g4 : in32 x4) (g5 : in32 x2) : nxs 28 102 16 [some (.inr (.inr 100)), some (.inr (.inr x1)), some (.inl x2), some (.inl x3), some (.inl x4), none] [] (M0 L V b) = some (true, cond (!decide (x4 = x2)) 68 62, [some (.inr (.inr 100)), some (.inr (.inr x1)), some (.inl x2), some (.inl x3), some (.inl x4), some (.inl (V (x1 + 1) (((V 101 (V 104 (x4).toNat).toNat) * 8) + (V 104 (x3).toNat)).toNat))], [.inl ((x3 * 8) + x4), .inr (.inr 105)], M0 L V b) := by
  have f0 : (decide ((TT L x1).1 = 64 + 2) && decide (RR b x1 4 = some (x1 + 1))) = true := clr_of (isK_T c_x1) (isK_R4 c_x1)
  have f1 : gX (M0 L V b) 104 1 x4 = true := gx_of rfl g0
  have f2 : gX (M0 L V b) 101 1 (V 104 (x4).toNat) = true := gx_of rfl g1
  have f3 : gX (M0 L V b) 104 1 x3 = true := gx_of rfl g2
  have f4 : gX (M0 L V b) (x1 + 1) 1 (((V 101 (V 104 (x4).toNat).toNat) * 8) + (V 104 (x3).toNat)) = true := gx_of (show aT _ _ = _ from isK_A4 (L := L) c_x1) g3
  have f5 : (r32 x4 && r32 x2) = true := rr32_of g4 g5
  have hG : ((decide ((TT L x1).1 = 64 + 2) && decide (RR b x1 4 = some (x1 + 1))) && (gX (M0 L V b) 104 1 x4 && (gX (M0 L V b) 101 1 (V 104 (x4).toNat) && (gX (M0 L V b) 104 1 x3 && (gX (M0 L V b) (x1 + 1) 1 (((V 101 (V 104 (x4).toNat).toNat) * 8) + (V 104 (x3).toNat)) && ((r32 x4 && r32 x2) && true)))))) = true := an f0 (an f1 (an f2 (an f3 (an f4 (an f5 rfl)))))
  show some ((decide ((TT L x1).1 = 64 + 2) && decide (RR b x1 4 = some (x1 + 1))) && (gX (M0 L V b) 104 1 x4 && (gX (M0 L V b) 101 1 (V 104 (x4).toNat) && (gX (M0 L V b) 104 1 x3 && (gX (M0 L V b) (x1 + 1) 1 (((V 101 (V 104 (x4).toNat).toNat) * 8) + (V 104 (x3).toNat)) && ((r32 x4 && r32 x2) && true))))), _) = _
  rw [hG]
  try rfl

theorem B102_62 (L : Nat) (V : Mv) (b : Bool) (x1 : Nat) (x2 : Int) (x3 : Int) (x4 : Int) (x5 : Int) (s1 : Int) (g0 : in32 x5) : nxs 3 102 62 [some (.inr (.inr 100)), some (.inr (.inr x1)), some (.inl x2), some (.inl x3), some (.inl x4), some (.inl x5)] [.inl s1, .inr (.inr 119)] (M0 L V b) = some (true, 84, [some (.inr (.inr 100)), some (.inr (.inr x1)), some (.inl x2), some (.inl x3), some (.inl x4), some (.inl x5)], [.inr (.inl x5), .inl s1, .inr (.inr 119)], M0 L V b) := by
  have f0 : r32 x5 = true := r32_of g0
  have hG : (r32 x5 && true) = true := an f0 rfl
  show some (r32 x5 && true, _) = _
  rw [hG]
  try rfl

theorem B102_68 (L : Nat) (V : Mv) (b : Bool) (x1 : Nat) (x2 : Int) (x3 : Int) (x4 : Int) (x5 : Int) (s1 : Int) (g0 : in32 x4) (g1 : in32 x3) : nxs 3 102 68 [some (.inr (.inr 100)), some (.inr (.inr x1)), some (.inl x2), some (.inl x3), some (.inl x4), some (.inl x5)] [.inl s1, .inr (.inr 119)] (M0 L V b) = some (true, cond (!decide (x4 = x3)) 79 74, [some (.inr (.inr 100)), some (.inr (.inr x1)), some (.inl x2), some (.inl x3), some (.inl x4), some (.inl x5)], [.inl s1, .inr (.inr 119)], M0 L V b) := by
  have f0 : (r32 x4 && r32 x3) = true := rr32_of g0 g1
  have hG : ((r32 x4 && r32 x3) && true) = true := an f0 rfl
  show some ((r32 x4 && r32 x3) && true, _) = _
  rw [hG]
  try rfl

theorem B102_74 (L : Nat) (V : Mv) (b : Bool) (x1 : Nat) (x2 : Int) (x3 : Int) (x4 : Int) (x5 : Int) (s1 : Int)  : nxs 2 102 74 [some (.inr (.inr 100)), some (.inr (.inr x1)), some (.inl x2), some (.inl x3), some (.inl x4), some (.inl x5)] [.inl s1, .inr (.inr 119)] (M0 L V b) = some (true, 80, [some (.inr (.inr 100)), some (.inr (.inr x1)), some (.inl x2), some (.inl x3), some (.inl x4), some (.inl x5)], [.inl 10, .inl s1, .inr (.inr 119)], M0 L V b) := by
  rfl

theorem B102_79 (L : Nat) (V : Mv) (b : Bool) (x1 : Nat) (x2 : Int) (x3 : Int) (x4 : Int) (x5 : Int) (s1 : Int)  : nxs 1 102 79 [some (.inr (.inr 100)), some (.inr (.inr x1)), some (.inl x2), some (.inl x3), some (.inl x4), some (.inl x5)] [.inl s1, .inr (.inr 119)] (M0 L V b) = some (true, 80, [some (.inr (.inr 100)), some (.inr (.inr x1)), some (.inl x2), some (.inl x3), some (.inl x4), some (.inl x5)], [.inl 0, .inl s1, .inr (.inr 119)], M0 L V b) := by
  rfl

theorem B102_80 (L : Nat) (V : Mv) (b : Bool) (x1 : Nat) (x2 : Int) (x3 : Int) (x4 : Int) (x5 : Int) (s1 : Int) (s2 : Int) (g0 : in32 (s2 - x5)) : nxs 3 102 80 [some (.inr (.inr 100)), some (.inr (.inr x1)), some (.inl x2), some (.inl x3), some (.inl x4), some (.inl x5)] [.inl s2, .inl s1, .inr (.inr 119)] (M0 L V b) = some (true, 84, [some (.inr (.inr 100)), some (.inr (.inr x1)), some (.inl x2), some (.inl x3), some (.inl x4), some (.inl x5)], [.inr (.inl (s2 - x5)), .inl s1, .inr (.inr 119)], M0 L V b) := by
  have f0 : r32 (s2 - x5) = true := r32_of g0
  have hG : (r32 (s2 - x5) && true) = true := an f0 rfl
  show some (r32 (s2 - x5) && true, _) = _
  rw [hG]
  try rfl

theorem B102_84 (L : Nat) (V : Mv) (b : Bool) (x1 : Nat) (x2 : Int) (x3 : Int) (x4 : Int) (x5 : Int) (s1 : Int) (s2 : Int) (g0 : 0 ≤ s1 ∧ s1 < 8) : nxs 3 102 84 [some (.inr (.inr 100)), some (.inr (.inr x1)), some (.inl x2), some (.inl x3), some (.inl x4), some (.inl x5)] [.inr (.inl s2), .inl s1, .inr (.inr 119)] (M0 L V b) = some (true, 10, [some (.inr (.inr 100)), some (.inr (.inr x1)), some (.inl x2), some (.inl x3), some (.inl (x4 + 1)), some (.inl x5)], [], M0 L (uV V 119 (s1).toNat s2) b) := by
  have f0 : (gX (M0 L V b) 119 2 s1 && !Nat.beq 119 0) = true := gs_of (gx_of rfl g0) (by decide)
  have hG : ((gX (M0 L V b) 119 2 s1 && !Nat.beq 119 0) && true) = true := an f0 rfl
  show some ((gX (M0 L V b) 119 2 s1 && !Nat.beq 119 0) && true, _) = _
  rw [hG]
  try rfl

theorem B102_91 (L : Nat) (V : Mv) (b : Bool) (x1 : Nat) (x2 : Int) (x3 : Int) (x4 : Int)  : nxs 2 102 91 [some (.inr (.inr 100)), some (.inr (.inr x1)), some (.inl x2), some (.inl x3), some (.inl x4), none] [] (M0 L V b) = some (true, 2, [some (.inr (.inr 100)), some (.inr (.inr x1)), some (.inl x2), some (.inl (x3 + 1)), some (.inl x4), none], [], M0 L V b) := by
  rfl

-- 103: MendedOrNew$Chain.clearRow(IIIJ)V
theorem B103_0 (L : Nat) (V : Mv) (b : Bool) (x1 : Int) (x2 : Int) (x3 : Int) (x4 : Int) (g0 : 0 ≤ (x2 * 8) + x2 ∧ (x2 * 8) + x2 < 64) (g1 : 0 ≤ (x1 * 8) + x2 ∧ (x1 * 8) + x2 < 64) : nxs 22 103 0 [some (.inr (.inr 100)), some (.inl x1), some (.inl x2), some (.inl x3), some (.inr (.inl x4)), none, none, none, none, none, none, none, none] [] (M0 L V b) = some (true, 31, [some (.inr (.inr 100)), some (.inl x1), some (.inl x2), some (.inl x3), some (.inr (.inl x4)), none, some (.inr (.inl (V 105 ((x2 * 8) + x2).toNat))), none, some (.inr (.inl (V 105 ((x1 * 8) + x2).toNat))), none, some (.inl (x2 + 1)), none, none], [], M0 L V b) := by
  have f0 : gX (M0 L V b) 105 2 ((x2 * 8) + x2) = true := gx_of rfl g0
  have f1 : gX (M0 L V b) 105 2 ((x1 * 8) + x2) = true := gx_of rfl g1
  have hG : (gX (M0 L V b) 105 2 ((x2 * 8) + x2) && (gX (M0 L V b) 105 2 ((x1 * 8) + x2) && true)) = true := an f0 (an f1 rfl)
  show some (gX (M0 L V b) 105 2 ((x2 * 8) + x2) && (gX (M0 L V b) 105 2 ((x1 * 8) + x2) && true), _) = _
  rw [hG]
  try rfl

theorem B103_31 (L : Nat) (V : Mv) (b : Bool) (x1 : Int) (x2 : Int) (x3 : Int) (x4 : Int) (x6 : Int) (x8 : Int) (x10 : Int) (g0 : in32 x10) (g1 : in32 x3) : nxs 3 103 31 [some (.inr (.inr 100)), some (.inl x1), some (.inl x2), some (.inl x3), some (.inr (.inl x4)), none, some (.inr (.inl x6)), none, some (.inr (.inl x8)), none, some (.inl x10), none, none] [] (M0 L V b) = some (true, cond (decide (x3 < x10)) 100 37, [some (.inr (.inr 100)), some (.inl x1), some (.inl x2), some (.inl x3), some (.inr (.inl x4)), none, some (.inr (.inl x6)), none, some (.inr (.inl x8)), none, some (.inl x10), none, none], [], M0 L V b) := by
  have f0 : (r32 x10 && r32 x3) = true := rr32_of g0 g1
  have hG : ((r32 x10 && r32 x3) && true) = true := an f0 rfl
  show some ((r32 x10 && r32 x3) && true, _) = _
  rw [hG]
  try rfl

theorem B103_37 (L : Nat) (V : Mv) (b : Bool) (x1 : Int) (x2 : Int) (x3 : Int) (x4 : Int) (x6 : Int) (x8 : Int) (x10 : Int) (g0 : in64 x4) (g1 : in32 (cmpI x4 0)) : nxs 4 103 37 [some (.inr (.inr 100)), some (.inl x1), some (.inl x2), some (.inl x3), some (.inr (.inl x4)), none, some (.inr (.inl x6)), none, some (.inr (.inl x8)), none, some (.inl x10), none, none] [] (M0 L V b) = some (true, cond (decide (cmpI x4 0 = 0)) 100 44, [some (.inr (.inr 100)), some (.inl x1), some (.inl x2), some (.inl x3), some (.inr (.inl x4)), none, some (.inr (.inl x6)), none, some (.inr (.inl x8)), none, some (.inl x10), none, none], [], M0 L V b) := by
  have f0 : (r64 x4 && r64 0) = true := rr64_of g0 (by decide)
  have f1 : r32 (cmpI x4 0) = true := r32_of g1
  have hG : ((r64 x4 && r64 0) && (r32 (cmpI x4 0) && true)) = true := an f0 (an f1 rfl)
  show some ((r64 x4 && r64 0) && (r32 (cmpI x4 0) && true), _) = _
  rw [hG]
  try rfl

theorem B103_44 (L : Nat) (V : Mv) (b : Bool) (x1 : Int) (x2 : Int) (x3 : Int) (x4 : Int) (x6 : Int) (x8 : Int) (x10 : Int) (g0 : 0 ≤ (x1 * 8) + x10 ∧ (x1 * 8) + x10 < 64) (g1 : 0 ≤ (x2 * 8) + x10 ∧ (x2 * 8) + x10 < 64) (g2 : in64 (((V 105 ((x1 * 8) + x10).toNat) * x6) - (x8 * (V 105 ((x2 * 8) + x10).toNat)))) (g3 : in64 x4) (g4 : ¬ x4 = 0) : nxs 35 103 44 [some (.inr (.inr 100)), some (.inl x1), some (.inl x2), some (.inl x3), some (.inr (.inl x4)), none, some (.inr (.inl x6)), none, some (.inr (.inl x8)), none, some (.inl x10), none, none] [] (M0 L V b) = some (true, 31, [some (.inr (.inr 100)), some (.inl x1), some (.inl x2), some (.inl x3), some (.inr (.inl x4)), none, some (.inr (.inl x6)), none, some (.inr (.inl x8)), none, some (.inl (x10 + 1)), some (.inr (.inl (((V 105 ((x1 * 8) + x10).toNat) * x6) - (x8 * (V 105 ((x2 * 8) + x10).toNat))))), none], [], M0 L (uV V 105 ((x1 * 8) + x10).toNat (Int.tdiv (((V 105 ((x1 * 8) + x10).toNat) * x6) - (x8 * (V 105 ((x2 * 8) + x10).toNat))) x4)) b) := by
  have f0 : gX (M0 L V b) 105 2 ((x1 * 8) + x10) = true := gx_of rfl g0
  have f1 : gX (M0 L V b) 105 2 ((x2 * 8) + x10) = true := gx_of rfl g1
  have f2 : gL (((V 105 ((x1 * 8) + x10).toNat) * x6) - (x8 * (V 105 ((x2 * 8) + x10).toNat))) x4 = true := gL_of g2 g3 g4
  have f3 : (gX (M0 L V b) 105 2 ((x1 * 8) + x10) && !Nat.beq 105 0) = true := gs_of (gx_of rfl g0) (by decide)
  have hG : (gX (M0 L V b) 105 2 ((x1 * 8) + x10) && (gX (M0 L V b) 105 2 ((x2 * 8) + x10) && (gL (((V 105 ((x1 * 8) + x10).toNat) * x6) - (x8 * (V 105 ((x2 * 8) + x10).toNat))) x4 && ((gX (M0 L V b) 105 2 ((x1 * 8) + x10) && !Nat.beq 105 0) && true)))) = true := an f0 (an f1 (an f2 (an f3 rfl)))
  show some (gX (M0 L V b) 105 2 ((x1 * 8) + x10) && (gX (M0 L V b) 105 2 ((x2 * 8) + x10) && (gL (((V 105 ((x1 * 8) + x10).toNat) * x6) - (x8 * (V 105 ((x2 * 8) + x10).toNat))) x4 && ((gX (M0 L V b) 105 2 ((x1 * 8) + x10) && !Nat.beq 105 0) && true))), _) = _
  rw [hG]
  try rfl

-- 105: MendedOrNew$BestRule.forget()V
theorem B105_0 (L : Nat) (V : Mv) (b : Bool) (x0 : Nat) (c_x0 : isB x0) : nxs 3 105 0 [some (.inr (.inr x0))] [] (M0 L V b) = some (true, 5, [some (.inr (.inr x0))], [], M0 L (uV V x0 6 0) b) := by
  have f0 : (decide ((TT L x0).1 = 64 + 7) && decide ((3 : Nat) = 0 ∨ (3 : Nat) = 3 ∧ ((0 : Int) = 0 ∨ (0 : Int) = 1))) = true := an (cls_of (isB_T c_x0)) (by decide)
  have hG : ((decide ((TT L x0).1 = 64 + 7) && decide ((3 : Nat) = 0 ∨ (3 : Nat) = 3 ∧ ((0 : Int) = 0 ∨ (0 : Int) = 1))) && true) = true := an f0 rfl
  show some ((decide ((TT L x0).1 = 64 + 7) && decide ((3 : Nat) = 0 ∨ (3 : Nat) = 3 ∧ ((0 : Int) = 0 ∨ (0 : Int) = 1))) && true, _) = _
  rw [hG]
  try rfl

-- 106: MendedOrNew$BestRule.find(LMendedOrNew$Kind;LMendedOrNew$Chain;)V
theorem B106_0 (L : Nat) (V : Mv) (b : Bool) (x0 : Nat) (x1 : Nat) (c_x0 : isB x0) (g0 : in32 (V x0 6)) : nxs 3 106 0 [some (.inr (.inr x0)), some (.inr (.inr x1)), some (.inr (.inr 100)), none, none, none, none] [] (M0 L V b) = some (true, cond (decide (V x0 6 = 0)) 8 7, [some (.inr (.inr x0)), some (.inr (.inr x1)), some (.inr (.inr 100)), none, none, none, none], [], M0 L V b) := by
  have f0 : decide ((TT L x0).1 = 64 + 7) = true := cls_of (isB_T c_x0)
  have f1 : r32 (V x0 6) = true := r32_of g0
  have hG : (decide ((TT L x0).1 = 64 + 7) && (r32 (V x0 6) && true)) = true := an f0 (an f1 rfl)
  show some (decide ((TT L x0).1 = 64 + 7) && (r32 (V x0 6) && true), _) = _
  rw [hG]
  try rfl

theorem B106_8 (L : Nat) (V : Mv) (b : Bool) (x0 : Nat) (x1 : Nat) (c_x0 : isB x0) : nxs 8 106 8 [some (.inr (.inr x0)), some (.inr (.inr x1)), some (.inr (.inr 100)), none, none, none, none] [] (M0 L V b) = some (true, 21, [some (.inr (.inr x0)), some (.inr (.inr x1)), some (.inr (.inr 100)), none, none, none, none], [.inr (.inr x1), .inr (.inr x0)], M0 L (uV (uV V x0 6 1) x0 0 (-9)) b) := by
  have f0 : (decide ((TT L x0).1 = 64 + 7) && decide ((3 : Nat) = 0 ∨ (3 : Nat) = 3 ∧ ((1 : Int) = 0 ∨ (1 : Int) = 1))) = true := an (cls_of (isB_T c_x0)) (by decide)
  have f1 : (decide ((TT L x0).1 = 64 + 7) && decide ((0 : Nat) = 0 ∨ (0 : Nat) = 3 ∧ (((-9) : Int) = 0 ∨ ((-9) : Int) = 1))) = true := an (cls_of (isB_T c_x0)) (decide_eq_true (Or.inl rfl))
  have hG : ((decide ((TT L x0).1 = 64 + 7) && decide ((3 : Nat) = 0 ∨ (3 : Nat) = 3 ∧ ((1 : Int) = 0 ∨ (1 : Int) = 1))) && ((decide ((TT L x0).1 = 64 + 7) && decide ((0 : Nat) = 0 ∨ (0 : Nat) = 3 ∧ (((-9) : Int) = 0 ∨ ((-9) : Int) = 1))) && true)) = true := an f0 (an f1 rfl)
  show some ((decide ((TT L x0).1 = 64 + 7) && decide ((3 : Nat) = 0 ∨ (3 : Nat) = 3 ∧ ((1 : Int) = 0 ∨ (1 : Int) = 1))) && ((decide ((TT L x0).1 = 64 + 7) && decide ((0 : Nat) = 0 ∨ (0 : Nat) = 3 ∧ (((-9) : Int) = 0 ∨ ((-9) : Int) = 1))) && true), _) = _
  rw [hG]
  try rfl

theorem B106_24 (L : Nat) (V : Mv) (b : Bool) (x0 : Nat) (x1 : Nat)  : nxs 1 106 24 [some (.inr (.inr x0)), some (.inr (.inr x1)), some (.inr (.inr 100)), none, none, none, none] [] (M0 L V b) = some (true, 25, [some (.inr (.inr x0)), some (.inr (.inr x1)), some (.inr (.inr 100)), none, none, none, none], [.inr (.inr x1)], M0 L V b) := by
  rfl

theorem B106_28 (L : Nat) (V : Mv) (b : Bool) (x0 : Nat) (x1 : Nat) (s0 : Int) (g0 : in64 s0) : nxs 5 106 28 [some (.inr (.inr x0)), some (.inr (.inr x1)), some (.inr (.inr 100)), none, none, none, none] [.inr (.inl s0)] (M0 L V b) = some (true, 38, [some (.inr (.inr x0)), some (.inr (.inr x1)), some (.inr (.inr 100)), some (.inr (.inl (cond (decide (1024 < s0)) 1024 s0))), none, some (.inl 0), none], [], M0 L V b) := by
  have f0 : (r64 s0 && (r64 1024 && true)) = true := an (r64_of g0) (an (r64_of (by decide)) rfl)
  have hG : ((r64 s0 && (r64 1024 && true)) && true) = true := an f0 rfl
  show some ((r64 s0 && (r64 1024 && true)) && true, _) = _
  rw [hG]
  try rfl

theorem B106_38 (L : Nat) (V : Mv) (b : Bool) (x0 : Nat) (x1 : Nat) (x3 : Int) (x5 : Int) (g0 : in32 x5) (g1 : in64 x5) (g2 : in64 x3) (g3 : in32 (cmpI x5 x3)) : nxs 5 106 38 [some (.inr (.inr x0)), some (.inr (.inr x1)), some (.inr (.inr 100)), some (.inr (.inl x3)), none, some (.inl x5), none] [] (M0 L V b) = some (true, cond (decide (0 ≤ cmpI x5 x3)) 157 46, [some (.inr (.inr x0)), some (.inr (.inr x1)), some (.inr (.inr 100)), some (.inr (.inl x3)), none, some (.inl x5), none], [], M0 L V b) := by
  have f0 : r32 x5 = true := r32_of g0
  have f1 : (r64 x5 && r64 x3) = true := rr64_of g1 g2
  have f2 : r32 (cmpI x5 x3) = true := r32_of g3
  have hG : (r32 x5 && ((r64 x5 && r64 x3) && (r32 (cmpI x5 x3) && true))) = true := an f0 (an f1 (an f2 rfl))
  show some (r32 x5 && ((r64 x5 && r64 x3) && (r32 (cmpI x5 x3) && true)), _) = _
  rw [hG]
  try rfl

theorem B106_46 (L : Nat) (V : Mv) (b : Bool) (x0 : Nat) (x1 : Nat) (x3 : Int) (x5 : Int)  : nxs 3 106 46 [some (.inr (.inr x0)), some (.inr (.inr x1)), some (.inr (.inr 100)), some (.inr (.inl x3)), none, some (.inl x5), none] [] (M0 L V b) = some (true, 50, [some (.inr (.inr x0)), some (.inr (.inr x1)), some (.inr (.inr 100)), some (.inr (.inl x3)), none, some (.inl x5), none], [.inl x5, .inr (.inr x1), .inr (.inr x0)], M0 L V b) := by
  rfl

theorem B106_53 (L : Nat) (V : Mv) (b : Bool) (x0 : Nat) (x1 : Nat) (x3 : Int) (x5 : Int) (s0 : Int) (c_x0 : isB x0) : nxs 5 106 53 [some (.inr (.inr x0)), some (.inr (.inr x1)), some (.inr (.inr 100)), some (.inr (.inl x3)), none, some (.inl x5), none] [.inl s0] (M0 L V b) = some (true, 61, [some (.inr (.inr x0)), some (.inr (.inr x1)), some (.inr (.inr 100)), some (.inr (.inl x3)), none, some (.inl x5), some (.inl s0)], [.inr (.inr (x0 + 3)), .inr (.inr x1), .inr (.inr 100)], M0 L V b) := by
  have f0 : (decide ((TT L x0).1 = 64 + 7) && decide (RR b x0 3 = some (x0 + 3))) = true := clr_of (isB_T c_x0) (isB_R3 c_x0)
  have hG : ((decide ((TT L x0).1 = 64 + 7) && decide (RR b x0 3 = some (x0 + 3))) && true) = true := an f0 rfl
  show some ((decide ((TT L x0).1 = 64 + 7) && decide (RR b x0 3 = some (x0 + 3))) && true, _) = _
  rw [hG]
  try rfl

theorem B106_64 (L : Nat) (V : Mv) (b : Bool) (x0 : Nat) (x1 : Nat) (x3 : Int) (x5 : Int) (x6 : Int) (s0 : Int) (g0 : in32 s0) : nxs 1 106 64 [some (.inr (.inr x0)), some (.inr (.inr x1)), some (.inr (.inr 100)), some (.inr (.inl x3)), none, some (.inl x5), some (.inl x6)] [.inl s0] (M0 L V b) = some (true, cond (decide (s0 = 0)) 151 67, [some (.inr (.inr x0)), some (.inr (.inr x1)), some (.inr (.inr 100)), some (.inr (.inl x3)), none, some (.inl x5), some (.inl x6)], [], M0 L V b) := by
  have f0 : r32 s0 = true := r32_of g0
  have hG : (r32 s0 && true) = true := an f0 rfl
  show some (r32 s0 && true, _) = _
  rw [hG]
  try rfl

theorem B106_67 (L : Nat) (V : Mv) (b : Bool) (x0 : Nat) (x1 : Nat) (x3 : Int) (x5 : Int) (x6 : Int)  : nxs 3 106 67 [some (.inr (.inr x0)), some (.inr (.inr x1)), some (.inr (.inr 100)), some (.inr (.inl x3)), none, some (.inl x5), some (.inl x6)] [] (M0 L V b) = some (true, 70, [some (.inr (.inr x0)), some (.inr (.inr x1)), some (.inr (.inr 100)), some (.inr (.inl x3)), none, some (.inl x5), some (.inl x6)], [.inr (.inr 100), .inr (.inr x1), .inr (.inr x0)], M0 L V b) := by
  rfl

theorem B106_76 (L : Nat) (V : Mv) (b : Bool) (x0 : Nat) (x1 : Nat) (x3 : Int) (x5 : Int) (x6 : Int) (s0 : Int) (g0 : in32 s0) : nxs 1 106 76 [some (.inr (.inr x0)), some (.inr (.inr x1)), some (.inr (.inr 100)), some (.inr (.inl x3)), none, some (.inl x5), some (.inl x6)] [.inl s0] (M0 L V b) = some (true, cond (!decide (s0 = 0)) 151 79, [some (.inr (.inr x0)), some (.inr (.inr x1)), some (.inr (.inr 100)), some (.inr (.inl x3)), none, some (.inl x5), some (.inl x6)], [], M0 L V b) := by
  have f0 : r32 s0 = true := r32_of g0
  have hG : (r32 s0 && true) = true := an f0 rfl
  show some (r32 s0 && true, _) = _
  rw [hG]
  try rfl

theorem B106_79 (L : Nat) (V : Mv) (b : Bool) (x0 : Nat) (x1 : Nat) (x3 : Int) (x5 : Int) (x6 : Int) (c_x0 : isB x0) : nxs 4 106 79 [some (.inr (.inr x0)), some (.inr (.inr x1)), some (.inr (.inr 100)), some (.inr (.inl x3)), none, some (.inl x5), some (.inl x6)] [] (M0 L V b) = some (true, 85, [some (.inr (.inr x0)), some (.inr (.inr x1)), some (.inr (.inr 100)), some (.inr (.inl x3)), none, some (.inl x5), some (.inl x6)], [.inr (.inr (x0 + 2)), .inr (.inr x1), .inr (.inr 100)], M0 L V b) := by
  have f0 : (decide ((TT L x0).1 = 64 + 7) && decide (RR b x0 2 = some (x0 + 2))) = true := clr_of (isB_T c_x0) (isB_R2 c_x0)
  have hG : ((decide ((TT L x0).1 = 64 + 7) && decide (RR b x0 2 = some (x0 + 2))) && true) = true := an f0 rfl
  show some ((decide ((TT L x0).1 = 64 + 7) && decide (RR b x0 2 = some (x0 + 2))) && true, _) = _
  rw [hG]
  try rfl

theorem B106_88 (L : Nat) (V : Mv) (b : Bool) (x0 : Nat) (x1 : Nat) (x3 : Int) (x5 : Int) (x6 : Int) (s0 : Int) (g0 : in32 s0) : nxs 1 106 88 [some (.inr (.inr x0)), some (.inr (.inr x1)), some (.inr (.inr 100)), some (.inr (.inl x3)), none, some (.inl x5), some (.inl x6)] [.inl s0] (M0 L V b) = some (true, cond (decide (s0 = 0)) 151 91, [some (.inr (.inr x0)), some (.inr (.inr x1)), some (.inr (.inr 100)), some (.inr (.inl x3)), none, some (.inl x5), some (.inl x6)], [], M0 L V b) := by
  have f0 : r32 s0 = true := r32_of g0
  have hG : (r32 s0 && true) = true := an f0 rfl
  show some (r32 s0 && true, _) = _
  rw [hG]
  try rfl

theorem B106_91 (L : Nat) (V : Mv) (b : Bool) (x0 : Nat) (x1 : Nat) (x3 : Int) (x5 : Int) (x6 : Int) (c_x0 : isB x0) (g0 : in32 (V x0 0)) : nxs 4 106 91 [some (.inr (.inr x0)), some (.inr (.inr x1)), some (.inr (.inr 100)), some (.inr (.inl x3)), none, some (.inl x5), some (.inl x6)] [] (M0 L V b) = some (true, cond (decide (V x0 0 = (-9))) 124 100, [some (.inr (.inr x0)), some (.inr (.inr x1)), some (.inr (.inr 100)), some (.inr (.inl x3)), none, some (.inl x5), some (.inl x6)], [], M0 L V b) := by
  have f0 : decide ((TT L x0).1 = 64 + 7) = true := cls_of (isB_T c_x0)
  have f1 : (r32 (V x0 0) && r32 (-9)) = true := rr32_of g0 (by decide)
  have hG : (decide ((TT L x0).1 = 64 + 7) && ((r32 (V x0 0) && r32 (-9)) && true)) = true := an f0 (an f1 rfl)
  show some (decide ((TT L x0).1 = 64 + 7) && ((r32 (V x0 0) && r32 (-9)) && true), _) = _
  rw [hG]
  try rfl

theorem B106_100 (L : Nat) (V : Mv) (b : Bool) (x0 : Nat) (x1 : Nat) (x3 : Int) (x5 : Int) (x6 : Int) (c_x0 : isB x0) : nxs 8 106 100 [some (.inr (.inr x0)), some (.inr (.inr x1)), some (.inr (.inr 100)), some (.inr (.inl x3)), none, some (.inl x5), some (.inl x6)] [] (M0 L V b) = some (true, 118, [some (.inr (.inr x0)), some (.inr (.inr x1)), some (.inr (.inr 100)), some (.inr (.inl x3)), none, some (.inl x5), some (.inl x6)], [.inr (.inl (V (x0 + 1) 1)), .inr (.inl (V (x0 + 1) 0)), .inr (.inr (x0 + 2))], M0 L V b) := by
  have f0 : (decide ((TT L x0).1 = 64 + 7) && decide (RR b x0 2 = some (x0 + 2))) = true := clr_of (isB_T c_x0) (isB_R2 c_x0)
  have f1 : (decide ((TT L x0).1 = 64 + 7) && decide (RR b x0 1 = some (x0 + 1))) = true := clr_of (isB_T c_x0) (isB_R1 c_x0)
  have f2 : decide ((TT L (x0 + 1)).1 = 64 + 8) = true := cls_of (isF_T (isB_C1 c_x0))
  have f3 : (decide ((TT L x0).1 = 64 + 7) && decide (RR b x0 1 = some (x0 + 1))) = true := clr_of (isB_T c_x0) (isB_R1 c_x0)
  have f4 : decide ((TT L (x0 + 1)).1 = 64 + 8) = true := cls_of (isF_T (isB_C1 c_x0))
  have hG : ((decide ((TT L x0).1 = 64 + 7) && decide (RR b x0 2 = some (x0 + 2))) && ((decide ((TT L x0).1 = 64 + 7) && decide (RR b x0 1 = some (x0 + 1))) && (decide ((TT L (x0 + 1)).1 = 64 + 8) && ((decide ((TT L x0).1 = 64 + 7) && decide (RR b x0 1 = some (x0 + 1))) && (decide ((TT L (x0 + 1)).1 = 64 + 8) && true))))) = true := an f0 (an f1 (an f2 (an f3 (an f4 rfl))))
  show some ((decide ((TT L x0).1 = 64 + 7) && decide (RR b x0 2 = some (x0 + 2))) && ((decide ((TT L x0).1 = 64 + 7) && decide (RR b x0 1 = some (x0 + 1))) && (decide ((TT L (x0 + 1)).1 = 64 + 8) && ((decide ((TT L x0).1 = 64 + 7) && decide (RR b x0 1 = some (x0 + 1))) && (decide ((TT L (x0 + 1)).1 = 64 + 8) && true)))), _) = _
  rw [hG]
  try rfl

theorem B106_121 (L : Nat) (V : Mv) (b : Bool) (x0 : Nat) (x1 : Nat) (x3 : Int) (x5 : Int) (x6 : Int) (s0 : Int) (g0 : in32 s0) : nxs 1 106 121 [some (.inr (.inr x0)), some (.inr (.inr x1)), some (.inr (.inr 100)), some (.inr (.inl x3)), none, some (.inl x5), some (.inl x6)] [.inl s0] (M0 L V b) = some (true, cond (decide (0 ≤ s0)) 151 124, [some (.inr (.inr x0)), some (.inr (.inr x1)), some (.inr (.inr 100)), some (.inr (.inl x3)), none, some (.inl x5), some (.inl x6)], [], M0 L V b) := by
  have f0 : r32 s0 = true := r32_of g0
  have hG : (r32 s0 && true) = true := an f0 rfl
  show some (r32 s0 && true, _) = _
  rw [hG]
  try rfl

theorem B106_124 (L : Nat) (V : Mv) (b : Bool) (x0 : Nat) (x1 : Nat) (x3 : Int) (x5 : Int) (x6 : Int) (c_x0 : isB x0) : nxs 11 106 124 [some (.inr (.inr x0)), some (.inr (.inr x1)), some (.inr (.inr 100)), some (.inr (.inl x3)), none, some (.inl x5), some (.inl x6)] [] (M0 L V b) = some (true, 148, [some (.inr (.inr x0)), some (.inr (.inr x1)), some (.inr (.inr 100)), some (.inr (.inl x3)), none, some (.inl x5), some (.inl x6)], [.inr (.inl ((uV V x0 0 x6) (x0 + 2) 1)), .inr (.inl ((uV V x0 0 x6) (x0 + 2) 0)), .inr (.inr (x0 + 1))], M0 L (uV V x0 0 x6) b) := by
  have f0 : (decide ((TT L x0).1 = 64 + 7) && decide ((0 : Nat) = 0 ∨ (0 : Nat) = 3 ∧ ((x6 : Int) = 0 ∨ (x6 : Int) = 1))) = true := an (cls_of (isB_T c_x0)) (decide_eq_true (Or.inl rfl))
  have f1 : (decide ((TT L x0).1 = 64 + 7) && decide (RR b x0 1 = some (x0 + 1))) = true := clr_of (isB_T c_x0) (isB_R1 c_x0)
  have f2 : (decide ((TT L x0).1 = 64 + 7) && decide (RR b x0 2 = some (x0 + 2))) = true := clr_of (isB_T c_x0) (isB_R2 c_x0)
  have f3 : decide ((TT L (x0 + 2)).1 = 64 + 8) = true := cls_of (isF_T (isB_C2 c_x0))
  have f4 : (decide ((TT L x0).1 = 64 + 7) && decide (RR b x0 2 = some (x0 + 2))) = true := clr_of (isB_T c_x0) (isB_R2 c_x0)
  have f5 : decide ((TT L (x0 + 2)).1 = 64 + 8) = true := cls_of (isF_T (isB_C2 c_x0))
  have hG : ((decide ((TT L x0).1 = 64 + 7) && decide ((0 : Nat) = 0 ∨ (0 : Nat) = 3 ∧ ((x6 : Int) = 0 ∨ (x6 : Int) = 1))) && ((decide ((TT L x0).1 = 64 + 7) && decide (RR b x0 1 = some (x0 + 1))) && ((decide ((TT L x0).1 = 64 + 7) && decide (RR b x0 2 = some (x0 + 2))) && (decide ((TT L (x0 + 2)).1 = 64 + 8) && ((decide ((TT L x0).1 = 64 + 7) && decide (RR b x0 2 = some (x0 + 2))) && (decide ((TT L (x0 + 2)).1 = 64 + 8) && true)))))) = true := an f0 (an f1 (an f2 (an f3 (an f4 (an f5 rfl)))))
  show some ((decide ((TT L x0).1 = 64 + 7) && decide ((0 : Nat) = 0 ∨ (0 : Nat) = 3 ∧ ((x6 : Int) = 0 ∨ (x6 : Int) = 1))) && ((decide ((TT L x0).1 = 64 + 7) && decide (RR b x0 1 = some (x0 + 1))) && ((decide ((TT L x0).1 = 64 + 7) && decide (RR b x0 2 = some (x0 + 2))) && (decide ((TT L (x0 + 2)).1 = 64 + 8) && ((decide ((TT L x0).1 = 64 + 7) && decide (RR b x0 2 = some (x0 + 2))) && (decide ((TT L (x0 + 2)).1 = 64 + 8) && true))))), _) = _
  rw [hG]
  try rfl

theorem B106_151 (L : Nat) (V : Mv) (b : Bool) (x0 : Nat) (x1 : Nat) (x3 : Int) (x5 : Int) (x6 : Int)  : nxs 2 106 151 [some (.inr (.inr x0)), some (.inr (.inr x1)), some (.inr (.inr 100)), some (.inr (.inl x3)), none, some (.inl x5), some (.inl x6)] [] (M0 L V b) = some (true, 38, [some (.inr (.inr x0)), some (.inr (.inr x1)), some (.inr (.inr 100)), some (.inr (.inl x3)), none, some (.inl (x5 + 1)), some (.inl x6)], [], M0 L V b) := by
  rfl

-- 107: MendedOrNew$BestRule.listChoices(LMendedOrNew$Kind;)V
theorem B107_0 (L : Nat) (V : Mv) (b : Bool) (x0 : Nat) (x1 : Nat) (c_x0 : isB x0) : nxs 10 107 0 [some (.inr (.inr x0)), some (.inr (.inr x1)), none] [] (M0 L V b) = some (true, 14, [some (.inr (.inr x0)), some (.inr (.inr x1)), some (.inl 0)], [], M0 L (uV (uV V x0 5 1) (x0 + 4) (0 : Int).toNat 0) b) := by
  have f0 : (decide ((TT L x0).1 = 64 + 7) && decide ((0 : Nat) = 0 ∨ (0 : Nat) = 3 ∧ ((1 : Int) = 0 ∨ (1 : Int) = 1))) = true := an (cls_of (isB_T c_x0)) (decide_eq_true (Or.inl rfl))
  have f1 : (decide ((TT L x0).1 = 64 + 7) && decide (RR b x0 4 = some (x0 + 4))) = true := clr_of (isB_T c_x0) (isB_R4 c_x0)
  have f2 : (gX (M0 L (uV V x0 5 1) b) (x0 + 4) 1 0 && !Nat.beq (x0 + 4) 0) = true := gs_of (gx_of (show aT _ _ = _ from isB_A4 (L := L) c_x0) (by decide)) (by omega)
  have hG : ((decide ((TT L x0).1 = 64 + 7) && decide ((0 : Nat) = 0 ∨ (0 : Nat) = 3 ∧ ((1 : Int) = 0 ∨ (1 : Int) = 1))) && ((decide ((TT L x0).1 = 64 + 7) && decide (RR b x0 4 = some (x0 + 4))) && ((gX (M0 L (uV V x0 5 1) b) (x0 + 4) 1 0 && !Nat.beq (x0 + 4) 0) && true))) = true := an f0 (an f1 (an f2 rfl))
  show some ((decide ((TT L x0).1 = 64 + 7) && decide ((0 : Nat) = 0 ∨ (0 : Nat) = 3 ∧ ((1 : Int) = 0 ∨ (1 : Int) = 1))) && ((decide ((TT L x0).1 = 64 + 7) && decide (RR b x0 4 = some (x0 + 4))) && ((gX (M0 L (uV V x0 5 1) b) (x0 + 4) 1 0 && !Nat.beq (x0 + 4) 0) && true)), _) = _
  rw [hG]
  try rfl

theorem B107_14 (L : Nat) (V : Mv) (b : Bool) (x0 : Nat) (x1 : Nat) (x2 : Int) (g0 : in32 x2) : nxs 3 107 14 [some (.inr (.inr x0)), some (.inr (.inr x1)), some (.inl x2)] [] (M0 L V b) = some (true, cond (decide (4 ≤ x2)) 55 19, [some (.inr (.inr x0)), some (.inr (.inr x1)), some (.inl x2)], [], M0 L V b) := by
  have f0 : (r32 x2 && r32 4) = true := rr32_of g0 (by decide)
  have hG : ((r32 x2 && r32 4) && true) = true := an f0 rfl
  show some ((r32 x2 && r32 4) && true, _) = _
  rw [hG]
  try rfl

theorem B107_19 (L : Nat) (V : Mv) (b : Bool) (x0 : Nat) (x1 : Nat) (x2 : Int)  : nxs 2 107 19 [some (.inr (.inr x0)), some (.inr (.inr x1)), some (.inl x2)] [] (M0 L V b) = some (true, 21, [some (.inr (.inr x0)), some (.inr (.inr x1)), some (.inl x2)], [.inl x2, .inr (.inr x1)], M0 L V b) := by
  rfl

theorem B107_24 (L : Nat) (V : Mv) (b : Bool) (x0 : Nat) (x1 : Nat) (x2 : Int) (s0 : Int) (g0 : in32 s0) : nxs 1 107 24 [some (.inr (.inr x0)), some (.inr (.inr x1)), some (.inl x2)] [.inl s0] (M0 L V b) = some (true, cond (decide (s0 = 0)) 49 27, [some (.inr (.inr x0)), some (.inr (.inr x1)), some (.inl x2)], [], M0 L V b) := by
  have f0 : r32 s0 = true := r32_of g0
  have hG : (r32 s0 && true) = true := an f0 rfl
  show some (r32 s0 && true, _) = _
  rw [hG]
  try rfl

theorem B107_27 (L : Nat) (V : Mv) (b : Bool) (x0 : Nat) (x1 : Nat) (x2 : Int) (c_x0 : isB x0) (g0 : 0 ≤ V x0 5 ∧ V x0 5 < 5) : nxs 14 107 27 [some (.inr (.inr x0)), some (.inr (.inr x1)), some (.inl x2)] [] (M0 L V b) = some (true, 49, [some (.inr (.inr x0)), some (.inr (.inr x1)), some (.inl x2)], [], M0 L (uV (uV V (x0 + 4) (V x0 5).toNat (x2 + 1)) x0 5 (((uV V (x0 + 4) (V x0 5).toNat (x2 + 1)) x0 5) + 1)) b) := by
  have f0 : (decide ((TT L x0).1 = 64 + 7) && decide (RR b x0 4 = some (x0 + 4))) = true := clr_of (isB_T c_x0) (isB_R4 c_x0)
  have f1 : decide ((TT L x0).1 = 64 + 7) = true := cls_of (isB_T c_x0)
  have f2 : (gX (M0 L V b) (x0 + 4) 1 (V x0 5) && !Nat.beq (x0 + 4) 0) = true := gs_of (gx_of (show aT _ _ = _ from isB_A4 (L := L) c_x0) g0) (by omega)
  have f3 : decide ((TT L x0).1 = 64 + 7) = true := cls_of (isB_T c_x0)
  have f4 : (decide ((TT L x0).1 = 64 + 7) && decide ((0 : Nat) = 0 ∨ (0 : Nat) = 3 ∧ ((((uV V (x0 + 4) (V x0 5).toNat (x2 + 1)) x0 5) + 1 : Int) = 0 ∨ (((uV V (x0 + 4) (V x0 5).toNat (x2 + 1)) x0 5) + 1 : Int) = 1))) = true := an (cls_of (isB_T c_x0)) (decide_eq_true (Or.inl rfl))
  have hG : ((decide ((TT L x0).1 = 64 + 7) && decide (RR b x0 4 = some (x0 + 4))) && (decide ((TT L x0).1 = 64 + 7) && ((gX (M0 L V b) (x0 + 4) 1 (V x0 5) && !Nat.beq (x0 + 4) 0) && (decide ((TT L x0).1 = 64 + 7) && ((decide ((TT L x0).1 = 64 + 7) && decide ((0 : Nat) = 0 ∨ (0 : Nat) = 3 ∧ ((((uV V (x0 + 4) (V x0 5).toNat (x2 + 1)) x0 5) + 1 : Int) = 0 ∨ (((uV V (x0 + 4) (V x0 5).toNat (x2 + 1)) x0 5) + 1 : Int) = 1))) && true))))) = true := an f0 (an f1 (an f2 (an f3 (an f4 rfl))))
  show some ((decide ((TT L x0).1 = 64 + 7) && decide (RR b x0 4 = some (x0 + 4))) && (decide ((TT L x0).1 = 64 + 7) && ((gX (M0 L V b) (x0 + 4) 1 (V x0 5) && !Nat.beq (x0 + 4) 0) && (decide ((TT L x0).1 = 64 + 7) && ((decide ((TT L x0).1 = 64 + 7) && decide ((0 : Nat) = 0 ∨ (0 : Nat) = 3 ∧ ((((uV V (x0 + 4) (V x0 5).toNat (x2 + 1)) x0 5) + 1 : Int) = 0 ∨ (((uV V (x0 + 4) (V x0 5).toNat (x2 + 1)) x0 5) + 1 : Int) = 1))) && true)))), _) = _
  rw [hG]
  try rfl

theorem B107_49 (L : Nat) (V : Mv) (b : Bool) (x0 : Nat) (x1 : Nat) (x2 : Int)  : nxs 2 107 49 [some (.inr (.inr x0)), some (.inr (.inr x1)), some (.inl x2)] [] (M0 L V b) = some (true, 14, [some (.inr (.inr x0)), some (.inr (.inr x1)), some (.inl (x2 + 1))], [], M0 L V b) := by
  rfl

-- 108: MendedOrNew$BestRule.numberOf(LMendedOrNew$Kind;I)I
theorem B108_0 (L : Nat) (V : Mv) (b : Bool) (x0 : Nat) (x1 : Nat) (x2 : Int) (c_x1 : isK x1) : nxs 11 108 0 [some (.inr (.inr x0)), some (.inr (.inr x1)), some (.inl x2), none, none, none, none] [] (M0 L V b) = some (true, 16, [some (.inr (.inr x0)), some (.inr (.inr x1)), some (.inl x2), some (.inl x2), some (.inl 1), some (.inl 0), some (.inl ((V x1 0) - 1))], [], M0 L V b) := by
  have f0 : decide ((TT L x1).1 = 64 + 2) = true := cls_of (isK_T c_x1)
  have hG : (decide ((TT L x1).1 = 64 + 2) && true) = true := an f0 rfl
  show some (decide ((TT L x1).1 = 64 + 2) && true, _) = _
  rw [hG]
  try rfl

theorem B108_16 (L : Nat) (V : Mv) (b : Bool) (x0 : Nat) (x1 : Nat) (x2 : Int) (x3 : Int) (x4 : Int) (x5 : Int) (x6 : Int) (g0 : in32 x6) : nxs 2 108 16 [some (.inr (.inr x0)), some (.inr (.inr x1)), some (.inl x2), some (.inl x3), some (.inl x4), some (.inl x5), some (.inl x6)] [] (M0 L V b) = some (true, cond (decide (x6 < 0)) 80 21, [some (.inr (.inr x0)), some (.inr (.inr x1)), some (.inl x2), some (.inl x3), some (.inl x4), some (.inl x5), some (.inl x6)], [], M0 L V b) := by
  have f0 : r32 x6 = true := r32_of g0
  have hG : (r32 x6 && true) = true := an f0 rfl
  show some (r32 x6 && true, _) = _
  rw [hG]
  try rfl

theorem B108_21 (L : Nat) (V : Mv) (b : Bool) (x0 : Nat) (x1 : Nat) (x2 : Int) (x3 : Int) (x4 : Int) (x5 : Int) (x6 : Int) (c_x0 : isB x0) (g0 : in32 (V x0 5)) : nxs 3 108 21 [some (.inr (.inr x0)), some (.inr (.inr x1)), some (.inl x2), some (.inl x3), some (.inl x4), some (.inl x5), some (.inl x6)] [] (M0 L V b) = some (true, cond (decide (V x0 5 ≤ 0)) 80 28, [some (.inr (.inr x0)), some (.inr (.inr x1)), some (.inl x2), some (.inl x3), some (.inl x4), some (.inl x5), some (.inl x6)], [], M0 L V b) := by
  have f0 : decide ((TT L x0).1 = 64 + 7) = true := cls_of (isB_T c_x0)
  have f1 : r32 (V x0 5) = true := r32_of g0
  have hG : (decide ((TT L x0).1 = 64 + 7) && (r32 (V x0 5) && true)) = true := an f0 (an f1 rfl)
  show some (decide ((TT L x0).1 = 64 + 7) && (r32 (V x0 5) && true), _) = _
  rw [hG]
  try rfl

theorem B108_28 (L : Nat) (V : Mv) (b : Bool) (x0 : Nat) (x1 : Nat) (x2 : Int) (x3 : Int) (x4 : Int) (x5 : Int) (x6 : Int) (c_x0 : isB x0) (g0 : in32 x3) (g1 : in32 (V x0 5)) (g2 : ¬ V x0 5 = 0) (g3 : 0 ≤ Int.tmod x3 (V x0 5) ∧ Int.tmod x3 (V x0 5) < 5) (g4 : 0 ≤ x6 ∧ x6 < 8) (g5 : in32 ((uV V (x0 + 3) (x6).toNat (V (x0 + 4) (Int.tmod x3 (V x0 5)).toNat)) x0 5)) (g6 : ¬ (uV V (x0 + 3) (x6).toNat (V (x0 + 4) (Int.tmod x3 (V x0 5)).toNat)) x0 5 = 0) : nxs 31 108 28 [some (.inr (.inr x0)), some (.inr (.inr x1)), some (.inl x2), some (.inl x3), some (.inl x4), some (.inl x5), some (.inl x6)] [] (M0 L V b) = some (true, 16, [some (.inr (.inr x0)), some (.inr (.inr x1)), some (.inl x2), some (.inl (Int.tdiv x3 ((uV V (x0 + 3) (x6).toNat (V (x0 + 4) (Int.tmod x3 (V x0 5)).toNat)) x0 5))), some (.inl (x4 * 5)), some (.inl (x5 + (((uV V (x0 + 3) (x6).toNat (V (x0 + 4) (Int.tmod x3 (V x0 5)).toNat)) (x0 + 3) (x6).toNat) * x4))), some (.inl (x6 + (-1)))], [], M0 L (uV V (x0 + 3) (x6).toNat (V (x0 + 4) (Int.tmod x3 (V x0 5)).toNat)) b) := by
  have f0 : (decide ((TT L x0).1 = 64 + 7) && decide (RR b x0 3 = some (x0 + 3))) = true := clr_of (isB_T c_x0) (isB_R3 c_x0)
  have f1 : (decide ((TT L x0).1 = 64 + 7) && decide (RR b x0 4 = some (x0 + 4))) = true := clr_of (isB_T c_x0) (isB_R4 c_x0)
  have f2 : decide ((TT L x0).1 = 64 + 7) = true := cls_of (isB_T c_x0)
  have f3 : gD x3 (V x0 5) = true := gD_of g0 g1 g2
  have f4 : gX (M0 L V b) (x0 + 4) 1 (Int.tmod x3 (V x0 5)) = true := gx_of (show aT _ _ = _ from isB_A4 (L := L) c_x0) g3
  have f5 : (gX (M0 L V b) (x0 + 3) 1 x6 && !Nat.beq (x0 + 3) 0) = true := gs_of (gx_of (show aT _ _ = _ from isB_A3 (L := L) c_x0) g4) (by omega)
  have f6 : decide ((TT L x0).1 = 64 + 7) = true := cls_of (isB_T c_x0)
  have f7 : gD x3 ((uV V (x0 + 3) (x6).toNat (V (x0 + 4) (Int.tmod x3 (V x0 5)).toNat)) x0 5) = true := gD_of g0 g5 g6
  have f8 : (decide ((TT L x0).1 = 64 + 7) && decide (RR b x0 3 = some (x0 + 3))) = true := clr_of (isB_T c_x0) (isB_R3 c_x0)
  have f9 : gX (M0 L (uV V (x0 + 3) (x6).toNat (V (x0 + 4) (Int.tmod x3 (V x0 5)).toNat)) b) (x0 + 3) 1 x6 = true := gx_of (show aT _ _ = _ from isB_A3 (L := L) c_x0) g4
  have hG : ((decide ((TT L x0).1 = 64 + 7) && decide (RR b x0 3 = some (x0 + 3))) && ((decide ((TT L x0).1 = 64 + 7) && decide (RR b x0 4 = some (x0 + 4))) && (decide ((TT L x0).1 = 64 + 7) && (gD x3 (V x0 5) && (gX (M0 L V b) (x0 + 4) 1 (Int.tmod x3 (V x0 5)) && ((gX (M0 L V b) (x0 + 3) 1 x6 && !Nat.beq (x0 + 3) 0) && (decide ((TT L x0).1 = 64 + 7) && (gD x3 ((uV V (x0 + 3) (x6).toNat (V (x0 + 4) (Int.tmod x3 (V x0 5)).toNat)) x0 5) && ((decide ((TT L x0).1 = 64 + 7) && decide (RR b x0 3 = some (x0 + 3))) && (gX (M0 L (uV V (x0 + 3) (x6).toNat (V (x0 + 4) (Int.tmod x3 (V x0 5)).toNat)) b) (x0 + 3) 1 x6 && true)))))))))) = true := an f0 (an f1 (an f2 (an f3 (an f4 (an f5 (an f6 (an f7 (an f8 (an f9 rfl)))))))))
  show some ((decide ((TT L x0).1 = 64 + 7) && decide (RR b x0 3 = some (x0 + 3))) && ((decide ((TT L x0).1 = 64 + 7) && decide (RR b x0 4 = some (x0 + 4))) && (decide ((TT L x0).1 = 64 + 7) && (gD x3 (V x0 5) && (gX (M0 L V b) (x0 + 4) 1 (Int.tmod x3 (V x0 5)) && ((gX (M0 L V b) (x0 + 3) 1 x6 && !Nat.beq (x0 + 3) 0) && (decide ((TT L x0).1 = 64 + 7) && (gD x3 ((uV V (x0 + 3) (x6).toNat (V (x0 + 4) (Int.tmod x3 (V x0 5)).toNat)) x0 5) && ((decide ((TT L x0).1 = 64 + 7) && decide (RR b x0 3 = some (x0 + 3))) && (gX (M0 L (uV V (x0 + 3) (x6).toNat (V (x0 + 4) (Int.tmod x3 (V x0 5)).toNat)) b) (x0 + 3) 1 x6 && true))))))))), _) = _
  rw [hG]
  try rfl

theorem B108_80 (L : Nat) (V : Mv) (b : Bool) (x0 : Nat) (x1 : Nat) (x2 : Int) (x3 : Int) (x4 : Int) (x5 : Int) (x6 : Int)  : nxs 1 108 80 [some (.inr (.inr x0)), some (.inr (.inr x1)), some (.inl x2), some (.inl x3), some (.inl x4), some (.inl x5), some (.inl x6)] [] (M0 L V b) = some (true, 82, [some (.inr (.inr x0)), some (.inr (.inr x1)), some (.inl x2), some (.inl x3), some (.inl x4), some (.inl x5), some (.inl x6)], [.inl x5], M0 L V b) := by
  rfl

-- 109: MendedOrNew$BestRule.isIdle(LMendedOrNew$Kind;I)Z
theorem B109_0 (L : Nat) (V : Mv) (b : Bool) (x0 : Nat) (x1 : Nat) (x2 : Int)  : nxs 2 109 0 [some (.inr (.inr x0)), some (.inr (.inr x1)), some (.inl x2), none] [] (M0 L V b) = some (true, 2, [some (.inr (.inr x0)), some (.inr (.inr x1)), some (.inl x2), some (.inl 0)], [], M0 L V b) := by
  rfl

theorem B109_2 (L : Nat) (V : Mv) (b : Bool) (x0 : Nat) (x1 : Nat) (x2 : Int) (x3 : Int) (c_x1 : isK x1) (g0 : in32 x3) (g1 : in32 (V x1 0)) : nxs 4 109 2 [some (.inr (.inr x0)), some (.inr (.inr x1)), some (.inl x2), some (.inl x3)] [] (M0 L V b) = some (true, cond (decide (V x1 0 ≤ x3)) 35 10, [some (.inr (.inr x0)), some (.inr (.inr x1)), some (.inl x2), some (.inl x3)], [], M0 L V b) := by
  have f0 : decide ((TT L x1).1 = 64 + 2) = true := cls_of (isK_T c_x1)
  have f1 : (r32 x3 && r32 (V x1 0)) = true := rr32_of g0 g1
  have hG : (decide ((TT L x1).1 = 64 + 2) && ((r32 x3 && r32 (V x1 0)) && true)) = true := an f0 (an f1 rfl)
  show some (decide ((TT L x1).1 = 64 + 2) && ((r32 x3 && r32 (V x1 0)) && true), _) = _
  rw [hG]
  try rfl

theorem B109_10 (L : Nat) (V : Mv) (b : Bool) (x0 : Nat) (x1 : Nat) (x2 : Int) (x3 : Int) (c_x0 : isB x0) (g0 : 0 ≤ x3 ∧ x3 < 8) (g1 : in32 (V (x0 + 3) (x3).toNat)) : nxs 5 109 10 [some (.inr (.inr x0)), some (.inr (.inr x1)), some (.inl x2), some (.inl x3)] [] (M0 L V b) = some (true, cond (decide (V (x0 + 3) (x3).toNat = 0)) 29 19, [some (.inr (.inr x0)), some (.inr (.inr x1)), some (.inl x2), some (.inl x3)], [], M0 L V b) := by
  have f0 : (decide ((TT L x0).1 = 64 + 7) && decide (RR b x0 3 = some (x0 + 3))) = true := clr_of (isB_T c_x0) (isB_R3 c_x0)
  have f1 : gX (M0 L V b) (x0 + 3) 1 x3 = true := gx_of (show aT _ _ = _ from isB_A3 (L := L) c_x0) g0
  have f2 : r32 (V (x0 + 3) (x3).toNat) = true := r32_of g1
  have hG : ((decide ((TT L x0).1 = 64 + 7) && decide (RR b x0 3 = some (x0 + 3))) && (gX (M0 L V b) (x0 + 3) 1 x3 && (r32 (V (x0 + 3) (x3).toNat) && true))) = true := an f0 (an f1 (an f2 rfl))
  show some ((decide ((TT L x0).1 = 64 + 7) && decide (RR b x0 3 = some (x0 + 3))) && (gX (M0 L V b) (x0 + 3) 1 x3 && (r32 (V (x0 + 3) (x3).toNat) && true)), _) = _
  rw [hG]
  try rfl

theorem B109_19 (L : Nat) (V : Mv) (b : Bool) (x0 : Nat) (x1 : Nat) (x2 : Int) (x3 : Int) (g0 : in32 (oAnd (oShr x2 x3) 1)) : nxs 6 109 19 [some (.inr (.inr x0)), some (.inr (.inr x1)), some (.inl x2), some (.inl x3)] [] (M0 L V b) = some (true, cond (!decide (oAnd (oShr x2 x3) 1 = 0)) 29 27, [some (.inr (.inr x0)), some (.inr (.inr x1)), some (.inl x2), some (.inl x3)], [], M0 L V b) := by
  have f0 : r32 (oAnd (oShr x2 x3) 1) = true := r32_of g0
  have hG : (r32 (oAnd (oShr x2 x3) 1) && true) = true := an f0 rfl
  show some (r32 (oAnd (oShr x2 x3) 1) && true, _) = _
  rw [hG]
  try rfl

theorem B109_27 (L : Nat) (V : Mv) (b : Bool) (x0 : Nat) (x1 : Nat) (x2 : Int) (x3 : Int)  : nxs 1 109 27 [some (.inr (.inr x0)), some (.inr (.inr x1)), some (.inl x2), some (.inl x3)] [] (M0 L V b) = some (true, 28, [some (.inr (.inr x0)), some (.inr (.inr x1)), some (.inl x2), some (.inl x3)], [.inl 1], M0 L V b) := by
  rfl

theorem B109_29 (L : Nat) (V : Mv) (b : Bool) (x0 : Nat) (x1 : Nat) (x2 : Int) (x3 : Int)  : nxs 2 109 29 [some (.inr (.inr x0)), some (.inr (.inr x1)), some (.inl x2), some (.inl x3)] [] (M0 L V b) = some (true, 2, [some (.inr (.inr x0)), some (.inr (.inr x1)), some (.inl x2), some (.inl (x3 + 1))], [], M0 L V b) := by
  rfl

theorem B109_35 (L : Nat) (V : Mv) (b : Bool) (x0 : Nat) (x1 : Nat) (x2 : Int) (x3 : Int)  : nxs 1 109 35 [some (.inr (.inr x0)), some (.inr (.inr x1)), some (.inl x2), some (.inl x3)] [] (M0 L V b) = some (true, 36, [some (.inr (.inr x0)), some (.inr (.inr x1)), some (.inl x2), some (.inl x3)], [.inl 0], M0 L V b) := by
  rfl

-- 111: MendedOrNew$Fraction.become(JJ)V
theorem B111_0 (L : Nat) (V : Mv) (b : Bool) (x0 : Nat) (x1 : Int) (x3 : Int)  : nxs 2 111 0 [some (.inr (.inr x0)), some (.inr (.inl x1)), none, some (.inr (.inl x3)), none, none, none] [] (M0 L V b) = some (true, 2, [some (.inr (.inr x0)), some (.inr (.inl x1)), none, some (.inr (.inl x3)), none, none, none], [.inr (.inl x3), .inr (.inl x1)], M0 L V b) := by
  rfl

theorem B111_5 (L : Nat) (V : Mv) (b : Bool) (x0 : Nat) (x1 : Int) (x3 : Int) (s0 : Int) (g0 : in64 s0) (g1 : in32 (cmpI s0 1)) : nxs 6 111 5 [some (.inr (.inr x0)), some (.inr (.inl x1)), none, some (.inr (.inl x3)), none, none, none] [.inr (.inl s0)] (M0 L V b) = some (true, cond (decide (cmpI s0 1 ≤ 0)) 22 15, [some (.inr (.inr x0)), some (.inr (.inl x1)), none, some (.inr (.inl x3)), none, some (.inr (.inl s0)), none], [.inr (.inr x0)], M0 L V b) := by
  have f0 : (r64 s0 && r64 1) = true := rr64_of g0 (by decide)
  have f1 : r32 (cmpI s0 1) = true := r32_of g1
  have hG : ((r64 s0 && r64 1) && (r32 (cmpI s0 1) && true)) = true := an f0 (an f1 rfl)
  show some ((r64 s0 && r64 1) && (r32 (cmpI s0 1) && true), _) = _
  rw [hG]
  try rfl

theorem B111_15 (L : Nat) (V : Mv) (b : Bool) (x0 : Nat) (x1 : Int) (x3 : Int) (x5 : Int) (s0 : Nat) (g0 : in64 x1) (g1 : in64 x5) (g2 : ¬ x5 = 0) : nxs 4 111 15 [some (.inr (.inr x0)), some (.inr (.inl x1)), none, some (.inr (.inl x3)), none, some (.inr (.inl x5)), none] [.inr (.inr s0)] (M0 L V b) = some (true, 23, [some (.inr (.inr x0)), some (.inr (.inl x1)), none, some (.inr (.inl x3)), none, some (.inr (.inl x5)), none], [.inr (.inl (Int.tdiv x1 x5)), .inr (.inr s0)], M0 L V b) := by
  have f0 : gL x1 x5 = true := gL_of g0 g1 g2
  have hG : (gL x1 x5 && true) = true := an f0 rfl
  show some (gL x1 x5 && true, _) = _
  rw [hG]
  try rfl

theorem B111_22 (L : Nat) (V : Mv) (b : Bool) (x0 : Nat) (x1 : Int) (x3 : Int) (x5 : Int) (s0 : Nat)  : nxs 1 111 22 [some (.inr (.inr x0)), some (.inr (.inl x1)), none, some (.inr (.inl x3)), none, some (.inr (.inl x5)), none] [.inr (.inr s0)] (M0 L V b) = some (true, 23, [some (.inr (.inr x0)), some (.inr (.inl x1)), none, some (.inr (.inl x3)), none, some (.inr (.inl x5)), none], [.inr (.inl x1), .inr (.inr s0)], M0 L V b) := by
  rfl

theorem B111_23 (L : Nat) (V : Mv) (b : Bool) (x0 : Nat) (x1 : Int) (x3 : Int) (x5 : Int) (s0 : Nat) (s1 : Int) (c_s0 : isF s0) (g0 : in64 x5) (g1 : in32 (cmpI x5 1)) : nxs 6 111 23 [some (.inr (.inr x0)), some (.inr (.inl x1)), none, some (.inr (.inl x3)), none, some (.inr (.inl x5)), none] [.inr (.inl s1), .inr (.inr s0)] (M0 L V b) = some (true, cond (decide (cmpI x5 1 ≤ 0)) 41 34, [some (.inr (.inr x0)), some (.inr (.inl x1)), none, some (.inr (.inl x3)), none, some (.inr (.inl x5)), none], [.inr (.inr x0)], M0 L (uV V s0 0 s1) b) := by
  have f0 : (decide ((TT L s0).1 = 64 + 8) && decide ((1 : Nat) = 1)) = true := an (cls_of (isF_T c_s0)) (by decide)
  have f1 : (r64 x5 && r64 1) = true := rr64_of g0 (by decide)
  have f2 : r32 (cmpI x5 1) = true := r32_of g1
  have hG : ((decide ((TT L s0).1 = 64 + 8) && decide ((1 : Nat) = 1)) && ((r64 x5 && r64 1) && (r32 (cmpI x5 1) && true))) = true := an f0 (an f1 (an f2 rfl))
  show some ((decide ((TT L s0).1 = 64 + 8) && decide ((1 : Nat) = 1)) && ((r64 x5 && r64 1) && (r32 (cmpI x5 1) && true)), _) = _
  rw [hG]
  try rfl

theorem B111_34 (L : Nat) (V : Mv) (b : Bool) (x0 : Nat) (x1 : Int) (x3 : Int) (x5 : Int) (s0 : Nat) (g0 : in64 x3) (g1 : in64 x5) (g2 : ¬ x5 = 0) : nxs 4 111 34 [some (.inr (.inr x0)), some (.inr (.inl x1)), none, some (.inr (.inl x3)), none, some (.inr (.inl x5)), none] [.inr (.inr s0)] (M0 L V b) = some (true, 42, [some (.inr (.inr x0)), some (.inr (.inl x1)), none, some (.inr (.inl x3)), none, some (.inr (.inl x5)), none], [.inr (.inl (Int.tdiv x3 x5)), .inr (.inr s0)], M0 L V b) := by
  have f0 : gL x3 x5 = true := gL_of g0 g1 g2
  have hG : (gL x3 x5 && true) = true := an f0 rfl
  show some (gL x3 x5 && true, _) = _
  rw [hG]
  try rfl

theorem B111_41 (L : Nat) (V : Mv) (b : Bool) (x0 : Nat) (x1 : Int) (x3 : Int) (x5 : Int) (s0 : Nat)  : nxs 1 111 41 [some (.inr (.inr x0)), some (.inr (.inl x1)), none, some (.inr (.inl x3)), none, some (.inr (.inl x5)), none] [.inr (.inr s0)] (M0 L V b) = some (true, 42, [some (.inr (.inr x0)), some (.inr (.inl x1)), none, some (.inr (.inl x3)), none, some (.inr (.inl x5)), none], [.inr (.inl x3), .inr (.inr s0)], M0 L V b) := by
  rfl

theorem B111_42 (L : Nat) (V : Mv) (b : Bool) (x0 : Nat) (x1 : Int) (x3 : Int) (x5 : Int) (s0 : Nat) (s1 : Int) (c_s0 : isF s0) : nxs 1 111 42 [some (.inr (.inr x0)), some (.inr (.inl x1)), none, some (.inr (.inl x3)), none, some (.inr (.inl x5)), none] [.inr (.inl s1), .inr (.inr s0)] (M0 L V b) = some (true, 45, [some (.inr (.inr x0)), some (.inr (.inl x1)), none, some (.inr (.inl x3)), none, some (.inr (.inl x5)), none], [], M0 L (uV V s0 1 s1) b) := by
  have f0 : (decide ((TT L s0).1 = 64 + 8) && decide ((1 : Nat) = 1)) = true := an (cls_of (isF_T c_s0)) (by decide)
  have hG : ((decide ((TT L s0).1 = 64 + 8) && decide ((1 : Nat) = 1)) && true) = true := an f0 rfl
  show some ((decide ((TT L s0).1 = 64 + 8) && decide ((1 : Nat) = 1)) && true, _) = _
  rw [hG]
  try rfl

-- 112: MendedOrNew$Fraction.told(Z)J
theorem B112_0 (L : Nat) (V : Mv) (b : Bool) (x0 : Nat) (x1 : Int) (g0 : in32 x1) : nxs 2 112 0 [some (.inr (.inr x0)), some (.inl x1)] [] (M0 L V b) = some (true, cond (decide (x1 = 0)) 11 4, [some (.inr (.inr x0)), some (.inl x1)], [], M0 L V b) := by
  have f0 : r32 x1 = true := r32_of g0
  have hG : (r32 x1 && true) = true := an f0 rfl
  show some (r32 x1 && true, _) = _
  rw [hG]
  try rfl

theorem B112_4 (L : Nat) (V : Mv) (b : Bool) (x0 : Nat) (x1 : Int) (c_x0 : isF x0) : nxs 3 112 4 [some (.inr (.inr x0)), some (.inl x1)] [] (M0 L V b) = some (true, 15, [some (.inr (.inr x0)), some (.inl x1)], [.inr (.inl (V x0 0))], M0 L V b) := by
  have f0 : decide ((TT L x0).1 = 64 + 8) = true := cls_of (isF_T c_x0)
  have hG : (decide ((TT L x0).1 = 64 + 8) && true) = true := an f0 rfl
  show some (decide ((TT L x0).1 = 64 + 8) && true, _) = _
  rw [hG]
  try rfl

theorem B112_11 (L : Nat) (V : Mv) (b : Bool) (x0 : Nat) (x1 : Int) (c_x0 : isF x0) : nxs 2 112 11 [some (.inr (.inr x0)), some (.inl x1)] [] (M0 L V b) = some (true, 15, [some (.inr (.inr x0)), some (.inl x1)], [.inr (.inl (V x0 1))], M0 L V b) := by
  have f0 : decide ((TT L x0).1 = 64 + 8) = true := cls_of (isF_T c_x0)
  have hG : (decide ((TT L x0).1 = 64 + 8) && true) = true := an f0 rfl
  show some (decide ((TT L x0).1 = 64 + 8) && true, _) = _
  rw [hG]
  try rfl

-- 113: MendedOrNew$Fraction.compareWith(JJ)I
theorem B113_0 (L : Nat) (V : Mv) (b : Bool) (x0 : Nat) (x1 : Int) (x3 : Int) (c_x0 : isF x0) : nxs 8 113 0 [some (.inr (.inr x0)), some (.inr (.inl x1)), none, some (.inr (.inl x3)), none] [] (M0 L V b) = some (true, 12, [some (.inr (.inr x0)), some (.inr (.inl x1)), none, some (.inr (.inl x3)), none], [.inr (.inl (x1 * (V x0 1))), .inr (.inl ((V x0 0) * x3))], M0 L V b) := by
  have f0 : decide ((TT L x0).1 = 64 + 8) = true := cls_of (isF_T c_x0)
  have f1 : decide ((TT L x0).1 = 64 + 8) = true := cls_of (isF_T c_x0)
  have hG : (decide ((TT L x0).1 = 64 + 8) && (decide ((TT L x0).1 = 64 + 8) && true)) = true := an f0 (an f1 rfl)
  show some (decide ((TT L x0).1 = 64 + 8) && (decide ((TT L x0).1 = 64 + 8) && true), _) = _
  rw [hG]
  try rfl

-- 115: MendedOrNew$Plan.find(LMendedOrNew$Kind;IIII)V
theorem B115_0 (L : Nat) (V : Mv) (b : Bool) (x1 : Nat) (x2 : Int) (x3 : Int) (x4 : Int) (x5 : Int)  : nxs 2 115 0 [some (.inr (.inr 108)), some (.inr (.inr x1)), some (.inl x2), some (.inl x3), some (.inl x4), some (.inl x5), none, none, none, none, none] [] (M0 L V b) = some (true, 3, [some (.inr (.inr 108)), some (.inr (.inr x1)), some (.inl x2), some (.inl x3), some (.inl x4), some (.inl x5), some (.inl 0), none, none, none, none], [], M0 L V b) := by
  rfl

theorem B115_3 (L : Nat) (V : Mv) (b : Bool) (x1 : Nat) (x2 : Int) (x3 : Int) (x4 : Int) (x5 : Int) (x6 : Int) (g0 : in32 x6) : nxs 3 115 3 [some (.inr (.inr 108)), some (.inr (.inr x1)), some (.inl x2), some (.inl x3), some (.inl x4), some (.inl x5), some (.inl x6), none, none, none, none] [] (M0 L V b) = some (true, cond (decide (8 ≤ x6)) 24 10, [some (.inr (.inr 108)), some (.inr (.inr x1)), some (.inl x2), some (.inl x3), some (.inl x4), some (.inl x5), some (.inl x6), none, none, none, none], [], M0 L V b) := by
  have f0 : (r32 x6 && r32 8) = true := rr32_of g0 (by decide)
  have hG : ((r32 x6 && r32 8) && true) = true := an f0 rfl
  show some ((r32 x6 && r32 8) && true, _) = _
  rw [hG]
  try rfl

theorem B115_10 (L : Nat) (V : Mv) (b : Bool) (x1 : Nat) (x2 : Int) (x3 : Int) (x4 : Int) (x5 : Int) (x6 : Int) (g0 : 0 ≤ x6 ∧ x6 < 8) : nxs 7 115 10 [some (.inr (.inr 108)), some (.inr (.inr x1)), some (.inl x2), some (.inl x3), some (.inl x4), some (.inl x5), some (.inl x6), none, none, none, none] [] (M0 L V b) = some (true, 3, [some (.inr (.inr 108)), some (.inr (.inr x1)), some (.inl x2), some (.inl x3), some (.inl x4), some (.inl x5), some (.inl (x6 + 1)), none, none, none, none], [], M0 L (uV V 109 (x6).toNat 0) b) := by
  have f0 : (gX (M0 L V b) 109 2 x6 && !Nat.beq 109 0) = true := gs_of (gx_of rfl g0) (by decide)
  have hG : ((gX (M0 L V b) 109 2 x6 && !Nat.beq 109 0) && true) = true := an f0 rfl
  show some ((gX (M0 L V b) 109 2 x6 && !Nat.beq 109 0) && true, _) = _
  rw [hG]
  try rfl

theorem B115_24 (L : Nat) (V : Mv) (b : Bool) (x1 : Nat) (x2 : Int) (x3 : Int) (x4 : Int) (x5 : Int) (x6 : Int)  : nxs 6 115 24 [some (.inr (.inr 108)), some (.inr (.inr x1)), some (.inl x2), some (.inl x3), some (.inl x4), some (.inl x5), some (.inl x6), none, none, none, none] [] (M0 L V b) = some (true, 32, [some (.inr (.inr 108)), some (.inr (.inr x1)), some (.inl x2), some (.inl x3), some (.inl x4), some (.inl x5), some (.inr (.inl 1)), none, some (.inl (x3 - 1)), none, none], [], M0 L V b) := by
  rfl

theorem B115_32 (L : Nat) (V : Mv) (b : Bool) (x1 : Nat) (x2 : Int) (x3 : Int) (x4 : Int) (x5 : Int) (x6 : Int) (x8 : Int) (g0 : in32 x8) : nxs 2 115 32 [some (.inr (.inr 108)), some (.inr (.inr x1)), some (.inl x2), some (.inl x3), some (.inl x4), some (.inl x5), some (.inr (.inl x6)), none, some (.inl x8), none, none] [] (M0 L V b) = some (true, cond (decide (x8 < 0)) 172 37, [some (.inr (.inr 108)), some (.inr (.inr x1)), some (.inl x2), some (.inl x3), some (.inl x4), some (.inl x5), some (.inr (.inl x6)), none, some (.inl x8), none, none], [], M0 L V b) := by
  have f0 : r32 x8 = true := r32_of g0
  have hG : (r32 x8 && true) = true := an f0 rfl
  show some (r32 x8 && true, _) = _
  rw [hG]
  try rfl

theorem B115_37 (L : Nat) (V : Mv) (b : Bool) (x1 : Nat) (x2 : Int) (x3 : Int) (x4 : Int) (x5 : Int) (x6 : Int) (x8 : Int)  : nxs 2 115 37 [some (.inr (.inr 108)), some (.inr (.inr x1)), some (.inl x2), some (.inl x3), some (.inl x4), some (.inl x5), some (.inr (.inl x6)), none, some (.inl x8), none, none] [] (M0 L V b) = some (true, 40, [some (.inr (.inr 108)), some (.inr (.inr x1)), some (.inl x2), some (.inl x3), some (.inl x4), some (.inl x5), some (.inr (.inl x6)), none, some (.inl x8), some (.inl 0), none], [], M0 L V b) := by
  rfl

theorem B115_40 (L : Nat) (V : Mv) (b : Bool) (x1 : Nat) (x2 : Int) (x3 : Int) (x4 : Int) (x5 : Int) (x6 : Int) (x8 : Int) (x9 : Int) (c_x1 : isK x1) (g0 : in32 x9) (g1 : in32 (V x1 0)) : nxs 4 115 40 [some (.inr (.inr 108)), some (.inr (.inr x1)), some (.inl x2), some (.inl x3), some (.inl x4), some (.inl x5), some (.inr (.inl x6)), none, some (.inl x8), some (.inl x9), none] [] (M0 L V b) = some (true, cond (decide (V x1 0 ≤ x9)) 71 49, [some (.inr (.inr 108)), some (.inr (.inr x1)), some (.inl x2), some (.inl x3), some (.inl x4), some (.inl x5), some (.inr (.inl x6)), none, some (.inl x8), some (.inl x9), none], [], M0 L V b) := by
  have f0 : decide ((TT L x1).1 = 64 + 2) = true := cls_of (isK_T c_x1)
  have f1 : (r32 x9 && r32 (V x1 0)) = true := rr32_of g0 g1
  have hG : (decide ((TT L x1).1 = 64 + 2) && ((r32 x9 && r32 (V x1 0)) && true)) = true := an f0 (an f1 rfl)
  show some (decide ((TT L x1).1 = 64 + 2) && ((r32 x9 && r32 (V x1 0)) && true), _) = _
  rw [hG]
  try rfl

theorem B115_49 (L : Nat) (V : Mv) (b : Bool) (x1 : Nat) (x2 : Int) (x3 : Int) (x4 : Int) (x5 : Int) (x6 : Int) (x8 : Int) (x9 : Int)  : nxs 7 115 49 [some (.inr (.inr 108)), some (.inr (.inr x1)), some (.inl x2), some (.inl x3), some (.inl x4), some (.inl x5), some (.inr (.inl x6)), none, some (.inl x8), some (.inl x9), none] [] (M0 L V b) = some (true, 61, [some (.inr (.inr 108)), some (.inr (.inr x1)), some (.inl x2), some (.inl x3), some (.inl x4), some (.inl x5), some (.inr (.inl x6)), none, some (.inl x8), some (.inl x9), none], [.inr (.inl x6), .inl x9, .inr (.inr x1), .inr (.inr 108), .inl x9, .inr (.inr 110)], M0 L V b) := by
  rfl

theorem B115_64 (L : Nat) (V : Mv) (b : Bool) (x1 : Nat) (x2 : Int) (x3 : Int) (x4 : Int) (x5 : Int) (x6 : Int) (x8 : Int) (x9 : Int) (s1 : Int) (s2 : Int) (g0 : 0 ≤ s1 ∧ s1 < 8) : nxs 3 115 64 [some (.inr (.inr 108)), some (.inr (.inr x1)), some (.inl x2), some (.inl x3), some (.inl x4), some (.inl x5), some (.inr (.inl x6)), none, some (.inl x8), some (.inl x9), none] [.inr (.inl s2), .inl s1, .inr (.inr 119)] (M0 L V b) = some (true, 40, [some (.inr (.inr 108)), some (.inr (.inr x1)), some (.inl x2), some (.inl x3), some (.inl x4), some (.inl x5), some (.inr (.inl x6)), none, some (.inl x8), some (.inl (x9 + 1)), none], [], M0 L (uV V 119 (s1).toNat s2) b) := by
  have f0 : (gX (M0 L V b) 119 2 s1 && !Nat.beq 119 0) = true := gs_of (gx_of rfl g0) (by decide)
  have hG : ((gX (M0 L V b) 119 2 s1 && !Nat.beq 119 0) && true) = true := an f0 rfl
  show some ((gX (M0 L V b) 119 2 s1 && !Nat.beq 119 0) && true, _) = _
  rw [hG]
  try rfl

theorem B115_71 (L : Nat) (V : Mv) (b : Bool) (x1 : Nat) (x2 : Int) (x3 : Int) (x4 : Int) (x5 : Int) (x6 : Int) (x8 : Int) (x9 : Int) (g0 : in32 x4) : nxs 2 115 71 [some (.inr (.inr 108)), some (.inr (.inr x1)), some (.inl x2), some (.inl x3), some (.inl x4), some (.inl x5), some (.inr (.inl x6)), none, some (.inl x8), some (.inl x9), none] [] (M0 L V b) = some (true, cond (decide (x4 ≤ 0)) 88 76, [some (.inr (.inr 108)), some (.inr (.inr x1)), some (.inl x2), some (.inl x3), some (.inl x4), some (.inl x5), some (.inr (.inl x6)), none, some (.inl x8), some (.inl x9), none], [], M0 L V b) := by
  have f0 : r32 x4 = true := r32_of g0
  have hG : (r32 x4 && true) = true := an f0 rfl
  show some (r32 x4 && true, _) = _
  rw [hG]
  try rfl

theorem B115_76 (L : Nat) (V : Mv) (b : Bool) (x1 : Nat) (x2 : Int) (x3 : Int) (x4 : Int) (x5 : Int) (x6 : Int) (x8 : Int) (x9 : Int) (g0 : in32 x8) (g1 : in32 x4) (g2 : ¬ x4 = 0) (g3 : in32 (Int.tmod x8 x4)) : nxs 4 115 76 [some (.inr (.inr 108)), some (.inr (.inr x1)), some (.inl x2), some (.inl x3), some (.inl x4), some (.inl x5), some (.inr (.inl x6)), none, some (.inl x8), some (.inl x9), none] [] (M0 L V b) = some (true, cond (!decide (Int.tmod x8 x4 = 0)) 88 84, [some (.inr (.inr 108)), some (.inr (.inr x1)), some (.inl x2), some (.inl x3), some (.inl x4), some (.inl x5), some (.inr (.inl x6)), none, some (.inl x8), some (.inl x9), none], [], M0 L V b) := by
  have f0 : gD x8 x4 = true := gD_of g0 g1 g2
  have f1 : r32 (Int.tmod x8 x4) = true := r32_of g3
  have hG : (gD x8 x4 && (r32 (Int.tmod x8 x4) && true)) = true := an f0 (an f1 rfl)
  show some (gD x8 x4 && (r32 (Int.tmod x8 x4) && true), _) = _
  rw [hG]
  try rfl

theorem B115_84 (L : Nat) (V : Mv) (b : Bool) (x1 : Nat) (x2 : Int) (x3 : Int) (x4 : Int) (x5 : Int) (x6 : Int) (x8 : Int) (x9 : Int)  : nxs 2 115 84 [some (.inr (.inr 108)), some (.inr (.inr x1)), some (.inl x2), some (.inl x3), some (.inl x4), some (.inl x5), some (.inr (.inl x6)), none, some (.inl x8), some (.inl x9), none] [] (M0 L V b) = some (true, 89, [some (.inr (.inr 108)), some (.inr (.inr x1)), some (.inl x2), some (.inl x3), some (.inl x4), some (.inl x5), some (.inr (.inl x6)), none, some (.inl x8), some (.inl x9), none], [.inl 1], M0 L V b) := by
  rfl

theorem B115_88 (L : Nat) (V : Mv) (b : Bool) (x1 : Nat) (x2 : Int) (x3 : Int) (x4 : Int) (x5 : Int) (x6 : Int) (x8 : Int) (x9 : Int)  : nxs 1 115 88 [some (.inr (.inr 108)), some (.inr (.inr x1)), some (.inl x2), some (.inl x3), some (.inl x4), some (.inl x5), some (.inr (.inl x6)), none, some (.inl x8), some (.inl x9), none] [] (M0 L V b) = some (true, 89, [some (.inr (.inr 108)), some (.inr (.inr x1)), some (.inl x2), some (.inl x3), some (.inl x4), some (.inl x5), some (.inr (.inl x6)), none, some (.inl x8), some (.inl x9), none], [.inl 0], M0 L V b) := by
  rfl

theorem B115_89 (L : Nat) (V : Mv) (b : Bool) (x1 : Nat) (x2 : Int) (x3 : Int) (x4 : Int) (x5 : Int) (x6 : Int) (x8 : Int) (x9 : Int) (s0 : Int)  : nxs 3 115 89 [some (.inr (.inr 108)), some (.inr (.inr x1)), some (.inl x2), some (.inl x3), some (.inl x4), some (.inl x5), some (.inr (.inl x6)), none, some (.inl x8), some (.inl x9), none] [.inl s0] (M0 L V b) = some (true, 94, [some (.inr (.inr 108)), some (.inr (.inr x1)), some (.inl x2), some (.inl x3), some (.inl x4), some (.inl x5), some (.inr (.inl x6)), none, some (.inl x8), some (.inl s0), some (.inl 0)], [], M0 L V b) := by
  rfl

theorem B115_94 (L : Nat) (V : Mv) (b : Bool) (x1 : Nat) (x2 : Int) (x3 : Int) (x4 : Int) (x5 : Int) (x6 : Int) (x8 : Int) (x9 : Int) (x10 : Int) (c_x1 : isK x1) (g0 : in32 x10) (g1 : in32 (V x1 0)) : nxs 4 115 94 [some (.inr (.inr 108)), some (.inr (.inr x1)), some (.inl x2), some (.inl x3), some (.inl x4), some (.inl x5), some (.inr (.inl x6)), none, some (.inl x8), some (.inl x9), some (.inl x10)] [] (M0 L V b) = some (true, cond (decide (V x1 0 ≤ x10)) 158 103, [some (.inr (.inr 108)), some (.inr (.inr x1)), some (.inl x2), some (.inl x3), some (.inl x4), some (.inl x5), some (.inr (.inl x6)), none, some (.inl x8), some (.inl x9), some (.inl x10)], [], M0 L V b) := by
  have f0 : decide ((TT L x1).1 = 64 + 2) = true := cls_of (isK_T c_x1)
  have f1 : (r32 x10 && r32 (V x1 0)) = true := rr32_of g0 g1
  have hG : (decide ((TT L x1).1 = 64 + 2) && ((r32 x10 && r32 (V x1 0)) && true)) = true := an f0 (an f1 rfl)
  show some (decide ((TT L x1).1 = 64 + 2) && ((r32 x10 && r32 (V x1 0)) && true), _) = _
  rw [hG]
  try rfl

theorem B115_103 (L : Nat) (V : Mv) (b : Bool) (x1 : Nat) (x2 : Int) (x3 : Int) (x4 : Int) (x5 : Int) (x6 : Int) (x8 : Int) (x9 : Int) (x10 : Int) (g0 : in32 x9) : nxs 5 115 103 [some (.inr (.inr 108)), some (.inr (.inr x1)), some (.inl x2), some (.inl x3), some (.inl x4), some (.inl x5), some (.inr (.inl x6)), none, some (.inl x8), some (.inl x9), some (.inl x10)] [] (M0 L V b) = some (true, cond (decide (x9 = 0)) 120 112, [some (.inr (.inr 108)), some (.inr (.inr x1)), some (.inl x2), some (.inl x3), some (.inl x4), some (.inl x5), some (.inr (.inl x6)), none, some (.inl x8), some (.inl x9), some (.inl x10)], [.inl x10, .inr (.inr x1), .inr (.inr 108)], M0 L V b) := by
  have f0 : r32 x9 = true := r32_of g0
  have hG : (r32 x9 && true) = true := an f0 rfl
  show some (r32 x9 && true, _) = _
  rw [hG]
  try rfl

theorem B115_112 (L : Nat) (V : Mv) (b : Bool) (x1 : Nat) (x2 : Int) (x3 : Int) (x4 : Int) (x5 : Int) (x6 : Int) (x8 : Int) (x9 : Int) (x10 : Int) (s1 : Nat) (s2 : Int)  : nxs 4 115 112 [some (.inr (.inr 108)), some (.inr (.inr x1)), some (.inl x2), some (.inl x3), some (.inl x4), some (.inl x5), some (.inr (.inl x6)), none, some (.inl x8), some (.inl x9), some (.inl x10)] [.inl s2, .inr (.inr s1), .inr (.inr 108)] (M0 L V b) = some (true, 122, [some (.inr (.inr 108)), some (.inr (.inr x1)), some (.inl x2), some (.inl x3), some (.inl x4), some (.inl x5), some (.inr (.inl x6)), none, some (.inl x8), some (.inl x9), some (.inl x10)], [.inl (x8 * x5), .inl s2, .inr (.inr s1), .inr (.inr 108)], M0 L V b) := by
  rfl

theorem B115_120 (L : Nat) (V : Mv) (b : Bool) (x1 : Nat) (x2 : Int) (x3 : Int) (x4 : Int) (x5 : Int) (x6 : Int) (x8 : Int) (x9 : Int) (x10 : Int) (s1 : Nat) (s2 : Int)  : nxs 1 115 120 [some (.inr (.inr 108)), some (.inr (.inr x1)), some (.inl x2), some (.inl x3), some (.inl x4), some (.inl x5), some (.inr (.inl x6)), none, some (.inl x8), some (.inl x9), some (.inl x10)] [.inl s2, .inr (.inr s1), .inr (.inr 108)] (M0 L V b) = some (true, 122, [some (.inr (.inr 108)), some (.inr (.inr x1)), some (.inl x2), some (.inl x3), some (.inl x4), some (.inl x5), some (.inr (.inl x6)), none, some (.inl x8), some (.inl x9), some (.inl x10)], [.inl (-9), .inl s2, .inr (.inr s1), .inr (.inr 108)], M0 L V b) := by
  rfl

theorem B115_122 (L : Nat) (V : Mv) (b : Bool) (x1 : Nat) (x2 : Int) (x3 : Int) (x4 : Int) (x5 : Int) (x6 : Int) (x8 : Int) (x9 : Int) (x10 : Int) (s1 : Nat) (s2 : Int) (s3 : Int)  : nxs 1 115 122 [some (.inr (.inr 108)), some (.inr (.inr x1)), some (.inl x2), some (.inl x3), some (.inl x4), some (.inl x5), some (.inr (.inl x6)), none, some (.inl x8), some (.inl x9), some (.inl x10)] [.inl s3, .inl s2, .inr (.inr s1), .inr (.inr 108)] (M0 L V b) = some (true, 124, [some (.inr (.inr 108)), some (.inr (.inr x1)), some (.inl x2), some (.inl x3), some (.inl x4), some (.inl x5), some (.inr (.inl x6)), none, some (.inl x8), some (.inl x9), some (.inl x10)], [.inr (.inl x6), .inl s3, .inl s2, .inr (.inr s1), .inr (.inr 108)], M0 L V b) := by
  rfl

theorem B115_127 (L : Nat) (V : Mv) (b : Bool) (x1 : Nat) (x2 : Int) (x3 : Int) (x4 : Int) (x5 : Int) (x6 : Int) (x8 : Int) (x9 : Int) (x10 : Int) (g0 : in32 x10) (g1 : in32 x2) : nxs 3 115 127 [some (.inr (.inr 108)), some (.inr (.inr x1)), some (.inl x2), some (.inl x3), some (.inl x4), some (.inl x5), some (.inr (.inl x6)), none, some (.inl x8), some (.inl x9), some (.inl x10)] [] (M0 L V b) = some (true, cond (!decide (x10 = x2)) 152 133, [some (.inr (.inr 108)), some (.inr (.inr x1)), some (.inl x2), some (.inl x3), some (.inl x4), some (.inl x5), some (.inr (.inl x6)), none, some (.inl x8), some (.inl x9), some (.inl x10)], [], M0 L V b) := by
  have f0 : (r32 x10 && r32 x2) = true := rr32_of g0 g1
  have hG : ((r32 x10 && r32 x2) && true) = true := an f0 rfl
  show some ((r32 x10 && r32 x2) && true, _) = _
  rw [hG]
  try rfl

theorem B115_133 (L : Nat) (V : Mv) (b : Bool) (x1 : Nat) (x2 : Int) (x3 : Int) (x4 : Int) (x5 : Int) (x6 : Int) (x8 : Int) (x9 : Int) (x10 : Int) (g0 : 0 ≤ x10 ∧ x10 < 8) : nxs 10 115 133 [some (.inr (.inr 108)), some (.inr (.inr x1)), some (.inl x2), some (.inl x3), some (.inl x4), some (.inl x5), some (.inr (.inl x6)), none, some (.inl x8), some (.inl x9), some (.inl x10)] [] (M0 L V b) = some (true, 152, [some (.inr (.inr 108)), some (.inr (.inr x1)), some (.inl x2), some (.inl x3), some (.inl x4), some (.inl x5), some (.inr (.inl x6)), none, some (.inl x8), some (.inl x9), some (.inl x10)], [], M0 L (uV (uV V 108 0 (V 109 (x10).toNat)) 108 1 ((uV V 108 0 (V 109 (x10).toNat)) 108 2)) b) := by
  have f0 : gX (M0 L V b) 109 2 x10 = true := gx_of rfl g0
  have hG : (gX (M0 L V b) 109 2 x10 && true) = true := an f0 rfl
  show some (gX (M0 L V b) 109 2 x10 && true, _) = _
  rw [hG]
  try rfl

theorem B115_152 (L : Nat) (V : Mv) (b : Bool) (x1 : Nat) (x2 : Int) (x3 : Int) (x4 : Int) (x5 : Int) (x6 : Int) (x8 : Int) (x9 : Int) (x10 : Int)  : nxs 2 115 152 [some (.inr (.inr 108)), some (.inr (.inr x1)), some (.inl x2), some (.inl x3), some (.inl x4), some (.inl x5), some (.inr (.inl x6)), none, some (.inl x8), some (.inl x9), some (.inl x10)] [] (M0 L V b) = some (true, 94, [some (.inr (.inr 108)), some (.inr (.inr x1)), some (.inl x2), some (.inl x3), some (.inl x4), some (.inl x5), some (.inr (.inl x6)), none, some (.inl x8), some (.inl x9), some (.inl (x10 + 1))], [], M0 L V b) := by
  rfl

theorem B115_158 (L : Nat) (V : Mv) (b : Bool) (x1 : Nat) (x2 : Int) (x3 : Int) (x4 : Int) (x5 : Int) (x6 : Int) (x8 : Int) (x9 : Int) (x10 : Int)  : nxs 6 115 158 [some (.inr (.inr 108)), some (.inr (.inr x1)), some (.inl x2), some (.inl x3), some (.inl x4), some (.inl x5), some (.inr (.inl x6)), none, some (.inl x8), some (.inl x9), some (.inl x10)] [] (M0 L V b) = some (true, 32, [some (.inr (.inr 108)), some (.inr (.inr x1)), some (.inl x2), some (.inl x3), some (.inl x4), some (.inl x5), some (.inr (.inl (x6 * 10))), none, some (.inl (x8 + (-1))), some (.inl x9), some (.inl x10)], [], M0 L V b) := by
  rfl

-- 116: MendedOrNew$Plan.goOn(LMendedOrNew$Kind;IJ)J
theorem B116_0 (L : Nat) (V : Mv) (b : Bool) (x1 : Nat) (x2 : Int) (x3 : Int) (c_x1 : isK x1) (g0 : 0 ≤ x2 ∧ x2 < 8) (g1 : in32 (V (x1 + 3) (x2).toNat)) : nxs 10 116 0 [some (.inr (.inr 108)), some (.inr (.inr x1)), some (.inl x2), some (.inr (.inl x3)), none, none, none, none] [] (M0 L V b) = some (true, 14, [some (.inr (.inr 108)), some (.inr (.inr x1)), some (.inl x2), some (.inr (.inl x3)), none, some (.inr (.inl ((V (x1 + 3) (x2).toNat) * x3))), none, some (.inl x2)], [], M0 L V b) := by
  have f0 : (decide ((TT L x1).1 = 64 + 2) && decide (RR b x1 6 = some (x1 + 3))) = true := clr_of (isK_T c_x1) (isK_R6 c_x1)
  have f1 : gX (M0 L V b) (x1 + 3) 1 x2 = true := gx_of (show aT _ _ = _ from isK_A6 (L := L) c_x1) g0
  have f2 : r32 (V (x1 + 3) (x2).toNat) = true := r32_of g1
  have hG : ((decide ((TT L x1).1 = 64 + 2) && decide (RR b x1 6 = some (x1 + 3))) && (gX (M0 L V b) (x1 + 3) 1 x2 && (r32 (V (x1 + 3) (x2).toNat) && true))) = true := an f0 (an f1 (an f2 rfl))
  show some ((decide ((TT L x1).1 = 64 + 2) && decide (RR b x1 6 = some (x1 + 3))) && (gX (M0 L V b) (x1 + 3) 1 x2 && (r32 (V (x1 + 3) (x2).toNat) && true)), _) = _
  rw [hG]
  try rfl

theorem B116_14 (L : Nat) (V : Mv) (b : Bool) (x1 : Nat) (x2 : Int) (x3 : Int) (x5 : Int) (x7 : Int) (c_x1 : isK x1) (g0 : in32 x7) (g1 : in32 (V x1 0)) : nxs 4 116 14 [some (.inr (.inr 108)), some (.inr (.inr x1)), some (.inl x2), some (.inr (.inl x3)), none, some (.inr (.inl x5)), none, some (.inl x7)] [] (M0 L V b) = some (true, cond (decide (V x1 0 ≤ x7)) 55 23, [some (.inr (.inr 108)), some (.inr (.inr x1)), some (.inl x2), some (.inr (.inl x3)), none, some (.inr (.inl x5)), none, some (.inl x7)], [], M0 L V b) := by
  have f0 : decide ((TT L x1).1 = 64 + 2) = true := cls_of (isK_T c_x1)
  have f1 : (r32 x7 && r32 (V x1 0)) = true := rr32_of g0 g1
  have hG : (decide ((TT L x1).1 = 64 + 2) && ((r32 x7 && r32 (V x1 0)) && true)) = true := an f0 (an f1 rfl)
  show some (decide ((TT L x1).1 = 64 + 2) && ((r32 x7 && r32 (V x1 0)) && true), _) = _
  rw [hG]
  try rfl

theorem B116_23 (L : Nat) (V : Mv) (b : Bool) (x1 : Nat) (x2 : Int) (x3 : Int) (x5 : Int) (x7 : Int) (c_x1 : isK x1) (g0 : 0 ≤ (x2 * 8) + x7 ∧ (x2 * 8) + x7 < 64) (g1 : in32 (V (x1 + 1) ((x2 * 8) + x7).toNat)) (g2 : 0 ≤ x7 ∧ x7 < 8) : nxs 19 116 23 [some (.inr (.inr 108)), some (.inr (.inr x1)), some (.inl x2), some (.inr (.inl x3)), none, some (.inr (.inl x5)), none, some (.inl x7)] [] (M0 L V b) = some (true, 14, [some (.inr (.inr 108)), some (.inr (.inr x1)), some (.inl x2), some (.inr (.inl x3)), none, some (.inr (.inl (x5 + ((V (x1 + 1) ((x2 * 8) + x7).toNat) * (V 109 (x7).toNat))))), none, some (.inl (x7 + 1))], [], M0 L V b) := by
  have f0 : (decide ((TT L x1).1 = 64 + 2) && decide (RR b x1 4 = some (x1 + 1))) = true := clr_of (isK_T c_x1) (isK_R4 c_x1)
  have f1 : gX (M0 L V b) (x1 + 1) 1 ((x2 * 8) + x7) = true := gx_of (show aT _ _ = _ from isK_A4 (L := L) c_x1) g0
  have f2 : r32 (V (x1 + 1) ((x2 * 8) + x7).toNat) = true := r32_of g1
  have f3 : gX (M0 L V b) 109 2 x7 = true := gx_of rfl g2
  have hG : ((decide ((TT L x1).1 = 64 + 2) && decide (RR b x1 4 = some (x1 + 1))) && (gX (M0 L V b) (x1 + 1) 1 ((x2 * 8) + x7) && (r32 (V (x1 + 1) ((x2 * 8) + x7).toNat) && (gX (M0 L V b) 109 2 x7 && true)))) = true := an f0 (an f1 (an f2 (an f3 rfl)))
  show some ((decide ((TT L x1).1 = 64 + 2) && decide (RR b x1 4 = some (x1 + 1))) && (gX (M0 L V b) (x1 + 1) 1 ((x2 * 8) + x7) && (r32 (V (x1 + 1) ((x2 * 8) + x7).toNat) && (gX (M0 L V b) 109 2 x7 && true))), _) = _
  rw [hG]
  try rfl

theorem B116_55 (L : Nat) (V : Mv) (b : Bool) (x1 : Nat) (x2 : Int) (x3 : Int) (x5 : Int) (x7 : Int)  : nxs 1 116 55 [some (.inr (.inr 108)), some (.inr (.inr x1)), some (.inl x2), some (.inr (.inl x3)), none, some (.inr (.inl x5)), none, some (.inl x7)] [] (M0 L V b) = some (true, 57, [some (.inr (.inr 108)), some (.inr (.inr x1)), some (.inl x2), some (.inr (.inl x3)), none, some (.inr (.inl x5)), none, some (.inl x7)], [.inr (.inl x5)], M0 L V b) := by
  rfl

-- 117: MendedOrNew$Plan.choose(LMendedOrNew$Kind;IIJ)V
theorem B117_0 (L : Nat) (V : Mv) (b : Bool) (x1 : Nat) (x2 : Int) (x3 : Int) (x4 : Int) (g0 : 0 ≤ x2 ∧ x2 < 8) : nxs 13 117 0 [some (.inr (.inr 108)), some (.inr (.inr x1)), some (.inl x2), some (.inl x3), some (.inr (.inl x4)), none, none, none, none] [] (M0 L V b) = some (true, 20, [some (.inr (.inr 108)), some (.inr (.inr x1)), some (.inl x2), some (.inl x3), some (.inr (.inl x4)), none, some (.inl 0), none, none], [], M0 L (uV (uV V 108 2 0) 109 (x2).toNat ((uV V 108 2 0) 110 (x2).toNat)) b) := by
  have f0 : gX (M0 L (uV V 108 2 0) b) 110 2 x2 = true := gx_of rfl g0
  have f1 : (gX (M0 L (uV V 108 2 0) b) 109 2 x2 && !Nat.beq 109 0) = true := gs_of (gx_of rfl g0) (by decide)
  have hG : (gX (M0 L (uV V 108 2 0) b) 110 2 x2 && ((gX (M0 L (uV V 108 2 0) b) 109 2 x2 && !Nat.beq 109 0) && true)) = true := an f0 (an f1 rfl)
  show some (gX (M0 L (uV V 108 2 0) b) 110 2 x2 && ((gX (M0 L (uV V 108 2 0) b) 109 2 x2 && !Nat.beq 109 0) && true), _) = _
  rw [hG]
  try rfl

theorem B117_20 (L : Nat) (V : Mv) (b : Bool) (x1 : Nat) (x2 : Int) (x3 : Int) (x4 : Int) (x6 : Int) (g0 : in32 x6) : nxs 3 117 20 [some (.inr (.inr 108)), some (.inr (.inr x1)), some (.inl x2), some (.inl x3), some (.inr (.inl x4)), none, some (.inl x6), none, none] [] (M0 L V b) = some (true, cond (decide (4 ≤ x6)) 107 26, [some (.inr (.inr 108)), some (.inr (.inr x1)), some (.inl x2), some (.inl x3), some (.inr (.inl x4)), none, some (.inl x6), none, none], [], M0 L V b) := by
  have f0 : (r32 x6 && r32 4) = true := rr32_of g0 (by decide)
  have hG : ((r32 x6 && r32 4) && true) = true := an f0 rfl
  show some ((r32 x6 && r32 4) && true, _) = _
  rw [hG]
  try rfl

theorem B117_26 (L : Nat) (V : Mv) (b : Bool) (x1 : Nat) (x2 : Int) (x3 : Int) (x4 : Int) (x6 : Int) (g0 : in32 x3) : nxs 3 117 26 [some (.inr (.inr 108)), some (.inr (.inr x1)), some (.inl x2), some (.inl x3), some (.inr (.inl x4)), none, some (.inl x6), none, none] [] (M0 L V b) = some (true, cond (decide (x3 = (-9))) 107 32, [some (.inr (.inr 108)), some (.inr (.inr x1)), some (.inl x2), some (.inl x3), some (.inr (.inl x4)), none, some (.inl x6), none, none], [], M0 L V b) := by
  have f0 : (r32 x3 && r32 (-9)) = true := rr32_of g0 (by decide)
  have hG : ((r32 x3 && r32 (-9)) && true) = true := an f0 rfl
  show some ((r32 x3 && r32 (-9)) && true, _) = _
  rw [hG]
  try rfl

theorem B117_32 (L : Nat) (V : Mv) (b : Bool) (x1 : Nat) (x2 : Int) (x3 : Int) (x4 : Int) (x6 : Int)  : nxs 2 117 32 [some (.inr (.inr 108)), some (.inr (.inr x1)), some (.inl x2), some (.inl x3), some (.inr (.inl x4)), none, some (.inl x6), none, none] [] (M0 L V b) = some (true, 35, [some (.inr (.inr 108)), some (.inr (.inr x1)), some (.inl x2), some (.inl x3), some (.inr (.inl x4)), none, some (.inl x6), none, none], [.inl x6, .inr (.inr x1)], M0 L V b) := by
  rfl

theorem B117_38 (L : Nat) (V : Mv) (b : Bool) (x1 : Nat) (x2 : Int) (x3 : Int) (x4 : Int) (x6 : Int) (s0 : Int) (g0 : in32 s0) : nxs 1 117 38 [some (.inr (.inr 108)), some (.inr (.inr x1)), some (.inl x2), some (.inl x3), some (.inr (.inl x4)), none, some (.inl x6), none, none] [.inl s0] (M0 L V b) = some (true, cond (decide (s0 = 0)) 101 41, [some (.inr (.inr 108)), some (.inr (.inr x1)), some (.inl x2), some (.inl x3), some (.inr (.inl x4)), none, some (.inl x6), none, none], [], M0 L V b) := by
  have f0 : r32 s0 = true := r32_of g0
  have hG : (r32 s0 && true) = true := an f0 rfl
  show some (r32 s0 && true, _) = _
  rw [hG]
  try rfl

theorem B117_41 (L : Nat) (V : Mv) (b : Bool) (x1 : Nat) (x2 : Int) (x3 : Int) (x4 : Int) (x6 : Int) (c_x1 : isK x1) (g0 : 0 ≤ x6 ∧ x6 < 4) (g1 : in32 ((V (x1 + 5) (x6).toNat) - x3)) (g2 : in32 (cond (decide (0 < (V (x1 + 5) (x6).toNat) - x3)) ((V (x1 + 5) (x6).toNat) - x3) 0)) (g3 : 0 ≤ V (x1 + 6) (x6).toNat ∧ V (x1 + 6) (x6).toNat < 8) (g4 : 0 ≤ x2 ∧ x2 < 8) (g5 : in64 (((cond (decide (0 < (V (x1 + 5) (x6).toNat) - x3)) ((V (x1 + 5) (x6).toNat) - x3) 0) * x4) + (V 110 (V (x1 + 6) (x6).toNat).toNat))) (g6 : in64 (V 109 (x2).toNat)) (g7 : in32 (cmpI (((cond (decide (0 < (V (x1 + 5) (x6).toNat) - x3)) ((V (x1 + 5) (x6).toNat) - x3) 0) * x4) + (V 110 (V (x1 + 6) (x6).toNat).toNat)) (V 109 (x2).toNat))) : nxs 27 117 41 [some (.inr (.inr 108)), some (.inr (.inr x1)), some (.inl x2), some (.inl x3), some (.inr (.inl x4)), none, some (.inl x6), none, none] [] (M0 L V b) = some (true, cond (decide (0 ≤ cmpI (((cond (decide (0 < (V (x1 + 5) (x6).toNat) - x3)) ((V (x1 + 5) (x6).toNat) - x3) 0) * x4) + (V 110 (V (x1 + 6) (x6).toNat).toNat)) (V 109 (x2).toNat))) 101 85, [some (.inr (.inr 108)), some (.inr (.inr x1)), some (.inl x2), some (.inl x3), some (.inr (.inl x4)), none, some (.inl x6), some (.inr (.inl (((cond (decide (0 < (V (x1 + 5) (x6).toNat) - x3)) ((V (x1 + 5) (x6).toNat) - x3) 0) * x4) + (V 110 (V (x1 + 6) (x6).toNat).toNat)))), none], [], M0 L V b) := by
  have f0 : (decide ((TT L x1).1 = 64 + 2) && decide (RR b x1 8 = some (x1 + 5))) = true := clr_of (isK_T c_x1) (isK_R8 c_x1)
  have f1 : gX (M0 L V b) (x1 + 5) 1 x6 = true := gx_of (show aT _ _ = _ from isK_A8 (L := L) c_x1) g0
  have f2 : (r32 0 && (r32 ((V (x1 + 5) (x6).toNat) - x3) && true)) = true := an (r32_of (by decide)) (an (r32_of g1) rfl)
  have f3 : r32 (cond (decide (0 < (V (x1 + 5) (x6).toNat) - x3)) ((V (x1 + 5) (x6).toNat) - x3) 0) = true := r32_of g2
  have f4 : (decide ((TT L x1).1 = 64 + 2) && decide (RR b x1 9 = some (x1 + 6))) = true := clr_of (isK_T c_x1) (isK_R9 c_x1)
  have f5 : gX (M0 L V b) (x1 + 6) 1 x6 = true := gx_of (show aT _ _ = _ from isK_A9 (L := L) c_x1) g0
  have f6 : gX (M0 L V b) 110 2 (V (x1 + 6) (x6).toNat) = true := gx_of rfl g3
  have f7 : gX (M0 L V b) 109 2 x2 = true := gx_of rfl g4
  have f8 : (r64 (((cond (decide (0 < (V (x1 + 5) (x6).toNat) - x3)) ((V (x1 + 5) (x6).toNat) - x3) 0) * x4) + (V 110 (V (x1 + 6) (x6).toNat).toNat)) && r64 (V 109 (x2).toNat)) = true := rr64_of g5 g6
  have f9 : r32 (cmpI (((cond (decide (0 < (V (x1 + 5) (x6).toNat) - x3)) ((V (x1 + 5) (x6).toNat) - x3) 0) * x4) + (V 110 (V (x1 + 6) (x6).toNat).toNat)) (V 109 (x2).toNat)) = true := r32_of g7
  have hG : ((decide ((TT L x1).1 = 64 + 2) && decide (RR b x1 8 = some (x1 + 5))) && (gX (M0 L V b) (x1 + 5) 1 x6 && ((r32 0 && (r32 ((V (x1 + 5) (x6).toNat) - x3) && true)) && (r32 (cond (decide (0 < (V (x1 + 5) (x6).toNat) - x3)) ((V (x1 + 5) (x6).toNat) - x3) 0) && ((decide ((TT L x1).1 = 64 + 2) && decide (RR b x1 9 = some (x1 + 6))) && (gX (M0 L V b) (x1 + 6) 1 x6 && (gX (M0 L V b) 110 2 (V (x1 + 6) (x6).toNat) && (gX (M0 L V b) 109 2 x2 && ((r64 (((cond (decide (0 < (V (x1 + 5) (x6).toNat) - x3)) ((V (x1 + 5) (x6).toNat) - x3) 0) * x4) + (V 110 (V (x1 + 6) (x6).toNat).toNat)) && r64 (V 109 (x2).toNat)) && (r32 (cmpI (((cond (decide (0 < (V (x1 + 5) (x6).toNat) - x3)) ((V (x1 + 5) (x6).toNat) - x3) 0) * x4) + (V 110 (V (x1 + 6) (x6).toNat).toNat)) (V 109 (x2).toNat)) && true)))))))))) = true := an f0 (an f1 (an f2 (an f3 (an f4 (an f5 (an f6 (an f7 (an f8 (an f9 rfl)))))))))
  show some ((decide ((TT L x1).1 = 64 + 2) && decide (RR b x1 8 = some (x1 + 5))) && (gX (M0 L V b) (x1 + 5) 1 x6 && ((r32 0 && (r32 ((V (x1 + 5) (x6).toNat) - x3) && true)) && (r32 (cond (decide (0 < (V (x1 + 5) (x6).toNat) - x3)) ((V (x1 + 5) (x6).toNat) - x3) 0) && ((decide ((TT L x1).1 = 64 + 2) && decide (RR b x1 9 = some (x1 + 6))) && (gX (M0 L V b) (x1 + 6) 1 x6 && (gX (M0 L V b) 110 2 (V (x1 + 6) (x6).toNat) && (gX (M0 L V b) 109 2 x2 && ((r64 (((cond (decide (0 < (V (x1 + 5) (x6).toNat) - x3)) ((V (x1 + 5) (x6).toNat) - x3) 0) * x4) + (V 110 (V (x1 + 6) (x6).toNat).toNat)) && r64 (V 109 (x2).toNat)) && (r32 (cmpI (((cond (decide (0 < (V (x1 + 5) (x6).toNat) - x3)) ((V (x1 + 5) (x6).toNat) - x3) 0) * x4) + (V 110 (V (x1 + 6) (x6).toNat).toNat)) (V 109 (x2).toNat)) && true))))))))), _) = _
  rw [hG]
  try rfl

theorem B117_85 (L : Nat) (V : Mv) (b : Bool) (x1 : Nat) (x2 : Int) (x3 : Int) (x4 : Int) (x6 : Int) (x7 : Int) (g0 : 0 ≤ x2 ∧ x2 < 8) : nxs 10 117 85 [some (.inr (.inr 108)), some (.inr (.inr x1)), some (.inl x2), some (.inl x3), some (.inr (.inl x4)), none, some (.inl x6), some (.inr (.inl x7)), none] [] (M0 L V b) = some (true, 101, [some (.inr (.inr 108)), some (.inr (.inr x1)), some (.inl x2), some (.inl x3), some (.inr (.inl x4)), none, some (.inl x6), some (.inr (.inl x7)), none], [], M0 L (uV (uV V 109 (x2).toNat x7) 108 2 (x6 + 1)) b) := by
  have f0 : (gX (M0 L V b) 109 2 x2 && !Nat.beq 109 0) = true := gs_of (gx_of rfl g0) (by decide)
  have hG : ((gX (M0 L V b) 109 2 x2 && !Nat.beq 109 0) && true) = true := an f0 rfl
  show some ((gX (M0 L V b) 109 2 x2 && !Nat.beq 109 0) && true, _) = _
  rw [hG]
  try rfl

theorem B117_101 (L : Nat) (V : Mv) (b : Bool) (x1 : Nat) (x2 : Int) (x3 : Int) (x4 : Int) (x6 : Int)  : nxs 2 117 101 [some (.inr (.inr 108)), some (.inr (.inr x1)), some (.inl x2), some (.inl x3), some (.inr (.inl x4)), none, some (.inl x6), none, none] [] (M0 L V b) = some (true, 20, [some (.inr (.inr 108)), some (.inr (.inr x1)), some (.inl x2), some (.inl x3), some (.inr (.inl x4)), none, some (.inl (x6 + 1)), none, none], [], M0 L V b) := by
  rfl

-- 119: MendedOrNew$Unseen.find(LMendedOrNew$Kind;LMendedOrNew$Thought;I)V
theorem B119_0 (L : Nat) (V : Mv) (b : Bool) (x1 : Nat) (x2 : Nat) (x3 : Int)  : nxs 2 119 0 [some (.inr (.inr 111)), some (.inr (.inr x1)), some (.inr (.inr x2)), some (.inl x3), none] [] (M0 L V b) = some (true, 3, [some (.inr (.inr 111)), some (.inr (.inr x1)), some (.inr (.inr x2)), some (.inl x3), some (.inl 1)], [], M0 L V b) := by
  rfl

theorem B119_3 (L : Nat) (V : Mv) (b : Bool) (x1 : Nat) (x2 : Nat) (x3 : Int) (x4 : Int) (g0 : in32 x4) (g1 : in32 x3) : nxs 3 119 3 [some (.inr (.inr 111)), some (.inr (.inr x1)), some (.inr (.inr x2)), some (.inl x3), some (.inl x4)] [] (M0 L V b) = some (true, cond (decide (x3 < x4)) 22 9, [some (.inr (.inr 111)), some (.inr (.inr x1)), some (.inr (.inr x2)), some (.inl x3), some (.inl x4)], [], M0 L V b) := by
  have f0 : (r32 x4 && r32 x3) = true := rr32_of g0 g1
  have hG : ((r32 x4 && r32 x3) && true) = true := an f0 rfl
  show some ((r32 x4 && r32 x3) && true, _) = _
  rw [hG]
  try rfl

theorem B119_9 (L : Nat) (V : Mv) (b : Bool) (x1 : Nat) (x2 : Nat) (x3 : Int) (x4 : Int)  : nxs 3 119 9 [some (.inr (.inr 111)), some (.inr (.inr x1)), some (.inr (.inr x2)), some (.inl x3), some (.inl x4)] [] (M0 L V b) = some (true, 13, [some (.inr (.inr 111)), some (.inr (.inr x1)), some (.inr (.inr x2)), some (.inl x3), some (.inl x4)], [.inl x4, .inr (.inr x1), .inr (.inr 111)], M0 L V b) := by
  rfl

theorem B119_16 (L : Nat) (V : Mv) (b : Bool) (x1 : Nat) (x2 : Nat) (x3 : Int) (x4 : Int)  : nxs 2 119 16 [some (.inr (.inr 111)), some (.inr (.inr x1)), some (.inr (.inr x2)), some (.inl x3), some (.inl x4)] [] (M0 L V b) = some (true, 3, [some (.inr (.inr 111)), some (.inr (.inr x1)), some (.inr (.inr x2)), some (.inl x3), some (.inl (x4 + 1))], [], M0 L V b) := by
  rfl

theorem B119_47 (L : Nat) (V : Mv) (b : Bool) (x1 : Nat) (x2 : Nat) (x3 : Int) (x4 : Int) (s1 : Int)  : nxs 1 119 47 [some (.inr (.inr 111)), some (.inr (.inr x1)), some (.inr (.inr x2)), some (.inl x3), some (.inl x4)] [.inr (.inl s1), .inr (.inr 111)] (M0 L V b) = some (true, 50, [some (.inr (.inr 111)), some (.inr (.inr x1)), some (.inr (.inr x2)), some (.inl x3), some (.inl x4)], [], M0 L (uV V 111 0 s1) b) := by
  rfl

-- 120: MendedOrNew$Unseen.learn(LMendedOrNew$Kind;I)V
theorem B120_0 (L : Nat) (V : Mv) (b : Bool) (x1 : Nat) (x2 : Int)  : nxs 6 120 0 [some (.inr (.inr 111)), some (.inr (.inr x1)), some (.inl x2), none, none, none] [] (M0 L V b) = some (true, 8, [some (.inr (.inr 111)), some (.inr (.inr x1)), some (.inl x2), some (.inl (x2 * 8)), some (.inl 0), none], [], M0 L V b) := by
  rfl

theorem B120_8 (L : Nat) (V : Mv) (b : Bool) (x1 : Nat) (x2 : Int) (x3 : Int) (x4 : Int) (c_x1 : isK x1) (g0 : in32 x4) (g1 : in32 (V x1 0)) : nxs 4 120 8 [some (.inr (.inr 111)), some (.inr (.inr x1)), some (.inl x2), some (.inl x3), some (.inl x4), none] [] (M0 L V b) = some (true, cond (decide (V x1 0 ≤ x4)) 75 17, [some (.inr (.inr 111)), some (.inr (.inr x1)), some (.inl x2), some (.inl x3), some (.inl x4), none], [], M0 L V b) := by
  have f0 : decide ((TT L x1).1 = 64 + 2) = true := cls_of (isK_T c_x1)
  have f1 : (r32 x4 && r32 (V x1 0)) = true := rr32_of g0 g1
  have hG : (decide ((TT L x1).1 = 64 + 2) && ((r32 x4 && r32 (V x1 0)) && true)) = true := an f0 (an f1 rfl)
  show some (decide ((TT L x1).1 = 64 + 2) && ((r32 x4 && r32 (V x1 0)) && true), _) = _
  rw [hG]
  try rfl

theorem B120_17 (L : Nat) (V : Mv) (b : Bool) (x1 : Nat) (x2 : Int) (x3 : Int) (x4 : Int)  : nxs 2 120 17 [some (.inr (.inr 111)), some (.inr (.inr x1)), some (.inl x2), some (.inl x3), some (.inl x4), none] [] (M0 L V b) = some (true, 20, [some (.inr (.inr 111)), some (.inr (.inr x1)), some (.inl x2), some (.inl x3), some (.inl x4), some (.inl 0)], [], M0 L V b) := by
  rfl

theorem B120_20 (L : Nat) (V : Mv) (b : Bool) (x1 : Nat) (x2 : Int) (x3 : Int) (x4 : Int) (x5 : Int) (g0 : in32 x5) : nxs 3 120 20 [some (.inr (.inr 111)), some (.inr (.inr x1)), some (.inl x2), some (.inl x3), some (.inl x4), some (.inl x5)] [] (M0 L V b) = some (true, cond (decide (8 ≤ x5)) 54 27, [some (.inr (.inr 111)), some (.inr (.inr x1)), some (.inl x2), some (.inl x3), some (.inl x4), some (.inl x5)], [], M0 L V b) := by
  have f0 : (r32 x5 && r32 8) = true := rr32_of g0 (by decide)
  have hG : ((r32 x5 && r32 8) && true) = true := an f0 rfl
  show some ((r32 x5 && r32 8) && true, _) = _
  rw [hG]
  try rfl

theorem B120_27 (L : Nat) (V : Mv) (b : Bool) (x1 : Nat) (x2 : Int) (x3 : Int) (x4 : Int) (x5 : Int) (g0 : in32 x5) (g1 : in32 x4) : nxs 8 120 27 [some (.inr (.inr 111)), some (.inr (.inr x1)), some (.inl x2), some (.inl x3), some (.inl x4), some (.inl x5)] [] (M0 L V b) = some (true, cond (!decide (x5 = x4)) 46 42, [some (.inr (.inr 111)), some (.inr (.inr x1)), some (.inl x2), some (.inl x3), some (.inl x4), some (.inl x5)], [.inl (x3 + x5), .inr (.inr 112)], M0 L V b) := by
  have f0 : (r32 x5 && r32 x4) = true := rr32_of g0 g1
  have hG : ((r32 x5 && r32 x4) && true) = true := an f0 rfl
  show some ((r32 x5 && r32 x4) && true, _) = _
  rw [hG]
  try rfl

theorem B120_42 (L : Nat) (V : Mv) (b : Bool) (x1 : Nat) (x2 : Int) (x3 : Int) (x4 : Int) (x5 : Int) (s1 : Int)  : nxs 2 120 42 [some (.inr (.inr 111)), some (.inr (.inr x1)), some (.inl x2), some (.inl x3), some (.inl x4), some (.inl x5)] [.inl s1, .inr (.inr 119)] (M0 L V b) = some (true, 47, [some (.inr (.inr 111)), some (.inr (.inr x1)), some (.inl x2), some (.inl x3), some (.inl x4), some (.inl x5)], [.inr (.inl 1), .inl s1, .inr (.inr 119)], M0 L V b) := by
  rfl

theorem B120_46 (L : Nat) (V : Mv) (b : Bool) (x1 : Nat) (x2 : Int) (x3 : Int) (x4 : Int) (x5 : Int) (s1 : Int)  : nxs 1 120 46 [some (.inr (.inr 111)), some (.inr (.inr x1)), some (.inl x2), some (.inl x3), some (.inl x4), some (.inl x5)] [.inl s1, .inr (.inr 119)] (M0 L V b) = some (true, 47, [some (.inr (.inr 111)), some (.inr (.inr x1)), some (.inl x2), some (.inl x3), some (.inl x4), some (.inl x5)], [.inr (.inl 0), .inl s1, .inr (.inr 119)], M0 L V b) := by
  rfl

theorem B120_47 (L : Nat) (V : Mv) (b : Bool) (x1 : Nat) (x2 : Int) (x3 : Int) (x4 : Int) (x5 : Int) (s1 : Int) (s2 : Int) (g0 : 0 ≤ s1 ∧ s1 < 8) : nxs 3 120 47 [some (.inr (.inr 111)), some (.inr (.inr x1)), some (.inl x2), some (.inl x3), some (.inl x4), some (.inl x5)] [.inr (.inl s2), .inl s1, .inr (.inr 119)] (M0 L V b) = some (true, 20, [some (.inr (.inr 111)), some (.inr (.inr x1)), some (.inl x2), some (.inl x3), some (.inl x4), some (.inl (x5 + 1))], [], M0 L (uV V 119 (s1).toNat s2) b) := by
  have f0 : (gX (M0 L V b) 119 2 s1 && !Nat.beq 119 0) = true := gs_of (gx_of rfl g0) (by decide)
  have hG : ((gX (M0 L V b) 119 2 s1 && !Nat.beq 119 0) && true) = true := an f0 rfl
  show some ((gX (M0 L V b) 119 2 s1 && !Nat.beq 119 0) && true, _) = _
  rw [hG]
  try rfl

theorem B120_54 (L : Nat) (V : Mv) (b : Bool) (x1 : Nat) (x2 : Int) (x3 : Int) (x4 : Int) (x5 : Int)  : nxs 8 120 54 [some (.inr (.inr 111)), some (.inr (.inr x1)), some (.inl x2), some (.inl x3), some (.inl x4), some (.inl x5)] [] (M0 L V b) = some (true, 65, [some (.inr (.inr 111)), some (.inr (.inr x1)), some (.inl x2), some (.inl x3), some (.inl x4), some (.inl x5)], [.inl x2, .inr (.inr x1), .inr (.inr 111), .inl (x3 + x4), .inr (.inr 113)], M0 L V b) := by
  rfl

theorem B120_68 (L : Nat) (V : Mv) (b : Bool) (x1 : Nat) (x2 : Int) (x3 : Int) (x4 : Int) (x5 : Int) (s1 : Int) (s2 : Int) (g0 : 0 ≤ s1 ∧ s1 < 8) : nxs 3 120 68 [some (.inr (.inr 111)), some (.inr (.inr x1)), some (.inl x2), some (.inl x3), some (.inl x4), some (.inl x5)] [.inr (.inl s2), .inl s1, .inr (.inr 119)] (M0 L V b) = some (true, 8, [some (.inr (.inr 111)), some (.inr (.inr x1)), some (.inl x2), some (.inl x3), some (.inl (x4 + 1)), some (.inl x5)], [], M0 L (uV V 119 (s1).toNat s2) b) := by
  have f0 : (gX (M0 L V b) 119 2 s1 && !Nat.beq 119 0) = true := gs_of (gx_of rfl g0) (by decide)
  have hG : ((gX (M0 L V b) 119 2 s1 && !Nat.beq 119 0) && true) = true := an f0 rfl
  show some ((gX (M0 L V b) 119 2 s1 && !Nat.beq 119 0) && true, _) = _
  rw [hG]
  try rfl

theorem B120_75 (L : Nat) (V : Mv) (b : Bool) (x1 : Nat) (x2 : Int) (x3 : Int) (x4 : Int)  : nxs 2 120 75 [some (.inr (.inr 111)), some (.inr (.inr x1)), some (.inl x2), some (.inl x3), some (.inl x4), none] [] (M0 L V b) = some (true, 78, [some (.inr (.inr 111)), some (.inr (.inr x1)), some (.inl x2), some (.inl x3), some (.inl 0), none], [], M0 L V b) := by
  rfl

theorem B120_78 (L : Nat) (V : Mv) (b : Bool) (x1 : Nat) (x2 : Int) (x3 : Int) (x4 : Int) (c_x1 : isK x1) (g0 : in32 x4) (g1 : in32 (V x1 0)) : nxs 4 120 78 [some (.inr (.inr 111)), some (.inr (.inr x1)), some (.inl x2), some (.inl x3), some (.inl x4), none] [] (M0 L V b) = some (true, cond (decide (V x1 0 ≤ x4)) 164 87, [some (.inr (.inr 111)), some (.inr (.inr x1)), some (.inl x2), some (.inl x3), some (.inl x4), none], [], M0 L V b) := by
  have f0 : decide ((TT L x1).1 = 64 + 2) = true := cls_of (isK_T c_x1)
  have f1 : (r32 x4 && r32 (V x1 0)) = true := rr32_of g0 g1
  have hG : (decide ((TT L x1).1 = 64 + 2) && ((r32 x4 && r32 (V x1 0)) && true)) = true := an f0 (an f1 rfl)
  show some (decide ((TT L x1).1 = 64 + 2) && ((r32 x4 && r32 (V x1 0)) && true), _) = _
  rw [hG]
  try rfl

theorem B120_87 (L : Nat) (V : Mv) (b : Bool) (x1 : Nat) (x2 : Int) (x3 : Int) (x4 : Int) (g0 : 0 ≤ x3 + x4 ∧ x3 + x4 < 32) : nxs 14 120 87 [some (.inr (.inr 111)), some (.inr (.inr x1)), some (.inl x2), some (.inl x3), some (.inl x4), none] [] (M0 L V b) = some (true, 108, [some (.inr (.inr 111)), some (.inr (.inr x1)), some (.inl x2), some (.inl x3), some (.inl x4), some (.inl 0)], [], M0 L (uV V 114 (x3 + x4).toNat (V 113 (x3 + x4).toNat)) b) := by
  have f0 : gX (M0 L V b) 113 2 (x3 + x4) = true := gx_of rfl g0
  have f1 : (gX (M0 L V b) 114 2 (x3 + x4) && !Nat.beq 114 0) = true := gs_of (gx_of rfl g0) (by decide)
  have hG : (gX (M0 L V b) 113 2 (x3 + x4) && ((gX (M0 L V b) 114 2 (x3 + x4) && !Nat.beq 114 0) && true)) = true := an f0 (an f1 rfl)
  show some (gX (M0 L V b) 113 2 (x3 + x4) && ((gX (M0 L V b) 114 2 (x3 + x4) && !Nat.beq 114 0) && true), _) = _
  rw [hG]
  try rfl

theorem B120_108 (L : Nat) (V : Mv) (b : Bool) (x1 : Nat) (x2 : Int) (x3 : Int) (x4 : Int) (x5 : Int) (g0 : in32 x5) : nxs 3 120 108 [some (.inr (.inr 111)), some (.inr (.inr x1)), some (.inl x2), some (.inl x3), some (.inl x4), some (.inl x5)] [] (M0 L V b) = some (true, cond (decide (4 ≤ x5)) 158 114, [some (.inr (.inr 111)), some (.inr (.inr x1)), some (.inl x2), some (.inl x3), some (.inl x4), some (.inl x5)], [], M0 L V b) := by
  have f0 : (r32 x5 && r32 4) = true := rr32_of g0 (by decide)
  have hG : ((r32 x5 && r32 4) && true) = true := an f0 rfl
  show some ((r32 x5 && r32 4) && true, _) = _
  rw [hG]
  try rfl

theorem B120_114 (L : Nat) (V : Mv) (b : Bool) (x1 : Nat) (x2 : Int) (x3 : Int) (x4 : Int) (x5 : Int)  : nxs 2 120 114 [some (.inr (.inr 111)), some (.inr (.inr x1)), some (.inl x2), some (.inl x3), some (.inl x4), some (.inl x5)] [] (M0 L V b) = some (true, 117, [some (.inr (.inr 111)), some (.inr (.inr x1)), some (.inl x2), some (.inl x3), some (.inl x4), some (.inl x5)], [.inl x5, .inr (.inr x1)], M0 L V b) := by
  rfl

theorem B120_120 (L : Nat) (V : Mv) (b : Bool) (x1 : Nat) (x2 : Int) (x3 : Int) (x4 : Int) (x5 : Int) (s0 : Int) (g0 : in32 s0) : nxs 1 120 120 [some (.inr (.inr 111)), some (.inr (.inr x1)), some (.inl x2), some (.inl x3), some (.inl x4), some (.inl x5)] [.inl s0] (M0 L V b) = some (true, cond (decide (s0 = 0)) 152 123, [some (.inr (.inr 111)), some (.inr (.inr x1)), some (.inl x2), some (.inl x3), some (.inl x4), some (.inl x5)], [], M0 L V b) := by
  have f0 : r32 s0 = true := r32_of g0
  have hG : (r32 s0 && true) = true := an f0 rfl
  show some (r32 s0 && true, _) = _
  rw [hG]
  try rfl

theorem B120_123 (L : Nat) (V : Mv) (b : Bool) (x1 : Nat) (x2 : Int) (x3 : Int) (x4 : Int) (x5 : Int) (g0 : 0 ≤ x3 + x4 ∧ x3 + x4 < 32) : nxs 15 120 123 [some (.inr (.inr 111)), some (.inr (.inr x1)), some (.inl x2), some (.inl x3), some (.inl x4), some (.inl x5)] [] (M0 L V b) = some (true, 145, [some (.inr (.inr 111)), some (.inr (.inr x1)), some (.inl x2), some (.inl x3), some (.inl x4), some (.inl x5)], [.inl x2, .inl x5, .inr (.inr x1), .inr (.inr 111), .inr (.inl (V 114 (x3 + x4).toNat)), .inl (x3 + x4), .inr (.inr 114)], M0 L V b) := by
  have f0 : gX (M0 L V b) 114 2 (x3 + x4) = true := gx_of rfl g0
  have hG : (gX (M0 L V b) 114 2 (x3 + x4) && true) = true := an f0 rfl
  show some (gX (M0 L V b) 114 2 (x3 + x4) && true, _) = _
  rw [hG]
  try rfl

theorem B120_148 (L : Nat) (V : Mv) (b : Bool) (x1 : Nat) (x2 : Int) (x3 : Int) (x4 : Int) (x5 : Int) (s1 : Int) (s2 : Int) (s3 : Int) (g0 : in64 s2) (g1 : in64 s3) (g2 : 0 ≤ s1 ∧ s1 < 8) : nxs 2 120 148 [some (.inr (.inr 111)), some (.inr (.inr x1)), some (.inl x2), some (.inl x3), some (.inl x4), some (.inl x5)] [.inr (.inl s3), .inr (.inl s2), .inl s1, .inr (.inr 119)] (M0 L V b) = some (true, 152, [some (.inr (.inr 111)), some (.inr (.inr x1)), some (.inl x2), some (.inl x3), some (.inl x4), some (.inl x5)], [], M0 L (uV V 119 (s1).toNat (cond (decide (s3 < s2)) s3 s2)) b) := by
  have f0 : (r64 s2 && (r64 s3 && true)) = true := an (r64_of g0) (an (r64_of g1) rfl)
  have f1 : (gX (M0 L V b) 119 2 s1 && !Nat.beq 119 0) = true := gs_of (gx_of rfl g2) (by decide)
  have hG : ((r64 s2 && (r64 s3 && true)) && ((gX (M0 L V b) 119 2 s1 && !Nat.beq 119 0) && true)) = true := an f0 (an f1 rfl)
  show some ((r64 s2 && (r64 s3 && true)) && ((gX (M0 L V b) 119 2 s1 && !Nat.beq 119 0) && true), _) = _
  rw [hG]
  try rfl

theorem B120_152 (L : Nat) (V : Mv) (b : Bool) (x1 : Nat) (x2 : Int) (x3 : Int) (x4 : Int) (x5 : Int)  : nxs 2 120 152 [some (.inr (.inr 111)), some (.inr (.inr x1)), some (.inl x2), some (.inl x3), some (.inl x4), some (.inl x5)] [] (M0 L V b) = some (true, 108, [some (.inr (.inr 111)), some (.inr (.inr x1)), some (.inl x2), some (.inl x3), some (.inl x4), some (.inl (x5 + 1))], [], M0 L V b) := by
  rfl

theorem B120_158 (L : Nat) (V : Mv) (b : Bool) (x1 : Nat) (x2 : Int) (x3 : Int) (x4 : Int) (x5 : Int)  : nxs 2 120 158 [some (.inr (.inr 111)), some (.inr (.inr x1)), some (.inl x2), some (.inl x3), some (.inl x4), some (.inl x5)] [] (M0 L V b) = some (true, 78, [some (.inr (.inr 111)), some (.inr (.inr x1)), some (.inl x2), some (.inl x3), some (.inl (x4 + 1)), some (.inl x5)], [], M0 L V b) := by
  rfl

-- 121: MendedOrNew$Unseen.goOn(LMendedOrNew$Kind;I)J
theorem B121_0 (L : Nat) (V : Mv) (b : Bool) (x1 : Nat) (x2 : Int)  : nxs 4 121 0 [some (.inr (.inr 111)), some (.inr (.inr x1)), some (.inl x2), none, none, none] [] (M0 L V b) = some (true, 5, [some (.inr (.inr 111)), some (.inr (.inr x1)), some (.inl x2), some (.inr (.inl 0)), none, some (.inl 0)], [], M0 L V b) := by
  rfl

theorem B121_5 (L : Nat) (V : Mv) (b : Bool) (x1 : Nat) (x2 : Int) (x3 : Int) (x5 : Int) (c_x1 : isK x1) (g0 : in32 x5) (g1 : in32 (V x1 0)) : nxs 4 121 5 [some (.inr (.inr 111)), some (.inr (.inr x1)), some (.inl x2), some (.inr (.inl x3)), none, some (.inl x5)] [] (M0 L V b) = some (true, cond (decide (V x1 0 ≤ x5)) 44 14, [some (.inr (.inr 111)), some (.inr (.inr x1)), some (.inl x2), some (.inr (.inl x3)), none, some (.inl x5)], [], M0 L V b) := by
  have f0 : decide ((TT L x1).1 = 64 + 2) = true := cls_of (isK_T c_x1)
  have f1 : (r32 x5 && r32 (V x1 0)) = true := rr32_of g0 g1
  have hG : (decide ((TT L x1).1 = 64 + 2) && ((r32 x5 && r32 (V x1 0)) && true)) = true := an f0 (an f1 rfl)
  show some (decide ((TT L x1).1 = 64 + 2) && ((r32 x5 && r32 (V x1 0)) && true), _) = _
  rw [hG]
  try rfl

theorem B121_14 (L : Nat) (V : Mv) (b : Bool) (x1 : Nat) (x2 : Int) (x3 : Int) (x5 : Int) (g0 : 0 ≤ (x2 * 8) + x5 ∧ (x2 * 8) + x5 < 32) (c_x1 : isK x1) (g1 : 0 ≤ x5 ∧ x5 < 8) (g2 : in32 (V (x1 + 3) (x5).toNat)) : nxs 19 121 14 [some (.inr (.inr 111)), some (.inr (.inr x1)), some (.inl x2), some (.inr (.inl x3)), none, some (.inl x5)] [] (M0 L V b) = some (true, 5, [some (.inr (.inr 111)), some (.inr (.inr x1)), some (.inl x2), some (.inr (.inl (x3 + ((V 112 ((x2 * 8) + x5).toNat) * (V (x1 + 3) (x5).toNat))))), none, some (.inl (x5 + 1))], [], M0 L V b) := by
  have f0 : gX (M0 L V b) 112 2 ((x2 * 8) + x5) = true := gx_of rfl g0
  have f1 : (decide ((TT L x1).1 = 64 + 2) && decide (RR b x1 6 = some (x1 + 3))) = true := clr_of (isK_T c_x1) (isK_R6 c_x1)
  have f2 : gX (M0 L V b) (x1 + 3) 1 x5 = true := gx_of (show aT _ _ = _ from isK_A6 (L := L) c_x1) g1
  have f3 : r32 (V (x1 + 3) (x5).toNat) = true := r32_of g2
  have hG : (gX (M0 L V b) 112 2 ((x2 * 8) + x5) && ((decide ((TT L x1).1 = 64 + 2) && decide (RR b x1 6 = some (x1 + 3))) && (gX (M0 L V b) (x1 + 3) 1 x5 && (r32 (V (x1 + 3) (x5).toNat) && true)))) = true := an f0 (an f1 (an f2 (an f3 rfl)))
  show some (gX (M0 L V b) 112 2 ((x2 * 8) + x5) && ((decide ((TT L x1).1 = 64 + 2) && decide (RR b x1 6 = some (x1 + 3))) && (gX (M0 L V b) (x1 + 3) 1 x5 && (r32 (V (x1 + 3) (x5).toNat) && true))), _) = _
  rw [hG]
  try rfl

theorem B121_44 (L : Nat) (V : Mv) (b : Bool) (x1 : Nat) (x2 : Int) (x3 : Int) (x5 : Int)  : nxs 5 121 44 [some (.inr (.inr 111)), some (.inr (.inr x1)), some (.inl x2), some (.inr (.inl x3)), none, some (.inl x5)] [] (M0 L V b) = some (true, 51, [some (.inr (.inr 111)), some (.inr (.inr x1)), some (.inl x2), some (.inr (.inl x3)), none, some (.inl x5)], [.inl (x2 - 1), .inr (.inl 100), .inr (.inl x3)], M0 L V b) := by
  rfl

theorem B121_54 (L : Nat) (V : Mv) (b : Bool) (x1 : Nat) (x2 : Int) (x3 : Int) (x5 : Int) (s0 : Int) (s1 : Int) (g0 : in32 x2) : nxs 5 121 54 [some (.inr (.inr 111)), some (.inr (.inr x1)), some (.inl x2), some (.inr (.inl x3)), none, some (.inl x5)] [.inr (.inl s1), .inr (.inl s0)] (M0 L V b) = some (true, cond (decide (x2 ≤ 1)) 97 61, [some (.inr (.inr 111)), some (.inr (.inr x1)), some (.inl x2), some (.inr (.inl (s0 * s1))), none, some (.inl x5)], [], M0 L V b) := by
  have f0 : (r32 x2 && r32 1) = true := rr32_of g0 (by decide)
  have hG : ((r32 x2 && r32 1) && true) = true := an f0 rfl
  show some ((r32 x2 && r32 1) && true, _) = _
  rw [hG]
  try rfl

theorem B121_61 (L : Nat) (V : Mv) (b : Bool) (x1 : Nat) (x2 : Int) (x3 : Int) (x5 : Int)  : nxs 4 121 61 [some (.inr (.inr 111)), some (.inr (.inr x1)), some (.inl x2), some (.inr (.inl x3)), none, some (.inl x5)] [] (M0 L V b) = some (true, 65, [some (.inr (.inr 111)), some (.inr (.inr x1)), some (.inl x2), some (.inr (.inl x3)), none, some (.inl x5)], [.inl 1, .inl x2, .inr (.inr x1), .inr (.inr 111)], M0 L V b) := by
  rfl

theorem B121_68 (L : Nat) (V : Mv) (b : Bool) (x1 : Nat) (x2 : Int) (x3 : Int) (x5 : Int)  : nxs 6 121 68 [some (.inr (.inr 111)), some (.inr (.inr x1)), some (.inl x2), some (.inr (.inl x3)), none, some (.inl x5)] [] (M0 L V b) = some (true, 74, [some (.inr (.inr 111)), some (.inr (.inr x1)), some (.inl x2), some (.inr (.inl x3)), none, some (.inl x5)], [.inl (x2 - 1), .inr (.inr x1), .inr (.inr 111), .inr (.inl x3)], M0 L V b) := by
  rfl

theorem B121_77 (L : Nat) (V : Mv) (b : Bool) (x1 : Nat) (x2 : Int) (x3 : Int) (x5 : Int) (s0 : Int) (s1 : Int)  : nxs 6 121 77 [some (.inr (.inr 111)), some (.inr (.inr x1)), some (.inl x2), some (.inr (.inl x3)), none, some (.inl x5)] [.inr (.inl s1), .inr (.inl s0)] (M0 L V b) = some (true, 83, [some (.inr (.inr 111)), some (.inr (.inr x1)), some (.inl x2), some (.inr (.inl (s0 + s1))), none, some (.inl x5)], [.inl 0, .inl x2, .inr (.inr x1), .inr (.inr 111)], M0 L V b) := by
  rfl

theorem B121_86 (L : Nat) (V : Mv) (b : Bool) (x1 : Nat) (x2 : Int) (x3 : Int) (x5 : Int)  : nxs 6 121 86 [some (.inr (.inr 111)), some (.inr (.inr x1)), some (.inl x2), some (.inr (.inl x3)), none, some (.inl x5)] [] (M0 L V b) = some (true, 92, [some (.inr (.inr 111)), some (.inr (.inr x1)), some (.inl x2), some (.inr (.inl x3)), none, some (.inl x5)], [.inl (x2 - 1), .inr (.inr x1), .inr (.inr 111), .inr (.inl x3)], M0 L V b) := by
  rfl

theorem B121_95 (L : Nat) (V : Mv) (b : Bool) (x1 : Nat) (x2 : Int) (x3 : Int) (x5 : Int) (s0 : Int) (s1 : Int)  : nxs 2 121 95 [some (.inr (.inr 111)), some (.inr (.inr x1)), some (.inl x2), some (.inr (.inl x3)), none, some (.inl x5)] [.inr (.inl s1), .inr (.inl s0)] (M0 L V b) = some (true, 97, [some (.inr (.inr 111)), some (.inr (.inr x1)), some (.inl x2), some (.inr (.inl (s0 + s1))), none, some (.inl x5)], [], M0 L V b) := by
  rfl

theorem B121_97 (L : Nat) (V : Mv) (b : Bool) (x1 : Nat) (x2 : Int) (x3 : Int) (x5 : Int)  : nxs 1 121 97 [some (.inr (.inr 111)), some (.inr (.inr x1)), some (.inl x2), some (.inr (.inl x3)), none, some (.inl x5)] [] (M0 L V b) = some (true, 98, [some (.inr (.inr 111)), some (.inr (.inr x1)), some (.inl x2), some (.inr (.inl x3)), none, some (.inl x5)], [.inr (.inl x3)], M0 L V b) := by
  rfl

-- 122: MendedOrNew$Unseen.passDay(LMendedOrNew$Kind;IZ)V
theorem B122_0 (L : Nat) (V : Mv) (b : Bool) (x1 : Nat) (x2 : Int) (x3 : Int)  : nxs 2 122 0 [some (.inr (.inr 111)), some (.inr (.inr x1)), some (.inl x2), some (.inl x3), none, none, none, none] [] (M0 L V b) = some (true, 3, [some (.inr (.inr 111)), some (.inr (.inr x1)), some (.inl x2), some (.inl x3), some (.inl 0), none, none, none], [], M0 L V b) := by
  rfl

theorem B122_3 (L : Nat) (V : Mv) (b : Bool) (x1 : Nat) (x2 : Int) (x3 : Int) (x4 : Int) (c_x1 : isK x1) (g0 : in32 x4) (g1 : in32 (V x1 0)) : nxs 4 122 3 [some (.inr (.inr 111)), some (.inr (.inr x1)), some (.inl x2), some (.inl x3), some (.inl x4), none, none, none] [] (M0 L V b) = some (true, cond (decide (V x1 0 ≤ x4)) 110 12, [some (.inr (.inr 111)), some (.inr (.inr x1)), some (.inl x2), some (.inl x3), some (.inl x4), none, none, none], [], M0 L V b) := by
  have f0 : decide ((TT L x1).1 = 64 + 2) = true := cls_of (isK_T c_x1)
  have f1 : (r32 x4 && r32 (V x1 0)) = true := rr32_of g0 g1
  have hG : (decide ((TT L x1).1 = 64 + 2) && ((r32 x4 && r32 (V x1 0)) && true)) = true := an f0 (an f1 rfl)
  show some (decide ((TT L x1).1 = 64 + 2) && ((r32 x4 && r32 (V x1 0)) && true), _) = _
  rw [hG]
  try rfl

theorem B122_12 (L : Nat) (V : Mv) (b : Bool) (x1 : Nat) (x2 : Int) (x3 : Int) (x4 : Int)  : nxs 4 122 12 [some (.inr (.inr 111)), some (.inr (.inr x1)), some (.inl x2), some (.inl x3), some (.inl x4), none, none, none] [] (M0 L V b) = some (true, 18, [some (.inr (.inr 111)), some (.inr (.inr x1)), some (.inl x2), some (.inl x3), some (.inl x4), some (.inr (.inl 0)), none, some (.inl 0)], [], M0 L V b) := by
  rfl

theorem B122_18 (L : Nat) (V : Mv) (b : Bool) (x1 : Nat) (x2 : Int) (x3 : Int) (x4 : Int) (x5 : Int) (x7 : Int) (g0 : in32 x7) (g1 : in32 x4) : nxs 3 122 18 [some (.inr (.inr 111)), some (.inr (.inr x1)), some (.inl x2), some (.inl x3), some (.inl x4), some (.inr (.inl x5)), none, some (.inl x7)] [] (M0 L V b) = some (true, cond (decide (x4 < x7)) 63 25, [some (.inr (.inr 111)), some (.inr (.inr x1)), some (.inl x2), some (.inl x3), some (.inl x4), some (.inr (.inl x5)), none, some (.inl x7)], [], M0 L V b) := by
  have f0 : (r32 x7 && r32 x4) = true := rr32_of g0 g1
  have hG : ((r32 x7 && r32 x4) && true) = true := an f0 rfl
  show some ((r32 x7 && r32 x4) && true, _) = _
  rw [hG]
  try rfl

theorem B122_25 (L : Nat) (V : Mv) (b : Bool) (x1 : Nat) (x2 : Int) (x3 : Int) (x4 : Int) (x5 : Int) (x7 : Int) (g0 : 0 ≤ (x2 * 8) + x7 ∧ (x2 * 8) + x7 < 32) (c_x1 : isK x1) (g1 : 0 ≤ (x7 * 8) + x4 ∧ (x7 * 8) + x4 < 64) (g2 : in32 (V (x1 + 1) ((x7 * 8) + x4).toNat)) : nxs 23 122 25 [some (.inr (.inr 111)), some (.inr (.inr x1)), some (.inl x2), some (.inl x3), some (.inl x4), some (.inr (.inl x5)), none, some (.inl x7)] [] (M0 L V b) = some (true, 18, [some (.inr (.inr 111)), some (.inr (.inr x1)), some (.inl x2), some (.inl x3), some (.inl x4), some (.inr (.inl (x5 + ((V 112 ((x2 * 8) + x7).toNat) * (V (x1 + 1) ((x7 * 8) + x4).toNat))))), none, some (.inl (x7 + 1))], [], M0 L V b) := by
  have f0 : gX (M0 L V b) 112 2 ((x2 * 8) + x7) = true := gx_of rfl g0
  have f1 : (decide ((TT L x1).1 = 64 + 2) && decide (RR b x1 4 = some (x1 + 1))) = true := clr_of (isK_T c_x1) (isK_R4 c_x1)
  have f2 : gX (M0 L V b) (x1 + 1) 1 ((x7 * 8) + x4) = true := gx_of (show aT _ _ = _ from isK_A4 (L := L) c_x1) g1
  have f3 : r32 (V (x1 + 1) ((x7 * 8) + x4).toNat) = true := r32_of g2
  have hG : (gX (M0 L V b) 112 2 ((x2 * 8) + x7) && ((decide ((TT L x1).1 = 64 + 2) && decide (RR b x1 4 = some (x1 + 1))) && (gX (M0 L V b) (x1 + 1) 1 ((x7 * 8) + x4) && (r32 (V (x1 + 1) ((x7 * 8) + x4).toNat) && true)))) = true := an f0 (an f1 (an f2 (an f3 rfl)))
  show some (gX (M0 L V b) 112 2 ((x2 * 8) + x7) && ((decide ((TT L x1).1 = 64 + 2) && decide (RR b x1 4 = some (x1 + 1))) && (gX (M0 L V b) (x1 + 1) 1 ((x7 * 8) + x4) && (r32 (V (x1 + 1) ((x7 * 8) + x4).toNat) && true))), _) = _
  rw [hG]
  try rfl

theorem B122_63 (L : Nat) (V : Mv) (b : Bool) (x1 : Nat) (x2 : Int) (x3 : Int) (x4 : Int) (x5 : Int) (x7 : Int) (c_x1 : isK x1) (g0 : 0 ≤ x4 ∧ x4 < 8) (g1 : in32 x3) : nxs 17 122 63 [some (.inr (.inr 111)), some (.inr (.inr x1)), some (.inl x2), some (.inl x3), some (.inl x4), some (.inr (.inl x5)), none, some (.inl x7)] [] (M0 L V b) = some (true, cond (decide (x3 = 0)) 96 91, [some (.inr (.inr 111)), some (.inr (.inr x1)), some (.inl x2), some (.inl x3), some (.inl x4), some (.inr (.inl x5)), none, some (.inl (V (x1 + 4) (x4).toNat))], [.inr (.inl x5), .inl (((x2 - 1) * 8) + x4), .inr (.inr 112)], M0 L V b) := by
  have f0 : (decide ((TT L x1).1 = 64 + 2) && decide (RR b x1 7 = some (x1 + 4))) = true := clr_of (isK_T c_x1) (isK_R7 c_x1)
  have f1 : gX (M0 L V b) (x1 + 4) 1 x4 = true := gx_of (show aT _ _ = _ from isK_A7 (L := L) c_x1) g0
  have f2 : r32 x3 = true := r32_of g1
  have hG : ((decide ((TT L x1).1 = 64 + 2) && decide (RR b x1 7 = some (x1 + 4))) && (gX (M0 L V b) (x1 + 4) 1 x4 && (r32 x3 && true))) = true := an f0 (an f1 (an f2 rfl))
  show some ((decide ((TT L x1).1 = 64 + 2) && decide (RR b x1 7 = some (x1 + 4))) && (gX (M0 L V b) (x1 + 4) 1 x4 && (r32 x3 && true)), _) = _
  rw [hG]
  try rfl

theorem B122_91 (L : Nat) (V : Mv) (b : Bool) (x1 : Nat) (x2 : Int) (x3 : Int) (x4 : Int) (x5 : Int) (x7 : Int) (s1 : Int) (s2 : Int)  : nxs 2 122 91 [some (.inr (.inr 111)), some (.inr (.inr x1)), some (.inl x2), some (.inl x3), some (.inl x4), some (.inr (.inl x5)), none, some (.inl x7)] [.inr (.inl s2), .inl s1, .inr (.inr 119)] (M0 L V b) = some (true, 101, [some (.inr (.inr 111)), some (.inr (.inr x1)), some (.inl x2), some (.inl x3), some (.inl x4), some (.inr (.inl x5)), none, some (.inl x7)], [.inl x7, .inr (.inl s2), .inl s1, .inr (.inr 119)], M0 L V b) := by
  rfl

theorem B122_96 (L : Nat) (V : Mv) (b : Bool) (x1 : Nat) (x2 : Int) (x3 : Int) (x4 : Int) (x5 : Int) (x7 : Int) (s1 : Int) (s2 : Int)  : nxs 3 122 96 [some (.inr (.inr 111)), some (.inr (.inr x1)), some (.inl x2), some (.inl x3), some (.inl x4), some (.inr (.inl x5)), none, some (.inl x7)] [.inr (.inl s2), .inl s1, .inr (.inr 119)] (M0 L V b) = some (true, 101, [some (.inr (.inr 111)), some (.inr (.inr x1)), some (.inl x2), some (.inl x3), some (.inl x4), some (.inr (.inl x5)), none, some (.inl x7)], [.inl (10 - x7), .inr (.inl s2), .inl s1, .inr (.inr 119)], M0 L V b) := by
  rfl

theorem B122_101 (L : Nat) (V : Mv) (b : Bool) (x1 : Nat) (x2 : Int) (x3 : Int) (x4 : Int) (x5 : Int) (x7 : Int) (s1 : Int) (s2 : Int) (s3 : Int) (g0 : in32 s3) (g1 : 0 ≤ s1 ∧ s1 < 8) : nxs 5 122 101 [some (.inr (.inr 111)), some (.inr (.inr x1)), some (.inl x2), some (.inl x3), some (.inl x4), some (.inr (.inl x5)), none, some (.inl x7)] [.inl s3, .inr (.inl s2), .inl s1, .inr (.inr 119)] (M0 L V b) = some (true, 3, [some (.inr (.inr 111)), some (.inr (.inr x1)), some (.inl x2), some (.inl x3), some (.inl (x4 + 1)), some (.inr (.inl x5)), none, some (.inl x7)], [], M0 L (uV V 119 (s1).toNat (s2 * s3)) b) := by
  have f0 : r32 s3 = true := r32_of g0
  have f1 : (gX (M0 L V b) 119 2 s1 && !Nat.beq 119 0) = true := gs_of (gx_of rfl g1) (by decide)
  have hG : (r32 s3 && ((gX (M0 L V b) 119 2 s1 && !Nat.beq 119 0) && true)) = true := an f0 (an f1 rfl)
  show some (r32 s3 && ((gX (M0 L V b) 119 2 s1 && !Nat.beq 119 0) && true), _) = _
  rw [hG]
  try rfl

-- 123: MendedOrNew$Unseen.choose(LMendedOrNew$Kind;I)J
theorem B123_0 (L : Nat) (V : Mv) (b : Bool) (x1 : Nat) (x2 : Int)  : nxs 3 123 0 [some (.inr (.inr 111)), some (.inr (.inr x1)), some (.inl x2), none, none, none, none, none, none, none, none] [] (M0 L V b) = some (true, 3, [some (.inr (.inr 111)), some (.inr (.inr x1)), some (.inl x2), none, none, none, none, none, none, none, none], [.inl x2, .inr (.inr x1), .inr (.inr 111)], M0 L V b) := by
  rfl

theorem B123_6 (L : Nat) (V : Mv) (b : Bool) (x1 : Nat) (x2 : Int) (s0 : Int)  : nxs 9 123 6 [some (.inr (.inr 111)), some (.inr (.inr x1)), some (.inl x2), none, none, none, none, none, none, none, none] [.inr (.inl s0)] (M0 L V b) = some (true, 19, [some (.inr (.inr 111)), some (.inr (.inr x1)), some (.inl x2), some (.inr (.inl s0)), none, some (.inl 0), some (.inr (.inl 0)), none, some (.inr (.inl 0)), none, some (.inl 0)], [], M0 L V b) := by
  rfl

theorem B123_19 (L : Nat) (V : Mv) (b : Bool) (x1 : Nat) (x2 : Int) (x3 : Int) (x5 : Int) (x6 : Int) (x8 : Int) (x10 : Int) (c_x1 : isK x1) (g0 : in32 x10) (g1 : in32 (V x1 0)) : nxs 4 123 19 [some (.inr (.inr 111)), some (.inr (.inr x1)), some (.inl x2), some (.inr (.inl x3)), none, some (.inl x5), some (.inr (.inl x6)), none, some (.inr (.inl x8)), none, some (.inl x10)] [] (M0 L V b) = some (true, cond (decide (V x1 0 ≤ x10)) 81 28, [some (.inr (.inr 111)), some (.inr (.inr x1)), some (.inl x2), some (.inr (.inl x3)), none, some (.inl x5), some (.inr (.inl x6)), none, some (.inr (.inl x8)), none, some (.inl x10)], [], M0 L V b) := by
  have f0 : decide ((TT L x1).1 = 64 + 2) = true := cls_of (isK_T c_x1)
  have f1 : (r32 x10 && r32 (V x1 0)) = true := rr32_of g0 g1
  have hG : (decide ((TT L x1).1 = 64 + 2) && ((r32 x10 && r32 (V x1 0)) && true)) = true := an f0 (an f1 rfl)
  show some (decide ((TT L x1).1 = 64 + 2) && ((r32 x10 && r32 (V x1 0)) && true), _) = _
  rw [hG]
  try rfl

theorem B123_28 (L : Nat) (V : Mv) (b : Bool) (x1 : Nat) (x2 : Int) (x3 : Int) (x5 : Int) (x6 : Int) (x8 : Int) (x10 : Int) (g0 : 0 ≤ (x2 * 8) + x10 ∧ (x2 * 8) + x10 < 32) : nxs 33 123 28 [some (.inr (.inr 111)), some (.inr (.inr x1)), some (.inl x2), some (.inr (.inl x3)), none, some (.inl x5), some (.inr (.inl x6)), none, some (.inr (.inl x8)), none, some (.inl x10)] [] (M0 L V b) = some (true, 19, [some (.inr (.inr 111)), some (.inr (.inr x1)), some (.inl x2), some (.inr (.inl x3)), none, some (.inl x5), some (.inr (.inl (x6 + (V 112 ((x2 * 8) + x10).toNat)))), none, some (.inr (.inl (x8 + ((V 112 ((x2 * 8) + x10).toNat) * (V 114 ((x2 * 8) + x10).toNat))))), none, some (.inl (x10 + 1))], [], M0 L V b) := by
  have f0 : gX (M0 L V b) 112 2 ((x2 * 8) + x10) = true := gx_of rfl g0
  have f1 : gX (M0 L V b) 112 2 ((x2 * 8) + x10) = true := gx_of rfl g0
  have f2 : gX (M0 L V b) 114 2 ((x2 * 8) + x10) = true := gx_of rfl g0
  have hG : (gX (M0 L V b) 112 2 ((x2 * 8) + x10) && (gX (M0 L V b) 112 2 ((x2 * 8) + x10) && (gX (M0 L V b) 114 2 ((x2 * 8) + x10) && true))) = true := an f0 (an f1 (an f2 rfl))
  show some (gX (M0 L V b) 112 2 ((x2 * 8) + x10) && (gX (M0 L V b) 112 2 ((x2 * 8) + x10) && (gX (M0 L V b) 114 2 ((x2 * 8) + x10) && true)), _) = _
  rw [hG]
  try rfl

theorem B123_81 (L : Nat) (V : Mv) (b : Bool) (x1 : Nat) (x2 : Int) (x3 : Int) (x5 : Int) (x6 : Int) (x8 : Int) (x10 : Int)  : nxs 2 123 81 [some (.inr (.inr 111)), some (.inr (.inr x1)), some (.inl x2), some (.inr (.inl x3)), none, some (.inl x5), some (.inr (.inl x6)), none, some (.inr (.inl x8)), none, some (.inl x10)] [] (M0 L V b) = some (true, 84, [some (.inr (.inr 111)), some (.inr (.inr x1)), some (.inl x2), some (.inr (.inl x3)), none, some (.inl x5), some (.inr (.inl x6)), none, some (.inr (.inl x8)), none, some (.inl 0)], [], M0 L V b) := by
  rfl

theorem B123_84 (L : Nat) (V : Mv) (b : Bool) (x1 : Nat) (x2 : Int) (x3 : Int) (x5 : Int) (x6 : Int) (x8 : Int) (x10 : Int) (g0 : in32 x10) : nxs 3 123 84 [some (.inr (.inr 111)), some (.inr (.inr x1)), some (.inl x2), some (.inr (.inl x3)), none, some (.inl x5), some (.inr (.inl x6)), none, some (.inr (.inl x8)), none, some (.inl x10)] [] (M0 L V b) = some (true, cond (decide (4 ≤ x10)) 139 90, [some (.inr (.inr 111)), some (.inr (.inr x1)), some (.inl x2), some (.inr (.inl x3)), none, some (.inl x5), some (.inr (.inl x6)), none, some (.inr (.inl x8)), none, some (.inl x10)], [], M0 L V b) := by
  have f0 : (r32 x10 && r32 4) = true := rr32_of g0 (by decide)
  have hG : ((r32 x10 && r32 4) && true) = true := an f0 rfl
  show some ((r32 x10 && r32 4) && true, _) = _
  rw [hG]
  try rfl

theorem B123_90 (L : Nat) (V : Mv) (b : Bool) (x1 : Nat) (x2 : Int) (x3 : Int) (x5 : Int) (x6 : Int) (x8 : Int) (x10 : Int)  : nxs 2 123 90 [some (.inr (.inr 111)), some (.inr (.inr x1)), some (.inl x2), some (.inr (.inl x3)), none, some (.inl x5), some (.inr (.inl x6)), none, some (.inr (.inl x8)), none, some (.inl x10)] [] (M0 L V b) = some (true, 93, [some (.inr (.inr 111)), some (.inr (.inr x1)), some (.inl x2), some (.inr (.inl x3)), none, some (.inl x5), some (.inr (.inl x6)), none, some (.inr (.inl x8)), none, some (.inl x10)], [.inl x10, .inr (.inr x1)], M0 L V b) := by
  rfl

theorem B123_96 (L : Nat) (V : Mv) (b : Bool) (x1 : Nat) (x2 : Int) (x3 : Int) (x5 : Int) (x6 : Int) (x8 : Int) (x10 : Int) (s0 : Int) (g0 : in32 s0) : nxs 1 123 96 [some (.inr (.inr 111)), some (.inr (.inr x1)), some (.inl x2), some (.inr (.inl x3)), none, some (.inl x5), some (.inr (.inl x6)), none, some (.inr (.inl x8)), none, some (.inl x10)] [.inl s0] (M0 L V b) = some (true, cond (decide (s0 = 0)) 133 99, [some (.inr (.inr 111)), some (.inr (.inr x1)), some (.inl x2), some (.inr (.inl x3)), none, some (.inl x5), some (.inr (.inl x6)), none, some (.inr (.inl x8)), none, some (.inl x10)], [], M0 L V b) := by
  have f0 : r32 s0 = true := r32_of g0
  have hG : (r32 s0 && true) = true := an f0 rfl
  show some (r32 s0 && true, _) = _
  rw [hG]
  try rfl

theorem B123_99 (L : Nat) (V : Mv) (b : Bool) (x1 : Nat) (x2 : Int) (x3 : Int) (x5 : Int) (x6 : Int) (x8 : Int) (x10 : Int)  : nxs 5 123 99 [some (.inr (.inr 111)), some (.inr (.inr x1)), some (.inl x2), some (.inr (.inl x3)), none, some (.inl x5), some (.inr (.inl x6)), none, some (.inr (.inl x8)), none, some (.inl x10)] [] (M0 L V b) = some (true, 106, [some (.inr (.inr 111)), some (.inr (.inr x1)), some (.inl x2), some (.inr (.inl x3)), none, some (.inl x5), some (.inr (.inl x6)), none, some (.inr (.inl x8)), none, some (.inl x10)], [.inl x2, .inl x10, .inr (.inr x1), .inr (.inr 111), .inr (.inl x6)], M0 L V b) := by
  rfl

theorem B123_109 (L : Nat) (V : Mv) (b : Bool) (x1 : Nat) (x2 : Int) (x3 : Int) (x5 : Int) (x6 : Int) (x8 : Int) (x10 : Int) (s0 : Int) (s1 : Int) (g0 : in64 (s0 * s1)) (g1 : in64 x3) (g2 : in32 (cmpI (s0 * s1) x3)) : nxs 4 123 109 [some (.inr (.inr 111)), some (.inr (.inr x1)), some (.inl x2), some (.inr (.inl x3)), none, some (.inl x5), some (.inr (.inl x6)), none, some (.inr (.inl x8)), none, some (.inl x10)] [.inr (.inl s1), .inr (.inl s0)] (M0 L V b) = some (true, cond (decide (0 ≤ cmpI (s0 * s1) x3)) 133 115, [some (.inr (.inr 111)), some (.inr (.inr x1)), some (.inl x2), some (.inr (.inl x3)), none, some (.inl x5), some (.inr (.inl x6)), none, some (.inr (.inl x8)), none, some (.inl x10)], [], M0 L V b) := by
  have f0 : (r64 (s0 * s1) && r64 x3) = true := rr64_of g0 g1
  have f1 : r32 (cmpI (s0 * s1) x3) = true := r32_of g2
  have hG : ((r64 (s0 * s1) && r64 x3) && (r32 (cmpI (s0 * s1) x3) && true)) = true := an f0 (an f1 rfl)
  show some ((r64 (s0 * s1) && r64 x3) && (r32 (cmpI (s0 * s1) x3) && true), _) = _
  rw [hG]
  try rfl

theorem B123_115 (L : Nat) (V : Mv) (b : Bool) (x1 : Nat) (x2 : Int) (x3 : Int) (x5 : Int) (x6 : Int) (x8 : Int) (x10 : Int)  : nxs 5 123 115 [some (.inr (.inr 111)), some (.inr (.inr x1)), some (.inl x2), some (.inr (.inl x3)), none, some (.inl x5), some (.inr (.inl x6)), none, some (.inr (.inl x8)), none, some (.inl x10)] [] (M0 L V b) = some (true, 122, [some (.inr (.inr 111)), some (.inr (.inr x1)), some (.inl x2), some (.inr (.inl x3)), none, some (.inl x5), some (.inr (.inl x6)), none, some (.inr (.inl x8)), none, some (.inl x10)], [.inl x2, .inl x10, .inr (.inr x1), .inr (.inr 111), .inr (.inl x6)], M0 L V b) := by
  rfl

theorem B123_125 (L : Nat) (V : Mv) (b : Bool) (x1 : Nat) (x2 : Int) (x3 : Int) (x5 : Int) (x6 : Int) (x8 : Int) (x10 : Int) (s0 : Int) (s1 : Int)  : nxs 6 123 125 [some (.inr (.inr 111)), some (.inr (.inr x1)), some (.inl x2), some (.inr (.inl x3)), none, some (.inl x5), some (.inr (.inl x6)), none, some (.inr (.inl x8)), none, some (.inl x10)] [.inr (.inl s1), .inr (.inl s0)] (M0 L V b) = some (true, 133, [some (.inr (.inr 111)), some (.inr (.inr x1)), some (.inl x2), some (.inr (.inl (s0 * s1))), none, some (.inl (x10 + 1)), some (.inr (.inl x6)), none, some (.inr (.inl x8)), none, some (.inl x10)], [], M0 L V b) := by
  rfl

theorem B123_133 (L : Nat) (V : Mv) (b : Bool) (x1 : Nat) (x2 : Int) (x3 : Int) (x5 : Int) (x6 : Int) (x8 : Int) (x10 : Int)  : nxs 2 123 133 [some (.inr (.inr 111)), some (.inr (.inr x1)), some (.inl x2), some (.inr (.inl x3)), none, some (.inl x5), some (.inr (.inl x6)), none, some (.inr (.inl x8)), none, some (.inl x10)] [] (M0 L V b) = some (true, 84, [some (.inr (.inr 111)), some (.inr (.inr x1)), some (.inl x2), some (.inr (.inl x3)), none, some (.inl x5), some (.inr (.inl x6)), none, some (.inr (.inl x8)), none, some (.inl (x10 + 1))], [], M0 L V b) := by
  rfl

theorem B123_139 (L : Nat) (V : Mv) (b : Bool) (x1 : Nat) (x2 : Int) (x3 : Int) (x5 : Int) (x6 : Int) (x8 : Int) (x10 : Int) (c_x1 : isK x1) (g0 : in32 (V x1 1)) : nxs 10 123 139 [some (.inr (.inr 111)), some (.inr (.inr x1)), some (.inl x2), some (.inr (.inl x3)), none, some (.inl x5), some (.inr (.inl x6)), none, some (.inr (.inl x8)), none, some (.inl x10)] [] (M0 L V b) = some (true, 155, [some (.inr (.inr 111)), some (.inr (.inr x1)), some (.inl x2), some (.inr (.inl x3)), none, some (.inl x5), some (.inr (.inl x6)), none, some (.inr (.inl x8)), none, some (.inl x10)], [.inl (x2 - 1), .inr (.inl 100), .inr (.inl (x6 * (V x1 1))), .inr (.inl x8)], M0 L V b) := by
  have f0 : decide ((TT L x1).1 = 64 + 2) = true := cls_of (isK_T c_x1)
  have f1 : r32 (V x1 1) = true := r32_of g0
  have hG : (decide ((TT L x1).1 = 64 + 2) && (r32 (V x1 1) && true)) = true := an f0 (an f1 rfl)
  show some (decide ((TT L x1).1 = 64 + 2) && (r32 (V x1 1) && true), _) = _
  rw [hG]
  try rfl

theorem B123_158 (L : Nat) (V : Mv) (b : Bool) (x1 : Nat) (x2 : Int) (x3 : Int) (x5 : Int) (x6 : Int) (x8 : Int) (x10 : Int) (s0 : Int) (s1 : Int) (s2 : Int)  : nxs 4 123 158 [some (.inr (.inr 111)), some (.inr (.inr x1)), some (.inl x2), some (.inr (.inl x3)), none, some (.inl x5), some (.inr (.inl x6)), none, some (.inr (.inl x8)), none, some (.inl x10)] [.inr (.inl s2), .inr (.inl s1), .inr (.inl s0)] (M0 L V b) = some (true, 163, [some (.inr (.inr 111)), some (.inr (.inr x1)), some (.inl x2), some (.inr (.inl x3)), none, some (.inl x5), some (.inr (.inl x6)), none, some (.inr (.inl (s0 + (s1 * s2)))), none, some (.inl x10)], [.inr (.inr x1)], M0 L V b) := by
  rfl

theorem B123_166 (L : Nat) (V : Mv) (b : Bool) (x1 : Nat) (x2 : Int) (x3 : Int) (x5 : Int) (x6 : Int) (x8 : Int) (x10 : Int) (s0 : Int) (g0 : in32 s0) : nxs 1 123 166 [some (.inr (.inr 111)), some (.inr (.inr x1)), some (.inl x2), some (.inr (.inl x3)), none, some (.inl x5), some (.inr (.inl x6)), none, some (.inr (.inl x8)), none, some (.inl x10)] [.inl s0] (M0 L V b) = some (true, cond (decide (s0 = 0)) 182 169, [some (.inr (.inr 111)), some (.inr (.inr x1)), some (.inl x2), some (.inr (.inl x3)), none, some (.inl x5), some (.inr (.inl x6)), none, some (.inr (.inl x8)), none, some (.inl x10)], [], M0 L V b) := by
  have f0 : r32 s0 = true := r32_of g0
  have hG : (r32 s0 && true) = true := an f0 rfl
  show some (r32 s0 && true, _) = _
  rw [hG]
  try rfl

theorem B123_169 (L : Nat) (V : Mv) (b : Bool) (x1 : Nat) (x2 : Int) (x3 : Int) (x5 : Int) (x6 : Int) (x8 : Int) (x10 : Int) (g0 : in64 x8) (g1 : in64 x3) (g2 : in32 (cmpI x8 x3)) : nxs 4 123 169 [some (.inr (.inr 111)), some (.inr (.inr x1)), some (.inl x2), some (.inr (.inl x3)), none, some (.inl x5), some (.inr (.inl x6)), none, some (.inr (.inl x8)), none, some (.inl x10)] [] (M0 L V b) = some (true, cond (decide (0 ≤ cmpI x8 x3)) 182 176, [some (.inr (.inr 111)), some (.inr (.inr x1)), some (.inl x2), some (.inr (.inl x3)), none, some (.inl x5), some (.inr (.inl x6)), none, some (.inr (.inl x8)), none, some (.inl x10)], [], M0 L V b) := by
  have f0 : (r64 x8 && r64 x3) = true := rr64_of g0 g1
  have f1 : r32 (cmpI x8 x3) = true := r32_of g2
  have hG : ((r64 x8 && r64 x3) && (r32 (cmpI x8 x3) && true)) = true := an f0 (an f1 rfl)
  show some ((r64 x8 && r64 x3) && (r32 (cmpI x8 x3) && true), _) = _
  rw [hG]
  try rfl

theorem B123_176 (L : Nat) (V : Mv) (b : Bool) (x1 : Nat) (x2 : Int) (x3 : Int) (x5 : Int) (x6 : Int) (x8 : Int) (x10 : Int)  : nxs 4 123 176 [some (.inr (.inr 111)), some (.inr (.inr x1)), some (.inl x2), some (.inr (.inl x3)), none, some (.inl x5), some (.inr (.inl x6)), none, some (.inr (.inl x8)), none, some (.inl x10)] [] (M0 L V b) = some (true, 182, [some (.inr (.inr 111)), some (.inr (.inr x1)), some (.inl x2), some (.inr (.inl x8)), none, some (.inl 5), some (.inr (.inl x6)), none, some (.inr (.inl x8)), none, some (.inl x10)], [], M0 L V b) := by
  rfl

theorem B123_182 (L : Nat) (V : Mv) (b : Bool) (x1 : Nat) (x2 : Int) (x3 : Int) (x5 : Int) (x6 : Int) (x8 : Int) (x10 : Int)  : nxs 4 123 182 [some (.inr (.inr 111)), some (.inr (.inr x1)), some (.inl x2), some (.inr (.inl x3)), none, some (.inl x5), some (.inr (.inl x6)), none, some (.inr (.inl x8)), none, some (.inl x10)] [] (M0 L V b) = some (true, 189, [some (.inr (.inr 111)), some (.inr (.inr x1)), some (.inl x2), some (.inr (.inl x3)), none, some (.inl x5), some (.inr (.inl x6)), none, some (.inr (.inl x8)), none, some (.inl x10)], [.inr (.inl x3)], M0 L (uV V 111 1 x5) b) := by
  rfl

-- 124: MendedOrNew$Unseen.mended(LMendedOrNew$Kind;II)J
theorem B124_0 (L : Nat) (V : Mv) (b : Bool) (x1 : Nat) (x2 : Int) (x3 : Int) (c_x1 : isK x1) (g0 : 0 ≤ x2 ∧ x2 < 4) (g1 : in32 (V (x1 + 5) (x2).toNat)) : nxs 9 124 0 [some (.inr (.inr 111)), some (.inr (.inr x1)), some (.inl x2), some (.inl x3)] [] (M0 L V b) = some (true, 13, [some (.inr (.inr 111)), some (.inr (.inr x1)), some (.inl x2), some (.inl x3)], [.inl (x3 - 1), .inr (.inl 100), .inr (.inl (V (x1 + 5) (x2).toNat))], M0 L V b) := by
  have f0 : (decide ((TT L x1).1 = 64 + 2) && decide (RR b x1 8 = some (x1 + 5))) = true := clr_of (isK_T c_x1) (isK_R8 c_x1)
  have f1 : gX (M0 L V b) (x1 + 5) 1 x2 = true := gx_of (show aT _ _ = _ from isK_A8 (L := L) c_x1) g0
  have f2 : r32 (V (x1 + 5) (x2).toNat) = true := r32_of g1
  have hG : ((decide ((TT L x1).1 = 64 + 2) && decide (RR b x1 8 = some (x1 + 5))) && (gX (M0 L V b) (x1 + 5) 1 x2 && (r32 (V (x1 + 5) (x2).toNat) && true))) = true := an f0 (an f1 (an f2 rfl))
  show some ((decide ((TT L x1).1 = 64 + 2) && decide (RR b x1 8 = some (x1 + 5))) && (gX (M0 L V b) (x1 + 5) 1 x2 && (r32 (V (x1 + 5) (x2).toNat) && true)), _) = _
  rw [hG]
  try rfl

theorem B124_16 (L : Nat) (V : Mv) (b : Bool) (x1 : Nat) (x2 : Int) (x3 : Int) (s0 : Int) (s1 : Int) (c_x1 : isK x1) (g0 : 0 ≤ x2 ∧ x2 < 4) (g1 : 0 ≤ (x3 * 8) + (V (x1 + 6) (x2).toNat) ∧ (x3 * 8) + (V (x1 + 6) (x2).toNat) < 32) : nxs 13 124 16 [some (.inr (.inr 111)), some (.inr (.inr x1)), some (.inl x2), some (.inl x3)] [.inr (.inl s1), .inr (.inl s0)] (M0 L V b) = some (true, 34, [some (.inr (.inr 111)), some (.inr (.inr x1)), some (.inl x2), some (.inl x3)], [.inr (.inl ((s0 * s1) + (V 113 ((x3 * 8) + (V (x1 + 6) (x2).toNat)).toNat)))], M0 L V b) := by
  have f0 : (decide ((TT L x1).1 = 64 + 2) && decide (RR b x1 9 = some (x1 + 6))) = true := clr_of (isK_T c_x1) (isK_R9 c_x1)
  have f1 : gX (M0 L V b) (x1 + 6) 1 x2 = true := gx_of (show aT _ _ = _ from isK_A9 (L := L) c_x1) g0
  have f2 : gX (M0 L V b) 113 2 ((x3 * 8) + (V (x1 + 6) (x2).toNat)) = true := gx_of rfl g1
  have hG : ((decide ((TT L x1).1 = 64 + 2) && decide (RR b x1 9 = some (x1 + 6))) && (gX (M0 L V b) (x1 + 6) 1 x2 && (gX (M0 L V b) 113 2 ((x3 * 8) + (V (x1 + 6) (x2).toNat)) && true))) = true := an f0 (an f1 (an f2 rfl))
  show some ((decide ((TT L x1).1 = 64 + 2) && decide (RR b x1 9 = some (x1 + 6))) && (gX (M0 L V b) (x1 + 6) 1 x2 && (gX (M0 L V b) 113 2 ((x3 * 8) + (V (x1 + 6) (x2).toNat)) && true)), _) = _
  rw [hG]
  try rfl

-- 126: MendedOrNew$Two.find(LMendedOrNew$Kind;LMendedOrNew$Kind;I)V
theorem B126_0 (L : Nat) (V : Mv) (b : Bool) (x1 : Nat) (x2 : Nat) (x3 : Int)  : nxs 2 126 0 [some (.inr (.inr 115)), some (.inr (.inr x1)), some (.inr (.inr x2)), some (.inl x3), none, none, none, none, none, none] [] (M0 L V b) = some (true, 3, [some (.inr (.inr 115)), some (.inr (.inr x1)), some (.inr (.inr x2)), some (.inl x3), some (.inl 0), none, none, none, none, none], [], M0 L V b) := by
  rfl

theorem B126_3 (L : Nat) (V : Mv) (b : Bool) (x1 : Nat) (x2 : Nat) (x3 : Int) (x4 : Int) (g0 : in32 x4) : nxs 3 126 3 [some (.inr (.inr 115)), some (.inr (.inr x1)), some (.inr (.inr x2)), some (.inl x3), some (.inl x4), none, none, none, none, none] [] (M0 L V b) = some (true, cond (decide (64 ≤ x4)) 24 10, [some (.inr (.inr 115)), some (.inr (.inr x1)), some (.inr (.inr x2)), some (.inl x3), some (.inl x4), none, none, none, none, none], [], M0 L V b) := by
  have f0 : (r32 x4 && r32 64) = true := rr32_of g0 (by decide)
  have hG : ((r32 x4 && r32 64) && true) = true := an f0 rfl
  show some ((r32 x4 && r32 64) && true, _) = _
  rw [hG]
  try rfl

theorem B126_24 (L : Nat) (V : Mv) (b : Bool) (x1 : Nat) (x2 : Nat) (x3 : Int) (x4 : Int)  : nxs 4 126 24 [some (.inr (.inr 115)), some (.inr (.inr x1)), some (.inr (.inr x2)), some (.inl x3), some (.inl x4), none, none, none, none, none] [] (M0 L V b) = some (true, 30, [some (.inr (.inr 115)), some (.inr (.inr x1)), some (.inr (.inr x2)), some (.inl x3), some (.inr (.inl 1)), none, some (.inl 1), none, none, none], [], M0 L V b) := by
  rfl

theorem B126_30 (L : Nat) (V : Mv) (b : Bool) (x1 : Nat) (x2 : Nat) (x3 : Int) (x4 : Int) (x6 : Int) (g0 : in32 x6) (g1 : in32 x3) : nxs 3 126 30 [some (.inr (.inr 115)), some (.inr (.inr x1)), some (.inr (.inr x2)), some (.inl x3), some (.inr (.inl x4)), none, some (.inl x6), none, none, none] [] (M0 L V b) = some (true, cond (decide (x3 < x6)) 118 36, [some (.inr (.inr 115)), some (.inr (.inr x1)), some (.inr (.inr x2)), some (.inl x3), some (.inr (.inl x4)), none, some (.inl x6), none, none, none], [], M0 L V b) := by
  have f0 : (r32 x6 && r32 x3) = true := rr32_of g0 g1
  have hG : ((r32 x6 && r32 x3) && true) = true := an f0 rfl
  show some ((r32 x6 && r32 x3) && true, _) = _
  rw [hG]
  try rfl

theorem B126_59 (L : Nat) (V : Mv) (b : Bool) (x1 : Nat) (x2 : Nat) (x3 : Int) (x4 : Int) (x6 : Int) (x8 : Int) (c_x1 : isK x1) (g0 : in32 x8) (g1 : in32 (V x1 0)) : nxs 4 126 59 [some (.inr (.inr 115)), some (.inr (.inr x1)), some (.inr (.inr x2)), some (.inl x3), some (.inr (.inl x4)), none, some (.inl x6), some (.inr (.inr 119)), some (.inl x8), none] [] (M0 L V b) = some (true, cond (decide (V x1 0 ≤ x8)) 104 68, [some (.inr (.inr 115)), some (.inr (.inr x1)), some (.inr (.inr x2)), some (.inl x3), some (.inr (.inl x4)), none, some (.inl x6), some (.inr (.inr 119)), some (.inl x8), none], [], M0 L V b) := by
  have f0 : decide ((TT L x1).1 = 64 + 2) = true := cls_of (isK_T c_x1)
  have f1 : (r32 x8 && r32 (V x1 0)) = true := rr32_of g0 g1
  have hG : (decide ((TT L x1).1 = 64 + 2) && ((r32 x8 && r32 (V x1 0)) && true)) = true := an f0 (an f1 rfl)
  show some (decide ((TT L x1).1 = 64 + 2) && ((r32 x8 && r32 (V x1 0)) && true), _) = _
  rw [hG]
  try rfl

theorem B126_68 (L : Nat) (V : Mv) (b : Bool) (x1 : Nat) (x2 : Nat) (x3 : Int) (x4 : Int) (x6 : Int) (x8 : Int)  : nxs 2 126 68 [some (.inr (.inr 115)), some (.inr (.inr x1)), some (.inr (.inr x2)), some (.inl x3), some (.inr (.inl x4)), none, some (.inl x6), some (.inr (.inr 119)), some (.inl x8), none] [] (M0 L V b) = some (true, 71, [some (.inr (.inr 115)), some (.inr (.inr x1)), some (.inr (.inr x2)), some (.inl x3), some (.inr (.inl x4)), none, some (.inl x6), some (.inr (.inr 119)), some (.inl x8), some (.inl 0)], [], M0 L V b) := by
  rfl

theorem B126_71 (L : Nat) (V : Mv) (b : Bool) (x1 : Nat) (x2 : Nat) (x3 : Int) (x4 : Int) (x6 : Int) (x8 : Int) (x9 : Int) (c_x2 : isK x2) (g0 : in32 x9) (g1 : in32 (V x2 0)) : nxs 4 126 71 [some (.inr (.inr 115)), some (.inr (.inr x1)), some (.inr (.inr x2)), some (.inl x3), some (.inr (.inl x4)), none, some (.inl x6), some (.inr (.inr 119)), some (.inl x8), some (.inl x9)] [] (M0 L V b) = some (true, cond (decide (V x2 0 ≤ x9)) 98 80, [some (.inr (.inr 115)), some (.inr (.inr x1)), some (.inr (.inr x2)), some (.inl x3), some (.inr (.inl x4)), none, some (.inl x6), some (.inr (.inr 119)), some (.inl x8), some (.inl x9)], [], M0 L V b) := by
  have f0 : decide ((TT L x2).1 = 64 + 2) = true := cls_of (isK_T c_x2)
  have f1 : (r32 x9 && r32 (V x2 0)) = true := rr32_of g0 g1
  have hG : (decide ((TT L x2).1 = 64 + 2) && ((r32 x9 && r32 (V x2 0)) && true)) = true := an f0 (an f1 rfl)
  show some (decide ((TT L x2).1 = 64 + 2) && ((r32 x9 && r32 (V x2 0)) && true), _) = _
  rw [hG]
  try rfl

theorem B126_80 (L : Nat) (V : Mv) (b : Bool) (x1 : Nat) (x2 : Nat) (x3 : Int) (x4 : Int) (x6 : Int) (x8 : Int) (x9 : Int)  : nxs 6 126 80 [some (.inr (.inr 115)), some (.inr (.inr x1)), some (.inr (.inr x2)), some (.inl x3), some (.inr (.inl x4)), none, some (.inl x6), some (.inr (.inr 119)), some (.inl x8), some (.inl x9)] [] (M0 L V b) = some (true, 89, [some (.inr (.inr 115)), some (.inr (.inr x1)), some (.inr (.inr x2)), some (.inl x3), some (.inr (.inl x4)), none, some (.inl x6), some (.inr (.inr 119)), some (.inl x8), some (.inl x9)], [.inr (.inl x4), .inl x9, .inr (.inr x2), .inl x8, .inr (.inr x1), .inr (.inr 115)], M0 L V b) := by
  rfl

theorem B126_92 (L : Nat) (V : Mv) (b : Bool) (x1 : Nat) (x2 : Nat) (x3 : Int) (x4 : Int) (x6 : Int) (x8 : Int) (x9 : Int)  : nxs 2 126 92 [some (.inr (.inr 115)), some (.inr (.inr x1)), some (.inr (.inr x2)), some (.inl x3), some (.inr (.inl x4)), none, some (.inl x6), some (.inr (.inr 119)), some (.inl x8), some (.inl x9)] [] (M0 L V b) = some (true, 71, [some (.inr (.inr 115)), some (.inr (.inr x1)), some (.inr (.inr x2)), some (.inl x3), some (.inr (.inl x4)), none, some (.inl x6), some (.inr (.inr 119)), some (.inl x8), some (.inl (x9 + 1))], [], M0 L V b) := by
  rfl

theorem B126_98 (L : Nat) (V : Mv) (b : Bool) (x1 : Nat) (x2 : Nat) (x3 : Int) (x4 : Int) (x6 : Int) (x8 : Int) (x9 : Int)  : nxs 2 126 98 [some (.inr (.inr 115)), some (.inr (.inr x1)), some (.inr (.inr x2)), some (.inl x3), some (.inr (.inl x4)), none, some (.inl x6), some (.inr (.inr 119)), some (.inl x8), some (.inl x9)] [] (M0 L V b) = some (true, 59, [some (.inr (.inr 115)), some (.inr (.inr x1)), some (.inr (.inr x2)), some (.inl x3), some (.inr (.inl x4)), none, some (.inl x6), some (.inr (.inr 119)), some (.inl (x8 + 1)), some (.inl x9)], [], M0 L V b) := by
  rfl

theorem B126_104 (L : Nat) (V : Mv) (b : Bool) (x1 : Nat) (x2 : Nat) (x3 : Int) (x4 : Int) (x6 : Int) (x8 : Int)  : nxs 6 126 104 [some (.inr (.inr 115)), some (.inr (.inr x1)), some (.inr (.inr x2)), some (.inl x3), some (.inr (.inl x4)), none, some (.inl x6), some (.inr (.inr 119)), some (.inl x8), none] [] (M0 L V b) = some (true, 30, [some (.inr (.inr 115)), some (.inr (.inr x1)), some (.inr (.inr x2)), some (.inl x3), some (.inr (.inl (x4 * 10))), none, some (.inl (x6 + 1)), some (.inr (.inr 119)), some (.inl x8), none], [], M0 L V b) := by
  rfl

-- 127: MendedOrNew$Two.choose(LMendedOrNew$Kind;ILMendedOrNew$Kind;IJ)V
theorem B127_0 (L : Nat) (V : Mv) (b : Bool) (x1 : Nat) (x2 : Int) (x3 : Nat) (x4 : Int) (x5 : Int) (c_x1 : isK x1) (g0 : 0 ≤ x2 ∧ x2 < 8) (g1 : in32 (V (x1 + 3) (x2).toNat)) : nxs 10 127 0 [some (.inr (.inr 115)), some (.inr (.inr x1)), some (.inl x2), some (.inr (.inr x3)), some (.inl x4), some (.inr (.inl x5)), none, none, none, none, none, none] [] (M0 L V b) = some (true, 15, [some (.inr (.inr 115)), some (.inr (.inr x1)), some (.inl x2), some (.inr (.inr x3)), some (.inl x4), some (.inr (.inl x5)), none, some (.inr (.inl ((V (x1 + 3) (x2).toNat) * x5))), none, some (.inl x2), none, none], [], M0 L V b) := by
  have f0 : (decide ((TT L x1).1 = 64 + 2) && decide (RR b x1 6 = some (x1 + 3))) = true := clr_of (isK_T c_x1) (isK_R6 c_x1)
  have f1 : gX (M0 L V b) (x1 + 3) 1 x2 = true := gx_of (show aT _ _ = _ from isK_A6 (L := L) c_x1) g0
  have f2 : r32 (V (x1 + 3) (x2).toNat) = true := r32_of g1
  have hG : ((decide ((TT L x1).1 = 64 + 2) && decide (RR b x1 6 = some (x1 + 3))) && (gX (M0 L V b) (x1 + 3) 1 x2 && (r32 (V (x1 + 3) (x2).toNat) && true))) = true := an f0 (an f1 (an f2 rfl))
  show some ((decide ((TT L x1).1 = 64 + 2) && decide (RR b x1 6 = some (x1 + 3))) && (gX (M0 L V b) (x1 + 3) 1 x2 && (r32 (V (x1 + 3) (x2).toNat) && true)), _) = _
  rw [hG]
  try rfl

theorem B127_15 (L : Nat) (V : Mv) (b : Bool) (x1 : Nat) (x2 : Int) (x3 : Nat) (x4 : Int) (x5 : Int) (x7 : Int) (x9 : Int) (c_x1 : isK x1) (g0 : in32 x9) (g1 : in32 (V x1 0)) : nxs 4 127 15 [some (.inr (.inr 115)), some (.inr (.inr x1)), some (.inl x2), some (.inr (.inr x3)), some (.inl x4), some (.inr (.inl x5)), none, some (.inr (.inl x7)), none, some (.inl x9), none, none] [] (M0 L V b) = some (true, cond (decide (V x1 0 ≤ x9)) 62 24, [some (.inr (.inr 115)), some (.inr (.inr x1)), some (.inl x2), some (.inr (.inr x3)), some (.inl x4), some (.inr (.inl x5)), none, some (.inr (.inl x7)), none, some (.inl x9), none, none], [], M0 L V b) := by
  have f0 : decide ((TT L x1).1 = 64 + 2) = true := cls_of (isK_T c_x1)
  have f1 : (r32 x9 && r32 (V x1 0)) = true := rr32_of g0 g1
  have hG : (decide ((TT L x1).1 = 64 + 2) && ((r32 x9 && r32 (V x1 0)) && true)) = true := an f0 (an f1 rfl)
  show some (decide ((TT L x1).1 = 64 + 2) && ((r32 x9 && r32 (V x1 0)) && true), _) = _
  rw [hG]
  try rfl

theorem B127_62 (L : Nat) (V : Mv) (b : Bool) (x1 : Nat) (x2 : Int) (x3 : Nat) (x4 : Int) (x5 : Int) (x7 : Int) (x9 : Int) (c_x3 : isK x3) (g0 : 0 ≤ x4 ∧ x4 < 8) (g1 : in32 (V (x3 + 3) (x4).toNat)) : nxs 10 127 62 [some (.inr (.inr 115)), some (.inr (.inr x1)), some (.inl x2), some (.inr (.inr x3)), some (.inl x4), some (.inr (.inl x5)), none, some (.inr (.inl x7)), none, some (.inl x9), none, none] [] (M0 L V b) = some (true, 79, [some (.inr (.inr 115)), some (.inr (.inr x1)), some (.inl x2), some (.inr (.inr x3)), some (.inl x4), some (.inr (.inl x5)), none, some (.inr (.inl x7)), none, some (.inr (.inl ((V (x3 + 3) (x4).toNat) * x5))), none, some (.inl x4)], [], M0 L V b) := by
  have f0 : (decide ((TT L x3).1 = 64 + 2) && decide (RR b x3 6 = some (x3 + 3))) = true := clr_of (isK_T c_x3) (isK_R6 c_x3)
  have f1 : gX (M0 L V b) (x3 + 3) 1 x4 = true := gx_of (show aT _ _ = _ from isK_A6 (L := L) c_x3) g0
  have f2 : r32 (V (x3 + 3) (x4).toNat) = true := r32_of g1
  have hG : ((decide ((TT L x3).1 = 64 + 2) && decide (RR b x3 6 = some (x3 + 3))) && (gX (M0 L V b) (x3 + 3) 1 x4 && (r32 (V (x3 + 3) (x4).toNat) && true))) = true := an f0 (an f1 (an f2 rfl))
  show some ((decide ((TT L x3).1 = 64 + 2) && decide (RR b x3 6 = some (x3 + 3))) && (gX (M0 L V b) (x3 + 3) 1 x4 && (r32 (V (x3 + 3) (x4).toNat) && true)), _) = _
  rw [hG]
  try rfl

theorem B127_79 (L : Nat) (V : Mv) (b : Bool) (x1 : Nat) (x2 : Int) (x3 : Nat) (x4 : Int) (x5 : Int) (x7 : Int) (x9 : Int) (x11 : Int) (c_x3 : isK x3) (g0 : in32 x11) (g1 : in32 (V x3 0)) : nxs 4 127 79 [some (.inr (.inr 115)), some (.inr (.inr x1)), some (.inl x2), some (.inr (.inr x3)), some (.inl x4), some (.inr (.inl x5)), none, some (.inr (.inl x7)), none, some (.inr (.inl x9)), none, some (.inl x11)] [] (M0 L V b) = some (true, cond (decide (V x3 0 ≤ x11)) 126 88, [some (.inr (.inr 115)), some (.inr (.inr x1)), some (.inl x2), some (.inr (.inr x3)), some (.inl x4), some (.inr (.inl x5)), none, some (.inr (.inl x7)), none, some (.inr (.inl x9)), none, some (.inl x11)], [], M0 L V b) := by
  have f0 : decide ((TT L x3).1 = 64 + 2) = true := cls_of (isK_T c_x3)
  have f1 : (r32 x11 && r32 (V x3 0)) = true := rr32_of g0 g1
  have hG : (decide ((TT L x3).1 = 64 + 2) && ((r32 x11 && r32 (V x3 0)) && true)) = true := an f0 (an f1 rfl)
  show some (decide ((TT L x3).1 = 64 + 2) && ((r32 x11 && r32 (V x3 0)) && true), _) = _
  rw [hG]
  try rfl

theorem B127_164 (L : Nat) (V : Mv) (b : Bool) (x1 : Nat) (x2 : Int) (x3 : Nat) (x4 : Int) (x5 : Int) (x7 : Int) (x9 : Int) (x11 : Int) (s0 : Nat) (s1 : Int) (n_s0 : Nat) (t_s0 : TT L s0 = (1, n_s0)) : nxs 2 127 164 [some (.inr (.inr 115)), some (.inr (.inr x1)), some (.inl x2), some (.inr (.inr x3)), some (.inl x4), some (.inr (.inl x5)), none, some (.inr (.inl x7)), none, some (.inr (.inl x9)), none, some (.inl x11)] [.inl s1, .inr (.inr s0)] (M0 L V b) = some (true, 169, [some (.inr (.inr 115)), some (.inr (.inr x1)), some (.inl x2), some (.inr (.inr x3)), some (.inl x4), some (.inr (.inl x5)), none, some (.inr (.inl x7)), none, some (.inr (.inl x9)), none, some (.inl x11)], [.inl 1, .inl s1, .inr (.inr s0)], M0 L V b) := by
  rfl

theorem B127_168 (L : Nat) (V : Mv) (b : Bool) (x1 : Nat) (x2 : Int) (x3 : Nat) (x4 : Int) (x5 : Int) (x7 : Int) (x9 : Int) (x11 : Int) (s0 : Nat) (s1 : Int) (n_s0 : Nat) (t_s0 : TT L s0 = (1, n_s0)) : nxs 1 127 168 [some (.inr (.inr 115)), some (.inr (.inr x1)), some (.inl x2), some (.inr (.inr x3)), some (.inl x4), some (.inr (.inl x5)), none, some (.inr (.inl x7)), none, some (.inr (.inl x9)), none, some (.inl x11)] [.inl s1, .inr (.inr s0)] (M0 L V b) = some (true, 169, [some (.inr (.inr 115)), some (.inr (.inr x1)), some (.inl x2), some (.inr (.inr x3)), some (.inl x4), some (.inr (.inl x5)), none, some (.inr (.inl x7)), none, some (.inr (.inl x9)), none, some (.inl x11)], [.inl 0, .inl s1, .inr (.inr s0)], M0 L V b) := by
  rfl

theorem B127_169 (L : Nat) (V : Mv) (b : Bool) (x1 : Nat) (x2 : Int) (x3 : Nat) (x4 : Int) (x5 : Int) (x7 : Int) (x9 : Int) (x11 : Int) (s0 : Nat) (s1 : Int) (s2 : Int) (n_s0 : Nat) (t_s0 : TT L s0 = (1, n_s0)) (g0 : 0 ≤ s1 ∧ s1 < (n_s0 : Int)) (z_s0 : s0 ≠ 0) : nxs 1 127 169 [some (.inr (.inr 115)), some (.inr (.inr x1)), some (.inl x2), some (.inr (.inr x3)), some (.inl x4), some (.inr (.inl x5)), none, some (.inr (.inl x7)), none, some (.inr (.inl x9)), none, some (.inl x11)] [.inl s2, .inl s1, .inr (.inr s0)] (M0 L V b) = some (true, 170, [some (.inr (.inr 115)), some (.inr (.inr x1)), some (.inl x2), some (.inr (.inr x3)), some (.inl x4), some (.inr (.inl x5)), none, some (.inr (.inl x7)), none, some (.inr (.inl x9)), none, some (.inl x11)], [], M0 L (uV V s0 (s1).toNat s2) b) := by
  have f0 : (gX (M0 L V b) s0 1 s1 && !Nat.beq s0 0) = true := gs_of (gx_of (show aT _ _ = _ from t_s0) g0) z_s0
  have hG : ((gX (M0 L V b) s0 1 s1 && !Nat.beq s0 0) && true) = true := an f0 rfl
  show some ((gX (M0 L V b) s0 1 s1 && !Nat.beq s0 0) && true, _) = _
  rw [hG]
  try rfl

-- 128: MendedOrNew$Two.least(II)J
-- 129: MendedOrNew$Two.first(II)I
theorem B129_0 (L : Nat) (V : Mv) (b : Bool) (x1 : Int) (x2 : Int) (g0 : 0 ≤ (x1 * 8) + x2 ∧ (x1 * 8) + x2 < 64) : nxs 8 129 0 [some (.inr (.inr 115)), some (.inl x1), some (.inl x2)] [] (M0 L V b) = some (true, 11, [some (.inr (.inr 115)), some (.inl x1), some (.inl x2)], [.inl (V 118 ((x1 * 8) + x2).toNat)], M0 L V b) := by
  have f0 : gX (M0 L V b) 118 1 ((x1 * 8) + x2) = true := gx_of rfl g0
  have hG : (gX (M0 L V b) 118 1 ((x1 * 8) + x2) && true) = true := an f0 rfl
  show some (gX (M0 L V b) 118 1 ((x1 * 8) + x2) && true, _) = _
  rw [hG]
  try rfl

-- 230: java/lang/Long.compare(JJ)I
theorem B230_0 (L : Nat) (V : Mv) (b : Bool) (x0 : Int) (x2 : Int) (g0 : in64 x0) (g1 : in64 x2) (g2 : in32 (cmpI x0 x2)) : nxs 4 230 0 [some (.inr (.inl x0)), none, some (.inr (.inl x2)), none] [] (M0 L V b) = some (true, cond (decide (0 ≤ cmpI x0 x2)) 10 6, [some (.inr (.inl x0)), none, some (.inr (.inl x2)), none], [], M0 L V b) := by
  have f0 : (r64 x0 && r64 x2) = true := rr64_of g0 g1
  have f1 : r32 (cmpI x0 x2) = true := r32_of g2
  have hG : ((r64 x0 && r64 x2) && (r32 (cmpI x0 x2) && true)) = true := an f0 (an f1 rfl)
  show some ((r64 x0 && r64 x2) && (r32 (cmpI x0 x2) && true), _) = _
  rw [hG]
  try rfl

theorem B230_6 (L : Nat) (V : Mv) (b : Bool) (x0 : Int) (x2 : Int)  : nxs 2 230 6 [some (.inr (.inl x0)), none, some (.inr (.inl x2)), none] [] (M0 L V b) = some (true, 21, [some (.inr (.inl x0)), none, some (.inr (.inl x2)), none], [.inl (-1)], M0 L V b) := by
  rfl

theorem B230_10 (L : Nat) (V : Mv) (b : Bool) (x0 : Int) (x2 : Int) (g0 : in64 x0) (g1 : in64 x2) (g2 : in32 (cmpI x0 x2)) : nxs 4 230 10 [some (.inr (.inl x0)), none, some (.inr (.inl x2)), none] [] (M0 L V b) = some (true, cond (!decide (cmpI x0 x2 = 0)) 20 16, [some (.inr (.inl x0)), none, some (.inr (.inl x2)), none], [], M0 L V b) := by
  have f0 : (r64 x0 && r64 x2) = true := rr64_of g0 g1
  have f1 : r32 (cmpI x0 x2) = true := r32_of g2
  have hG : ((r64 x0 && r64 x2) && (r32 (cmpI x0 x2) && true)) = true := an f0 (an f1 rfl)
  show some ((r64 x0 && r64 x2) && (r32 (cmpI x0 x2) && true), _) = _
  rw [hG]
  try rfl

theorem B230_16 (L : Nat) (V : Mv) (b : Bool) (x0 : Int) (x2 : Int)  : nxs 2 230 16 [some (.inr (.inl x0)), none, some (.inr (.inl x2)), none] [] (M0 L V b) = some (true, 21, [some (.inr (.inl x0)), none, some (.inr (.inl x2)), none], [.inl 0], M0 L V b) := by
  rfl

theorem B230_20 (L : Nat) (V : Mv) (b : Bool) (x0 : Int) (x2 : Int)  : nxs 1 230 20 [some (.inr (.inl x0)), none, some (.inr (.inl x2)), none] [] (M0 L V b) = some (true, 21, [some (.inr (.inl x0)), none, some (.inr (.inl x2)), none], [.inl 1], M0 L V b) := by
  rfl

-- 231: java/lang/Integer.bitCount(I)I
theorem B231_0 (L : Nat) (V : Mv) (b : Bool) (x0 : Int)  : nxs 41 231 0 [some (.inl x0)] [] (M0 L V b) = some (true, 52, [some (.inl (((oAnd (((oAnd (x0 - (oAnd (oUshr x0 1) 1431655765)) 858993459) + (oAnd (oUshr (x0 - (oAnd (oUshr x0 1) 1431655765)) 2) 858993459)) + (oUshr ((oAnd (x0 - (oAnd (oUshr x0 1) 1431655765)) 858993459) + (oAnd (oUshr (x0 - (oAnd (oUshr x0 1) 1431655765)) 2) 858993459)) 4)) 252645135) + (oUshr (oAnd (((oAnd (x0 - (oAnd (oUshr x0 1) 1431655765)) 858993459) + (oAnd (oUshr (x0 - (oAnd (oUshr x0 1) 1431655765)) 2) 858993459)) + (oUshr ((oAnd (x0 - (oAnd (oUshr x0 1) 1431655765)) 858993459) + (oAnd (oUshr (x0 - (oAnd (oUshr x0 1) 1431655765)) 2) 858993459)) 4)) 252645135) 8)) + (oUshr ((oAnd (((oAnd (x0 - (oAnd (oUshr x0 1) 1431655765)) 858993459) + (oAnd (oUshr (x0 - (oAnd (oUshr x0 1) 1431655765)) 2) 858993459)) + (oUshr ((oAnd (x0 - (oAnd (oUshr x0 1) 1431655765)) 858993459) + (oAnd (oUshr (x0 - (oAnd (oUshr x0 1) 1431655765)) 2) 858993459)) 4)) 252645135) + (oUshr (oAnd (((oAnd (x0 - (oAnd (oUshr x0 1) 1431655765)) 858993459) + (oAnd (oUshr (x0 - (oAnd (oUshr x0 1) 1431655765)) 2) 858993459)) + (oUshr ((oAnd (x0 - (oAnd (oUshr x0 1) 1431655765)) 858993459) + (oAnd (oUshr (x0 - (oAnd (oUshr x0 1) 1431655765)) 2) 858993459)) 4)) 252645135) 8)) 16)))], [.inl (oAnd (((oAnd (((oAnd (x0 - (oAnd (oUshr x0 1) 1431655765)) 858993459) + (oAnd (oUshr (x0 - (oAnd (oUshr x0 1) 1431655765)) 2) 858993459)) + (oUshr ((oAnd (x0 - (oAnd (oUshr x0 1) 1431655765)) 858993459) + (oAnd (oUshr (x0 - (oAnd (oUshr x0 1) 1431655765)) 2) 858993459)) 4)) 252645135) + (oUshr (oAnd (((oAnd (x0 - (oAnd (oUshr x0 1) 1431655765)) 858993459) + (oAnd (oUshr (x0 - (oAnd (oUshr x0 1) 1431655765)) 2) 858993459)) + (oUshr ((oAnd (x0 - (oAnd (oUshr x0 1) 1431655765)) 858993459) + (oAnd (oUshr (x0 - (oAnd (oUshr x0 1) 1431655765)) 2) 858993459)) 4)) 252645135) 8)) + (oUshr ((oAnd (((oAnd (x0 - (oAnd (oUshr x0 1) 1431655765)) 858993459) + (oAnd (oUshr (x0 - (oAnd (oUshr x0 1) 1431655765)) 2) 858993459)) + (oUshr ((oAnd (x0 - (oAnd (oUshr x0 1) 1431655765)) 858993459) + (oAnd (oUshr (x0 - (oAnd (oUshr x0 1) 1431655765)) 2) 858993459)) 4)) 252645135) + (oUshr (oAnd (((oAnd (x0 - (oAnd (oUshr x0 1) 1431655765)) 858993459) + (oAnd (oUshr (x0 - (oAnd (oUshr x0 1) 1431655765)) 2) 858993459)) + (oUshr ((oAnd (x0 - (oAnd (oUshr x0 1) 1431655765)) 858993459) + (oAnd (oUshr (x0 - (oAnd (oUshr x0 1) 1431655765)) 2) 858993459)) 4)) 252645135) 8)) 16)) 63)], M0 L V b) := by
  rfl

