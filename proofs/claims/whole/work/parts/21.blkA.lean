/-! BLOCKS, by program (gen5.py) -/
-- 2: MendedOrNew.write(IJ)I
theorem B2_0 (L : Nat) (V : Mv) (b : Bool) (x1 : Int) (x2 : Int) (g0 : in32 x1) : nxs 3 2 0 [some (.inr (.inr 1)), some (.inl x1), some (.inr (.inl x2)), none] [] (M0 L V b) = some (true, cond (decide (x1 < 1)) 11 5, [some (.inr (.inr 1)), some (.inl x1), some (.inr (.inl x2)), none], [], M0 L V b) := by
  have f0 : (r32 x1 && r32 1) = true := rr32_of g0 (by decide)
  have hG : ((r32 x1 && r32 1) && true) = true := an f0 rfl
  show some ((r32 x1 && r32 1) && true, _) = _
  rw [hG]
  try rfl

theorem B2_5 (L : Nat) (V : Mv) (b : Bool) (x1 : Int) (x2 : Int) (g0 : in32 x1) : nxs 3 2 5 [some (.inr (.inr 1)), some (.inl x1), some (.inr (.inl x2)), none] [] (M0 L V b) = some (true, cond (decide (x1 ≤ 8)) 14 11, [some (.inr (.inr 1)), some (.inl x1), some (.inr (.inl x2)), none], [], M0 L V b) := by
  have f0 : (r32 x1 && r32 8) = true := rr32_of g0 (by decide)
  have hG : ((r32 x1 && r32 8) && true) = true := an f0 rfl
  show some ((r32 x1 && r32 8) && true, _) = _
  rw [hG]
  try rfl

theorem B2_11 (L : Nat) (V : Mv) (b : Bool) (x1 : Int) (x2 : Int)  : nxs 1 2 11 [some (.inr (.inr 1)), some (.inl x1), some (.inr (.inl x2)), none] [] (M0 L V b) = some (true, 13, [some (.inr (.inr 1)), some (.inl x1), some (.inr (.inl x2)), none], [.inl (-2)], M0 L V b) := by
  rfl

theorem B2_14 (L : Nat) (V : Mv) (b : Bool) (x1 : Int) (x2 : Int)  : nxs 4 2 14 [some (.inr (.inr 1)), some (.inl x1), some (.inr (.inl x2)), none] [] (M0 L V b) = some (true, 20, [some (.inr (.inr 1)), some (.inl x1), some (.inr (.inl x2)), none], [.inr (.inl x2), .inl x1, .inr (.inr 2)], M0 L V b) := by
  rfl

-- 3: MendedOrNew.wipe()I
theorem B3_0 (L : Nat) (V : Mv) (b : Bool)   : nxs 9 3 0 [some (.inr (.inr 1)), none] [] (M0 L V b) = some (true, 17, [some (.inr (.inr 1)), some (.inl (V 2 0))], [.inl (V 2 0)], M0 L (uV V 2 0 0) b) := by
  rfl

-- 4: MendedOrNew.fault()I
theorem B4_0 (L : Nat) (V : Mv) (b : Bool)   : nxs 4 4 0 [some (.inr (.inr 1))] [] (M0 L V b) = some (true, 8, [some (.inr (.inr 1))], [.inr (.inr 4), .inr (.inr 2)], M0 L V b) := by
  rfl

-- 5: MendedOrNew.make(I)I
theorem B5_0 (L : Nat) (V : Mv) (b : Bool) (x1 : Int)  : nxs 1 5 0 [some (.inr (.inr 1)), some (.inl x1)] [] (M0 L V b) = some (true, 1, [some (.inr (.inr 1)), some (.inl x1)], [.inl x1], M0 L V b) := by
  rfl

theorem B5_4 (L : Nat) (V : Mv) (b : Bool) (x1 : Int) (s0 : Int) (g0 : in32 s0) : nxs 1 5 4 [some (.inr (.inr 1)), some (.inl x1)] [.inl s0] (M0 L V b) = some (true, cond (!decide (s0 = 0)) 9 7, [some (.inr (.inr 1)), some (.inl x1)], [], M0 L V b) := by
  have f0 : r32 s0 = true := r32_of g0
  have hG : (r32 s0 && true) = true := an f0 rfl
  show some (r32 s0 && true, _) = _
  rw [hG]
  try rfl

theorem B5_7 (L : Nat) (V : Mv) (b : Bool) (x1 : Int)  : nxs 1 5 7 [some (.inr (.inr 1)), some (.inl x1)] [] (M0 L V b) = some (true, 8, [some (.inr (.inr 1)), some (.inl x1)], [.inl (-1)], M0 L V b) := by
  rfl

theorem B5_9 (L : Nat) (V : Mv) (b : Bool) (x1 : Int)  : nxs 4 5 9 [some (.inr (.inr 1)), some (.inl x1)] [] (M0 L V b) = some (true, 17, [some (.inr (.inr 1)), some (.inl x1)], [.inr (.inr 4), .inr (.inr 2)], M0 L V b) := by
  rfl

theorem B5_20 (L : Nat) (V : Mv) (b : Bool) (x1 : Int) (s0 : Int) (g0 : in32 s0) : nxs 2 5 20 [some (.inr (.inr 1)), some (.inl x1)] [.inl s0] (M0 L V b) = some (true, cond (decide (s0 = (-9))) 28 25, [some (.inr (.inr 1)), some (.inl x1)], [], M0 L V b) := by
  have f0 : (r32 s0 && r32 (-9)) = true := rr32_of g0 (by decide)
  have hG : ((r32 s0 && r32 (-9)) && true) = true := an f0 rfl
  show some ((r32 s0 && r32 (-9)) && true, _) = _
  rw [hG]
  try rfl

theorem B5_25 (L : Nat) (V : Mv) (b : Bool) (x1 : Int)  : nxs 1 5 25 [some (.inr (.inr 1)), some (.inl x1)] [] (M0 L V b) = some (true, 27, [some (.inr (.inr 1)), some (.inl x1)], [.inl (-3)], M0 L V b) := by
  rfl

theorem B5_28 (L : Nat) (V : Mv) (b : Bool) (x1 : Int) (g0 : 0 ≤ x1 ∧ x1 < 3) : nxs 6 5 28 [some (.inr (.inr 1)), some (.inl x1)] [] (M0 L V b) = some (true, 38, [some (.inr (.inr 1)), some (.inl x1)], [.inr (.inr 4), .inr (.inr (14 + 15 * (x1).toNat))], M0 L V b) := by
  have f0 : gA (M0 L V b) 11 3 15 x1 = true := gA_11 L _ b g0
  have hG : (gA (M0 L V b) 11 3 15 x1 && true) = true := an f0 rfl
  show some (gA (M0 L V b) 11 3 15 x1 && true, _) = _
  rw [hG]
  try rfl

theorem B5_41 (L : Nat) (V : Mv) (b : Bool) (x1 : Int) (g0 : 0 ≤ x1 ∧ x1 < 3) : nxs 5 5 41 [some (.inr (.inr 1)), some (.inl x1)] [] (M0 L V b) = some (true, 48, [some (.inr (.inr 1)), some (.inl x1)], [.inl 0, .inr (.inr (21 + 15 * (x1).toNat))], M0 L V b) := by
  have f0 : gA (M0 L V b) 12 9 15 x1 = true := gA_12 L _ b g0
  have hG : (gA (M0 L V b) 12 9 15 x1 && true) = true := an f0 rfl
  show some (gA (M0 L V b) 12 9 15 x1 && true, _) = _
  rw [hG]
  try rfl

theorem B5_51 (L : Nat) (V : Mv) (b : Bool) (x1 : Int) (g0 : 0 ≤ x1 ∧ x1 < 3) : nxs 4 5 51 [some (.inr (.inr 1)), some (.inl x1)] [] (M0 L V b) = some (true, 57, [some (.inr (.inr 1)), some (.inl x1)], [.inr (.inr (24 + 15 * (x1).toNat))], M0 L V b) := by
  have f0 : gA (M0 L V b) 13 11 15 x1 = true := gA_13 L _ b g0
  have hG : (gA (M0 L V b) 13 11 15 x1 && true) = true := an f0 rfl
  show some (gA (M0 L V b) 13 11 15 x1 && true, _) = _
  rw [hG]
  try rfl

theorem B5_60 (L : Nat) (V : Mv) (b : Bool) (x1 : Int) (g0 : 0 ≤ x1 ∧ x1 < 3) : nxs 11 5 60 [some (.inr (.inr 1)), some (.inl x1)] [] (M0 L V b) = some (true, 77, [some (.inr (.inr 1)), some (.inl x1)], [.inl ((uV V 62 (x1).toNat ((V 62 (x1).toNat) + 1)) 4 0)], M0 L (uV V 62 (x1).toNat ((V 62 (x1).toNat) + 1)) b) := by
  have f0 : gX (M0 L V b) 62 1 x1 = true := gx_of rfl g0
  have f1 : (gX (M0 L V b) 62 1 x1 && !Nat.beq 62 0) = true := gs_of (gx_of rfl g0) (by decide)
  have hG : (gX (M0 L V b) 62 1 x1 && ((gX (M0 L V b) 62 1 x1 && !Nat.beq 62 0) && true)) = true := an f0 (an f1 rfl)
  show some (gX (M0 L V b) 62 1 x1 && ((gX (M0 L V b) 62 1 x1 && !Nat.beq 62 0) && true), _) = _
  rw [hG]
  try rfl

-- 6: MendedOrNew.isMachine(I)Z
theorem B6_0 (L : Nat) (V : Mv) (b : Bool) (x0 : Int) (g0 : in32 x0) : nxs 2 6 0 [some (.inl x0)] [] (M0 L V b) = some (true, cond (decide (x0 < 0)) 13 4, [some (.inl x0)], [], M0 L V b) := by
  have f0 : r32 x0 = true := r32_of g0
  have hG : (r32 x0 && true) = true := an f0 rfl
  show some (r32 x0 && true, _) = _
  rw [hG]
  try rfl

theorem B6_4 (L : Nat) (V : Mv) (b : Bool) (x0 : Int) (g0 : in32 x0) : nxs 3 6 4 [some (.inl x0)] [] (M0 L V b) = some (true, cond (decide (3 ≤ x0)) 13 9, [some (.inl x0)], [], M0 L V b) := by
  have f0 : (r32 x0 && r32 3) = true := rr32_of g0 (by decide)
  have hG : ((r32 x0 && r32 3) && true) = true := an f0 rfl
  show some ((r32 x0 && r32 3) && true, _) = _
  rw [hG]
  try rfl

theorem B6_9 (L : Nat) (V : Mv) (b : Bool) (x0 : Int)  : nxs 2 6 9 [some (.inl x0)] [] (M0 L V b) = some (true, 14, [some (.inl x0)], [.inl 1], M0 L V b) := by
  rfl

theorem B6_13 (L : Nat) (V : Mv) (b : Bool) (x0 : Int)  : nxs 1 6 13 [some (.inl x0)] [] (M0 L V b) = some (true, 14, [some (.inl x0)], [.inl 0], M0 L V b) := by
  rfl

-- 7: MendedOrNew.about(II)I
theorem B7_0 (L : Nat) (V : Mv) (b : Bool) (x1 : Int) (x2 : Int)  : nxs 1 7 0 [some (.inr (.inr 1)), some (.inl x1), some (.inl x2)] [] (M0 L V b) = some (true, 1, [some (.inr (.inr 1)), some (.inl x1), some (.inl x2)], [.inl x1], M0 L V b) := by
  rfl

theorem B7_4 (L : Nat) (V : Mv) (b : Bool) (x1 : Int) (x2 : Int) (s0 : Int) (g0 : in32 s0) : nxs 1 7 4 [some (.inr (.inr 1)), some (.inl x1), some (.inl x2)] [.inl s0] (M0 L V b) = some (true, cond (!decide (s0 = 0)) 9 7, [some (.inr (.inr 1)), some (.inl x1), some (.inl x2)], [], M0 L V b) := by
  have f0 : r32 s0 = true := r32_of g0
  have hG : (r32 s0 && true) = true := an f0 rfl
  show some (r32 s0 && true, _) = _
  rw [hG]
  try rfl

theorem B7_7 (L : Nat) (V : Mv) (b : Bool) (x1 : Int) (x2 : Int)  : nxs 1 7 7 [some (.inr (.inr 1)), some (.inl x1), some (.inl x2)] [] (M0 L V b) = some (true, 8, [some (.inr (.inr 1)), some (.inl x1), some (.inl x2)], [.inl (-1)], M0 L V b) := by
  rfl

theorem B7_36 (L : Nat) (V : Mv) (b : Bool) (x1 : Int) (x2 : Int) (g0 : 0 ≤ x1 ∧ x1 < 3) : nxs 5 7 36 [some (.inr (.inr 1)), some (.inl x1), some (.inl x2)] [] (M0 L V b) = some (true, 45, [some (.inr (.inr 1)), some (.inl x1), some (.inl x2)], [.inl (V (14 + 15 * (x1).toNat) 0)], M0 L V b) := by
  have f0 : gA (M0 L V b) 11 3 15 x1 = true := gA_11 L _ b g0
  have f1 : decide ((TT L (14 + 15 * (x1).toNat)).1 = 64 + 2) = true := cls_of (isK_T (k_11 g0))
  have hG : (gA (M0 L V b) 11 3 15 x1 && (decide ((TT L (14 + 15 * (x1).toNat)).1 = 64 + 2) && true)) = true := an f0 (an f1 rfl)
  show some (gA (M0 L V b) 11 3 15 x1 && (decide ((TT L (14 + 15 * (x1).toNat)).1 = 64 + 2) && true), _) = _
  rw [hG]
  try rfl

theorem B7_46 (L : Nat) (V : Mv) (b : Bool) (x1 : Int) (x2 : Int) (g0 : 0 ≤ x1 ∧ x1 < 3) : nxs 5 7 46 [some (.inr (.inr 1)), some (.inl x1), some (.inl x2)] [] (M0 L V b) = some (true, 55, [some (.inr (.inr 1)), some (.inl x1), some (.inl x2)], [.inl (V (14 + 15 * (x1).toNat) 1)], M0 L V b) := by
  have f0 : gA (M0 L V b) 11 3 15 x1 = true := gA_11 L _ b g0
  have f1 : decide ((TT L (14 + 15 * (x1).toNat)).1 = 64 + 2) = true := cls_of (isK_T (k_11 g0))
  have hG : (gA (M0 L V b) 11 3 15 x1 && (decide ((TT L (14 + 15 * (x1).toNat)).1 = 64 + 2) && true)) = true := an f0 (an f1 rfl)
  show some (gA (M0 L V b) 11 3 15 x1 && (decide ((TT L (14 + 15 * (x1).toNat)).1 = 64 + 2) && true), _) = _
  rw [hG]
  try rfl

theorem B7_56 (L : Nat) (V : Mv) (b : Bool) (x1 : Int) (x2 : Int) (g0 : 0 ≤ x1 ∧ x1 < 3) : nxs 4 7 56 [some (.inr (.inr 1)), some (.inl x1), some (.inl x2)] [] (M0 L V b) = some (true, 62, [some (.inr (.inr 1)), some (.inl x1), some (.inl x2)], [.inr (.inr (14 + 15 * (x1).toNat))], M0 L V b) := by
  have f0 : gA (M0 L V b) 11 3 15 x1 = true := gA_11 L _ b g0
  have hG : (gA (M0 L V b) 11 3 15 x1 && true) = true := an f0 rfl
  show some (gA (M0 L V b) 11 3 15 x1 && true, _) = _
  rw [hG]
  try rfl

theorem B7_66 (L : Nat) (V : Mv) (b : Bool) (x1 : Int) (x2 : Int)  : nxs 1 7 66 [some (.inr (.inr 1)), some (.inl x1), some (.inl x2)] [] (M0 L V b) = some (true, 68, [some (.inr (.inr 1)), some (.inl x1), some (.inl x2)], [.inl (-2)], M0 L V b) := by
  rfl

-- 8: MendedOrNew.worn(III)I
theorem B8_0 (L : Nat) (V : Mv) (b : Bool) (x1 : Int) (x2 : Int) (x3 : Int)  : nxs 3 8 0 [some (.inr (.inr 1)), some (.inl x1), some (.inl x2), some (.inl x3)] [] (M0 L V b) = some (true, 3, [some (.inr (.inr 1)), some (.inl x1), some (.inl x2), some (.inl x3)], [.inl x2, .inl x1, .inr (.inr 1)], M0 L V b) := by
  rfl

theorem B8_6 (L : Nat) (V : Mv) (b : Bool) (x1 : Int) (x2 : Int) (x3 : Int) (s0 : Int) (g0 : in32 s0) : nxs 1 8 6 [some (.inr (.inr 1)), some (.inl x1), some (.inl x2), some (.inl x3)] [.inl s0] (M0 L V b) = some (true, cond (!decide (s0 = 0)) 11 9, [some (.inr (.inr 1)), some (.inl x1), some (.inl x2), some (.inl x3)], [], M0 L V b) := by
  have f0 : r32 s0 = true := r32_of g0
  have hG : (r32 s0 && true) = true := an f0 rfl
  show some (r32 s0 && true, _) = _
  rw [hG]
  try rfl

theorem B8_9 (L : Nat) (V : Mv) (b : Bool) (x1 : Int) (x2 : Int) (x3 : Int)  : nxs 1 8 9 [some (.inr (.inr 1)), some (.inl x1), some (.inl x2), some (.inl x3)] [] (M0 L V b) = some (true, 10, [some (.inr (.inr 1)), some (.inl x1), some (.inl x2), some (.inl x3)], [.inl (-1)], M0 L V b) := by
  rfl

theorem B8_40 (L : Nat) (V : Mv) (b : Bool) (x1 : Int) (x2 : Int) (x3 : Int) (g0 : 0 ≤ x1 ∧ x1 < 3) (g1 : 0 ≤ x2 ∧ x2 < 8) : nxs 7 8 40 [some (.inr (.inr 1)), some (.inl x1), some (.inl x2), some (.inl x3)] [] (M0 L V b) = some (true, 51, [some (.inr (.inr 1)), some (.inl x1), some (.inl x2), some (.inl x3)], [.inl (V (14 + 15 * (x1).toNat + 3) (x2).toNat)], M0 L V b) := by
  have f0 : gA (M0 L V b) 11 3 15 x1 = true := gA_11 L _ b g0
  have f1 : (decide ((TT L (14 + 15 * (x1).toNat)).1 = 64 + 2) && decide (RR b (14 + 15 * (x1).toNat) 6 = some (14 + 15 * (x1).toNat + 3))) = true := clr_of (isK_T (k_11 g0)) (isK_R6 (k_11 g0))
  have f2 : gX (M0 L V b) (14 + 15 * (x1).toNat + 3) 1 x2 = true := gx_of (show aT _ _ = _ from isK_A6 (L := L) (k_11 g0)) g1
  have hG : (gA (M0 L V b) 11 3 15 x1 && ((decide ((TT L (14 + 15 * (x1).toNat)).1 = 64 + 2) && decide (RR b (14 + 15 * (x1).toNat) 6 = some (14 + 15 * (x1).toNat + 3))) && (gX (M0 L V b) (14 + 15 * (x1).toNat + 3) 1 x2 && true))) = true := an f0 (an f1 (an f2 rfl))
  show some (gA (M0 L V b) 11 3 15 x1 && ((decide ((TT L (14 + 15 * (x1).toNat)).1 = 64 + 2) && decide (RR b (14 + 15 * (x1).toNat) 6 = some (14 + 15 * (x1).toNat + 3))) && (gX (M0 L V b) (14 + 15 * (x1).toNat + 3) 1 x2 && true)), _) = _
  rw [hG]
  try rfl

theorem B8_52 (L : Nat) (V : Mv) (b : Bool) (x1 : Int) (x2 : Int) (x3 : Int) (g0 : 0 ≤ x1 ∧ x1 < 3) (g1 : 0 ≤ x2 ∧ x2 < 8) : nxs 7 8 52 [some (.inr (.inr 1)), some (.inl x1), some (.inl x2), some (.inl x3)] [] (M0 L V b) = some (true, 63, [some (.inr (.inr 1)), some (.inl x1), some (.inl x2), some (.inl x3)], [.inl (V (14 + 15 * (x1).toNat + 4) (x2).toNat)], M0 L V b) := by
  have f0 : gA (M0 L V b) 11 3 15 x1 = true := gA_11 L _ b g0
  have f1 : (decide ((TT L (14 + 15 * (x1).toNat)).1 = 64 + 2) && decide (RR b (14 + 15 * (x1).toNat) 7 = some (14 + 15 * (x1).toNat + 4))) = true := clr_of (isK_T (k_11 g0)) (isK_R7 (k_11 g0))
  have f2 : gX (M0 L V b) (14 + 15 * (x1).toNat + 4) 1 x2 = true := gx_of (show aT _ _ = _ from isK_A7 (L := L) (k_11 g0)) g1
  have hG : (gA (M0 L V b) 11 3 15 x1 && ((decide ((TT L (14 + 15 * (x1).toNat)).1 = 64 + 2) && decide (RR b (14 + 15 * (x1).toNat) 7 = some (14 + 15 * (x1).toNat + 4))) && (gX (M0 L V b) (14 + 15 * (x1).toNat + 4) 1 x2 && true))) = true := an f0 (an f1 (an f2 rfl))
  show some (gA (M0 L V b) 11 3 15 x1 && ((decide ((TT L (14 + 15 * (x1).toNat)).1 = 64 + 2) && decide (RR b (14 + 15 * (x1).toNat) 7 = some (14 + 15 * (x1).toNat + 4))) && (gX (M0 L V b) (14 + 15 * (x1).toNat + 4) 1 x2 && true)), _) = _
  rw [hG]
  try rfl

theorem B8_64 (L : Nat) (V : Mv) (b : Bool) (x1 : Int) (x2 : Int) (x3 : Int) (g0 : 0 ≤ x1 ∧ x1 < 3) (g1 : 0 ≤ x2 ∧ x2 < 8) : nxs 7 8 64 [some (.inr (.inr 1)), some (.inl x1), some (.inl x2), some (.inl x3)] [] (M0 L V b) = some (true, 75, [some (.inr (.inr 1)), some (.inl x1), some (.inl x2), some (.inl x3)], [.inl (V (14 + 15 * (x1).toNat + 2) (x2).toNat)], M0 L V b) := by
  have f0 : gA (M0 L V b) 11 3 15 x1 = true := gA_11 L _ b g0
  have f1 : (decide ((TT L (14 + 15 * (x1).toNat)).1 = 64 + 2) && decide (RR b (14 + 15 * (x1).toNat) 5 = some (14 + 15 * (x1).toNat + 2))) = true := clr_of (isK_T (k_11 g0)) (isK_R5 (k_11 g0))
  have f2 : gX (M0 L V b) (14 + 15 * (x1).toNat + 2) 1 x2 = true := gx_of (show aT _ _ = _ from isK_A5 (L := L) (k_11 g0)) g1
  have hG : (gA (M0 L V b) 11 3 15 x1 && ((decide ((TT L (14 + 15 * (x1).toNat)).1 = 64 + 2) && decide (RR b (14 + 15 * (x1).toNat) 5 = some (14 + 15 * (x1).toNat + 2))) && (gX (M0 L V b) (14 + 15 * (x1).toNat + 2) 1 x2 && true))) = true := an f0 (an f1 (an f2 rfl))
  show some (gA (M0 L V b) 11 3 15 x1 && ((decide ((TT L (14 + 15 * (x1).toNat)).1 = 64 + 2) && decide (RR b (14 + 15 * (x1).toNat) 5 = some (14 + 15 * (x1).toNat + 2))) && (gX (M0 L V b) (14 + 15 * (x1).toNat + 2) 1 x2 && true)), _) = _
  rw [hG]
  try rfl

theorem B8_76 (L : Nat) (V : Mv) (b : Bool) (x1 : Int) (x2 : Int) (x3 : Int)  : nxs 1 8 76 [some (.inr (.inr 1)), some (.inl x1), some (.inl x2), some (.inl x3)] [] (M0 L V b) = some (true, 78, [some (.inr (.inr 1)), some (.inl x1), some (.inl x2), some (.inl x3)], [.inl (-2)], M0 L V b) := by
  rfl

-- 9: MendedOrNew.isWear(II)Z
theorem B9_0 (L : Nat) (V : Mv) (b : Bool) (x1 : Int) (x2 : Int)  : nxs 1 9 0 [some (.inr (.inr 1)), some (.inl x1), some (.inl x2)] [] (M0 L V b) = some (true, 1, [some (.inr (.inr 1)), some (.inl x1), some (.inl x2)], [.inl x1], M0 L V b) := by
  rfl

theorem B9_4 (L : Nat) (V : Mv) (b : Bool) (x1 : Int) (x2 : Int) (s0 : Int) (g0 : in32 s0) : nxs 1 9 4 [some (.inr (.inr 1)), some (.inl x1), some (.inl x2)] [.inl s0] (M0 L V b) = some (true, cond (decide (s0 = 0)) 28 7, [some (.inr (.inr 1)), some (.inl x1), some (.inl x2)], [], M0 L V b) := by
  have f0 : r32 s0 = true := r32_of g0
  have hG : (r32 s0 && true) = true := an f0 rfl
  show some (r32 s0 && true, _) = _
  rw [hG]
  try rfl

theorem B9_7 (L : Nat) (V : Mv) (b : Bool) (x1 : Int) (x2 : Int) (g0 : in32 x2) : nxs 2 9 7 [some (.inr (.inr 1)), some (.inl x1), some (.inl x2)] [] (M0 L V b) = some (true, cond (decide (x2 < 0)) 28 11, [some (.inr (.inr 1)), some (.inl x1), some (.inl x2)], [], M0 L V b) := by
  have f0 : r32 x2 = true := r32_of g0
  have hG : (r32 x2 && true) = true := an f0 rfl
  show some (r32 x2 && true, _) = _
  rw [hG]
  try rfl

theorem B9_11 (L : Nat) (V : Mv) (b : Bool) (x1 : Int) (x2 : Int) (g0 : 0 ≤ x1 ∧ x1 < 3) (g1 : in32 x2) (g2 : in32 (V (14 + 15 * (x1).toNat) 0)) : nxs 7 9 11 [some (.inr (.inr 1)), some (.inl x1), some (.inl x2)] [] (M0 L V b) = some (true, cond (decide (V (14 + 15 * (x1).toNat) 0 ≤ x2)) 28 24, [some (.inr (.inr 1)), some (.inl x1), some (.inl x2)], [], M0 L V b) := by
  have f0 : gA (M0 L V b) 11 3 15 x1 = true := gA_11 L _ b g0
  have f1 : decide ((TT L (14 + 15 * (x1).toNat)).1 = 64 + 2) = true := cls_of (isK_T (k_11 g0))
  have f2 : (r32 x2 && r32 (V (14 + 15 * (x1).toNat) 0)) = true := rr32_of g1 g2
  have hG : (gA (M0 L V b) 11 3 15 x1 && (decide ((TT L (14 + 15 * (x1).toNat)).1 = 64 + 2) && ((r32 x2 && r32 (V (14 + 15 * (x1).toNat) 0)) && true))) = true := an f0 (an f1 (an f2 rfl))
  show some (gA (M0 L V b) 11 3 15 x1 && (decide ((TT L (14 + 15 * (x1).toNat)).1 = 64 + 2) && ((r32 x2 && r32 (V (14 + 15 * (x1).toNat) 0)) && true)), _) = _
  rw [hG]
  try rfl

theorem B9_24 (L : Nat) (V : Mv) (b : Bool) (x1 : Int) (x2 : Int)  : nxs 2 9 24 [some (.inr (.inr 1)), some (.inl x1), some (.inl x2)] [] (M0 L V b) = some (true, 29, [some (.inr (.inr 1)), some (.inl x1), some (.inl x2)], [.inl 1], M0 L V b) := by
  rfl

theorem B9_28 (L : Nat) (V : Mv) (b : Bool) (x1 : Int) (x2 : Int)  : nxs 1 9 28 [some (.inr (.inr 1)), some (.inl x1), some (.inl x2)] [] (M0 L V b) = some (true, 29, [some (.inr (.inr 1)), some (.inl x1), some (.inl x2)], [.inl 0], M0 L V b) := by
  rfl

-- 10: MendedOrNew.goes(III)I
theorem B10_0 (L : Nat) (V : Mv) (b : Bool) (x1 : Int) (x2 : Int) (x3 : Int)  : nxs 3 10 0 [some (.inr (.inr 1)), some (.inl x1), some (.inl x2), some (.inl x3)] [] (M0 L V b) = some (true, 3, [some (.inr (.inr 1)), some (.inl x1), some (.inl x2), some (.inl x3)], [.inl x2, .inl x1, .inr (.inr 1)], M0 L V b) := by
  rfl

theorem B10_6 (L : Nat) (V : Mv) (b : Bool) (x1 : Int) (x2 : Int) (x3 : Int) (s0 : Int) (g0 : in32 s0) : nxs 1 10 6 [some (.inr (.inr 1)), some (.inl x1), some (.inl x2), some (.inl x3)] [.inl s0] (M0 L V b) = some (true, cond (decide (s0 = 0)) 18 9, [some (.inr (.inr 1)), some (.inl x1), some (.inl x2), some (.inl x3)], [], M0 L V b) := by
  have f0 : r32 s0 = true := r32_of g0
  have hG : (r32 s0 && true) = true := an f0 rfl
  show some (r32 s0 && true, _) = _
  rw [hG]
  try rfl

theorem B10_9 (L : Nat) (V : Mv) (b : Bool) (x1 : Int) (x2 : Int) (x3 : Int)  : nxs 3 10 9 [some (.inr (.inr 1)), some (.inl x1), some (.inl x2), some (.inl x3)] [] (M0 L V b) = some (true, 12, [some (.inr (.inr 1)), some (.inl x1), some (.inl x2), some (.inl x3)], [.inl x3, .inl x1, .inr (.inr 1)], M0 L V b) := by
  rfl

theorem B10_15 (L : Nat) (V : Mv) (b : Bool) (x1 : Int) (x2 : Int) (x3 : Int) (s0 : Int) (g0 : in32 s0) : nxs 1 10 15 [some (.inr (.inr 1)), some (.inl x1), some (.inl x2), some (.inl x3)] [.inl s0] (M0 L V b) = some (true, cond (!decide (s0 = 0)) 20 18, [some (.inr (.inr 1)), some (.inl x1), some (.inl x2), some (.inl x3)], [], M0 L V b) := by
  have f0 : r32 s0 = true := r32_of g0
  have hG : (r32 s0 && true) = true := an f0 rfl
  show some (r32 s0 && true, _) = _
  rw [hG]
  try rfl

theorem B10_18 (L : Nat) (V : Mv) (b : Bool) (x1 : Int) (x2 : Int) (x3 : Int)  : nxs 1 10 18 [some (.inr (.inr 1)), some (.inl x1), some (.inl x2), some (.inl x3)] [] (M0 L V b) = some (true, 19, [some (.inr (.inr 1)), some (.inl x1), some (.inl x2), some (.inl x3)], [.inl (-1)], M0 L V b) := by
  rfl

theorem B10_20 (L : Nat) (V : Mv) (b : Bool) (x1 : Int) (x2 : Int) (x3 : Int) (g0 : 0 ≤ x1 ∧ x1 < 3) (g1 : 0 ≤ (x2 * 8) + x3 ∧ (x2 * 8) + x3 < 64) : nxs 11 10 20 [some (.inr (.inr 1)), some (.inl x1), some (.inl x2), some (.inl x3)] [] (M0 L V b) = some (true, 36, [some (.inr (.inr 1)), some (.inl x1), some (.inl x2), some (.inl x3)], [.inl (V (14 + 15 * (x1).toNat + 1) ((x2 * 8) + x3).toNat)], M0 L V b) := by
  have f0 : gA (M0 L V b) 11 3 15 x1 = true := gA_11 L _ b g0
  have f1 : (decide ((TT L (14 + 15 * (x1).toNat)).1 = 64 + 2) && decide (RR b (14 + 15 * (x1).toNat) 4 = some (14 + 15 * (x1).toNat + 1))) = true := clr_of (isK_T (k_11 g0)) (isK_R4 (k_11 g0))
  have f2 : gX (M0 L V b) (14 + 15 * (x1).toNat + 1) 1 ((x2 * 8) + x3) = true := gx_of (show aT _ _ = _ from isK_A4 (L := L) (k_11 g0)) g1
  have hG : (gA (M0 L V b) 11 3 15 x1 && ((decide ((TT L (14 + 15 * (x1).toNat)).1 = 64 + 2) && decide (RR b (14 + 15 * (x1).toNat) 4 = some (14 + 15 * (x1).toNat + 1))) && (gX (M0 L V b) (14 + 15 * (x1).toNat + 1) 1 ((x2 * 8) + x3) && true))) = true := an f0 (an f1 (an f2 rfl))
  show some (gA (M0 L V b) 11 3 15 x1 && ((decide ((TT L (14 + 15 * (x1).toNat)).1 = 64 + 2) && decide (RR b (14 + 15 * (x1).toNat) 4 = some (14 + 15 * (x1).toNat + 1))) && (gX (M0 L V b) (14 + 15 * (x1).toNat + 1) 1 ((x2 * 8) + x3) && true)), _) = _
  rw [hG]
  try rfl

-- 11: MendedOrNew.mending(III)I
theorem B11_0 (L : Nat) (V : Mv) (b : Bool) (x1 : Int) (x2 : Int) (x3 : Int)  : nxs 3 11 0 [some (.inr (.inr 1)), some (.inl x1), some (.inl x2), some (.inl x3)] [] (M0 L V b) = some (true, 3, [some (.inr (.inr 1)), some (.inl x1), some (.inl x2), some (.inl x3)], [.inl x2, .inl x1, .inr (.inr 1)], M0 L V b) := by
  rfl

theorem B11_6 (L : Nat) (V : Mv) (b : Bool) (x1 : Int) (x2 : Int) (x3 : Int) (s0 : Int) (g0 : in32 s0) : nxs 1 11 6 [some (.inr (.inr 1)), some (.inl x1), some (.inl x2), some (.inl x3)] [.inl s0] (M0 L V b) = some (true, cond (!decide (s0 = 0)) 11 9, [some (.inr (.inr 1)), some (.inl x1), some (.inl x2), some (.inl x3)], [], M0 L V b) := by
  have f0 : r32 s0 = true := r32_of g0
  have hG : (r32 s0 && true) = true := an f0 rfl
  show some (r32 s0 && true, _) = _
  rw [hG]
  try rfl

theorem B11_9 (L : Nat) (V : Mv) (b : Bool) (x1 : Int) (x2 : Int) (x3 : Int)  : nxs 1 11 9 [some (.inr (.inr 1)), some (.inl x1), some (.inl x2), some (.inl x3)] [] (M0 L V b) = some (true, 10, [some (.inr (.inr 1)), some (.inl x1), some (.inl x2), some (.inl x3)], [.inl (-1)], M0 L V b) := by
  rfl

theorem B11_40 (L : Nat) (V : Mv) (b : Bool) (x1 : Int) (x2 : Int) (x3 : Int) (g0 : 0 ≤ x1 ∧ x1 < 3) (g1 : 0 ≤ x2 ∧ x2 < 4) : nxs 7 11 40 [some (.inr (.inr 1)), some (.inl x1), some (.inl x2), some (.inl x3)] [] (M0 L V b) = some (true, 51, [some (.inr (.inr 1)), some (.inl x1), some (.inl x2), some (.inl x3)], [.inl (V (14 + 15 * (x1).toNat + 5) (x2).toNat)], M0 L V b) := by
  have f0 : gA (M0 L V b) 11 3 15 x1 = true := gA_11 L _ b g0
  have f1 : (decide ((TT L (14 + 15 * (x1).toNat)).1 = 64 + 2) && decide (RR b (14 + 15 * (x1).toNat) 8 = some (14 + 15 * (x1).toNat + 5))) = true := clr_of (isK_T (k_11 g0)) (isK_R8 (k_11 g0))
  have f2 : gX (M0 L V b) (14 + 15 * (x1).toNat + 5) 1 x2 = true := gx_of (show aT _ _ = _ from isK_A8 (L := L) (k_11 g0)) g1
  have hG : (gA (M0 L V b) 11 3 15 x1 && ((decide ((TT L (14 + 15 * (x1).toNat)).1 = 64 + 2) && decide (RR b (14 + 15 * (x1).toNat) 8 = some (14 + 15 * (x1).toNat + 5))) && (gX (M0 L V b) (14 + 15 * (x1).toNat + 5) 1 x2 && true))) = true := an f0 (an f1 (an f2 rfl))
  show some (gA (M0 L V b) 11 3 15 x1 && ((decide ((TT L (14 + 15 * (x1).toNat)).1 = 64 + 2) && decide (RR b (14 + 15 * (x1).toNat) 8 = some (14 + 15 * (x1).toNat + 5))) && (gX (M0 L V b) (14 + 15 * (x1).toNat + 5) 1 x2 && true)), _) = _
  rw [hG]
  try rfl

theorem B11_52 (L : Nat) (V : Mv) (b : Bool) (x1 : Int) (x2 : Int) (x3 : Int) (g0 : 0 ≤ x1 ∧ x1 < 3) (g1 : 0 ≤ x2 ∧ x2 < 4) : nxs 7 11 52 [some (.inr (.inr 1)), some (.inl x1), some (.inl x2), some (.inl x3)] [] (M0 L V b) = some (true, 63, [some (.inr (.inr 1)), some (.inl x1), some (.inl x2), some (.inl x3)], [.inl (V (14 + 15 * (x1).toNat + 6) (x2).toNat)], M0 L V b) := by
  have f0 : gA (M0 L V b) 11 3 15 x1 = true := gA_11 L _ b g0
  have f1 : (decide ((TT L (14 + 15 * (x1).toNat)).1 = 64 + 2) && decide (RR b (14 + 15 * (x1).toNat) 9 = some (14 + 15 * (x1).toNat + 6))) = true := clr_of (isK_T (k_11 g0)) (isK_R9 (k_11 g0))
  have f2 : gX (M0 L V b) (14 + 15 * (x1).toNat + 6) 1 x2 = true := gx_of (show aT _ _ = _ from isK_A9 (L := L) (k_11 g0)) g1
  have hG : (gA (M0 L V b) 11 3 15 x1 && ((decide ((TT L (14 + 15 * (x1).toNat)).1 = 64 + 2) && decide (RR b (14 + 15 * (x1).toNat) 9 = some (14 + 15 * (x1).toNat + 6))) && (gX (M0 L V b) (14 + 15 * (x1).toNat + 6) 1 x2 && true))) = true := an f0 (an f1 (an f2 rfl))
  show some (gA (M0 L V b) 11 3 15 x1 && ((decide ((TT L (14 + 15 * (x1).toNat)).1 = 64 + 2) && decide (RR b (14 + 15 * (x1).toNat) 9 = some (14 + 15 * (x1).toNat + 6))) && (gX (M0 L V b) (14 + 15 * (x1).toNat + 6) 1 x2 && true)), _) = _
  rw [hG]
  try rfl

theorem B11_64 (L : Nat) (V : Mv) (b : Bool) (x1 : Int) (x2 : Int) (x3 : Int)  : nxs 1 11 64 [some (.inr (.inr 1)), some (.inl x1), some (.inl x2), some (.inl x3)] [] (M0 L V b) = some (true, 66, [some (.inr (.inr 1)), some (.inl x1), some (.inl x2), some (.inl x3)], [.inl (-2)], M0 L V b) := by
  rfl

-- 12: MendedOrNew.isMending(II)Z
theorem B12_0 (L : Nat) (V : Mv) (b : Bool) (x1 : Int) (x2 : Int)  : nxs 1 12 0 [some (.inr (.inr 1)), some (.inl x1), some (.inl x2)] [] (M0 L V b) = some (true, 1, [some (.inr (.inr 1)), some (.inl x1), some (.inl x2)], [.inl x1], M0 L V b) := by
  rfl

theorem B12_4 (L : Nat) (V : Mv) (b : Bool) (x1 : Int) (x2 : Int) (s0 : Int) (g0 : in32 s0) : nxs 1 12 4 [some (.inr (.inr 1)), some (.inl x1), some (.inl x2)] [.inl s0] (M0 L V b) = some (true, cond (decide (s0 = 0)) 24 7, [some (.inr (.inr 1)), some (.inl x1), some (.inl x2)], [], M0 L V b) := by
  have f0 : r32 s0 = true := r32_of g0
  have hG : (r32 s0 && true) = true := an f0 rfl
  show some (r32 s0 && true, _) = _
  rw [hG]
  try rfl

theorem B12_7 (L : Nat) (V : Mv) (b : Bool) (x1 : Int) (x2 : Int) (g0 : 0 ≤ x1 ∧ x1 < 3) : nxs 5 12 7 [some (.inr (.inr 1)), some (.inl x1), some (.inl x2)] [] (M0 L V b) = some (true, 14, [some (.inr (.inr 1)), some (.inl x1), some (.inl x2)], [.inl x2, .inr (.inr (14 + 15 * (x1).toNat))], M0 L V b) := by
  have f0 : gA (M0 L V b) 11 3 15 x1 = true := gA_11 L _ b g0
  have hG : (gA (M0 L V b) 11 3 15 x1 && true) = true := an f0 rfl
  show some (gA (M0 L V b) 11 3 15 x1 && true, _) = _
  rw [hG]
  try rfl

theorem B12_17 (L : Nat) (V : Mv) (b : Bool) (x1 : Int) (x2 : Int) (s0 : Int) (g0 : in32 s0) : nxs 1 12 17 [some (.inr (.inr 1)), some (.inl x1), some (.inl x2)] [.inl s0] (M0 L V b) = some (true, cond (decide (s0 = 0)) 24 20, [some (.inr (.inr 1)), some (.inl x1), some (.inl x2)], [], M0 L V b) := by
  have f0 : r32 s0 = true := r32_of g0
  have hG : (r32 s0 && true) = true := an f0 rfl
  show some (r32 s0 && true, _) = _
  rw [hG]
  try rfl

theorem B12_20 (L : Nat) (V : Mv) (b : Bool) (x1 : Int) (x2 : Int)  : nxs 2 12 20 [some (.inr (.inr 1)), some (.inl x1), some (.inl x2)] [] (M0 L V b) = some (true, 25, [some (.inr (.inr 1)), some (.inl x1), some (.inl x2)], [.inl 1], M0 L V b) := by
  rfl

theorem B12_24 (L : Nat) (V : Mv) (b : Bool) (x1 : Int) (x2 : Int)  : nxs 1 12 24 [some (.inr (.inr 1)), some (.inl x1), some (.inl x2)] [] (M0 L V b) = some (true, 25, [some (.inr (.inr 1)), some (.inl x1), some (.inl x2)], [.inl 0], M0 L V b) := by
  rfl

-- 13: MendedOrNew.day(I)I
theorem B13_0 (L : Nat) (V : Mv) (b : Bool) (x1 : Int)  : nxs 1 13 0 [some (.inr (.inr 1)), some (.inl x1)] [] (M0 L V b) = some (true, 1, [some (.inr (.inr 1)), some (.inl x1)], [.inl x1], M0 L V b) := by
  rfl

theorem B13_4 (L : Nat) (V : Mv) (b : Bool) (x1 : Int) (s0 : Int) (g0 : in32 s0) : nxs 1 13 4 [some (.inr (.inr 1)), some (.inl x1)] [.inl s0] (M0 L V b) = some (true, cond (!decide (s0 = 0)) 9 7, [some (.inr (.inr 1)), some (.inl x1)], [], M0 L V b) := by
  have f0 : r32 s0 = true := r32_of g0
  have hG : (r32 s0 && true) = true := an f0 rfl
  show some (r32 s0 && true, _) = _
  rw [hG]
  try rfl

theorem B13_7 (L : Nat) (V : Mv) (b : Bool) (x1 : Int)  : nxs 1 13 7 [some (.inr (.inr 1)), some (.inl x1)] [] (M0 L V b) = some (true, 8, [some (.inr (.inr 1)), some (.inl x1)], [.inl (-1)], M0 L V b) := by
  rfl

theorem B13_9 (L : Nat) (V : Mv) (b : Bool) (x1 : Int) (g0 : 0 ≤ x1 ∧ x1 < 3) : nxs 8 13 9 [some (.inr (.inr 1)), some (.inl x1)] [] (M0 L V b) = some (true, 21, [some (.inr (.inr 1)), some (.inl x1)], [.inr (.inr (14 + 15 * (x1).toNat)), .inr (.inr (21 + 15 * (x1).toNat))], M0 L V b) := by
  have f0 : gA (M0 L V b) 12 9 15 x1 = true := gA_12 L _ b g0
  have f1 : gA (M0 L V b) 11 3 15 x1 = true := gA_11 L _ b g0
  have hG : (gA (M0 L V b) 12 9 15 x1 && (gA (M0 L V b) 11 3 15 x1 && true)) = true := an f0 (an f1 rfl)
  show some (gA (M0 L V b) 12 9 15 x1 && (gA (M0 L V b) 11 3 15 x1 && true), _) = _
  rw [hG]
  try rfl

-- 14: MendedOrNew.commonPart(JJ)J
theorem B14_0 (L : Nat) (V : Mv) (b : Bool) (x0 : Int) (x2 : Int)  : nxs 6 14 0 [some (.inr (.inl x0)), none, some (.inr (.inl x2)), none, none, none, none, none, none, none, none] [] (M0 L V b) = some (true, 9, [some (.inr (.inl x0)), none, some (.inr (.inl x2)), none, some (.inr (.inl x0)), none, some (.inr (.inl x2)), none, some (.inl 0), none, none], [], M0 L V b) := by
  rfl

theorem B14_9 (L : Nat) (V : Mv) (b : Bool) (x0 : Int) (x2 : Int) (x4 : Int) (x6 : Int) (x8 : Int) (g0 : in32 x8) : nxs 3 14 9 [some (.inr (.inl x0)), none, some (.inr (.inl x2)), none, some (.inr (.inl x4)), none, some (.inr (.inl x6)), none, some (.inl x8), none, none] [] (M0 L V b) = some (true, cond (decide (128 ≤ x8)) 45 17, [some (.inr (.inl x0)), none, some (.inr (.inl x2)), none, some (.inr (.inl x4)), none, some (.inr (.inl x6)), none, some (.inl x8), none, none], [], M0 L V b) := by
  have f0 : (r32 x8 && r32 128) = true := rr32_of g0 (by decide)
  have hG : ((r32 x8 && r32 128) && true) = true := an f0 rfl
  show some ((r32 x8 && r32 128) && true, _) = _
  rw [hG]
  try rfl

theorem B14_17 (L : Nat) (V : Mv) (b : Bool) (x0 : Int) (x2 : Int) (x4 : Int) (x6 : Int) (x8 : Int) (g0 : in64 x6) (g1 : in32 (cmpI x6 0)) : nxs 4 14 17 [some (.inr (.inl x0)), none, some (.inr (.inl x2)), none, some (.inr (.inl x4)), none, some (.inr (.inl x6)), none, some (.inl x8), none, none] [] (M0 L V b) = some (true, cond (decide (cmpI x6 0 = 0)) 45 24, [some (.inr (.inl x0)), none, some (.inr (.inl x2)), none, some (.inr (.inl x4)), none, some (.inr (.inl x6)), none, some (.inl x8), none, none], [], M0 L V b) := by
  have f0 : (r64 x6 && r64 0) = true := rr64_of g0 (by decide)
  have f1 : r32 (cmpI x6 0) = true := r32_of g1
  have hG : ((r64 x6 && r64 0) && (r32 (cmpI x6 0) && true)) = true := an f0 (an f1 rfl)
  show some ((r64 x6 && r64 0) && (r32 (cmpI x6 0) && true), _) = _
  rw [hG]
  try rfl

theorem B14_24 (L : Nat) (V : Mv) (b : Bool) (x0 : Int) (x2 : Int) (x4 : Int) (x6 : Int) (x8 : Int) (g0 : in64 x4) (g1 : in64 x6) (g2 : ¬ x6 = 0) : nxs 10 14 24 [some (.inr (.inl x0)), none, some (.inr (.inl x2)), none, some (.inr (.inl x4)), none, some (.inr (.inl x6)), none, some (.inl x8), none, none] [] (M0 L V b) = some (true, 9, [some (.inr (.inl x0)), none, some (.inr (.inl x2)), none, some (.inr (.inl x6)), none, some (.inr (.inl (Int.tmod x4 x6))), none, some (.inl (x8 + 1)), some (.inr (.inl (Int.tmod x4 x6))), none], [], M0 L V b) := by
  have f0 : gL x4 x6 = true := gL_of g0 g1 g2
  have hG : (gL x4 x6 && true) = true := an f0 rfl
  show some (gL x4 x6 && true, _) = _
  rw [hG]
  try rfl

theorem B14_45 (L : Nat) (V : Mv) (b : Bool) (x0 : Int) (x2 : Int) (x4 : Int) (x6 : Int) (x8 : Int)  : nxs 1 14 45 [some (.inr (.inl x0)), none, some (.inr (.inl x2)), none, some (.inr (.inl x4)), none, some (.inr (.inl x6)), none, some (.inl x8), none, none] [] (M0 L V b) = some (true, 47, [some (.inr (.inl x0)), none, some (.inr (.inl x2)), none, some (.inr (.inl x4)), none, some (.inr (.inl x6)), none, some (.inl x8), none, none], [.inr (.inl x4)], M0 L V b) := by
  rfl

-- 15: MendedOrNew.hear(IZ)I
theorem B15_0 (L : Nat) (V : Mv) (b : Bool) (x1 : Int) (x2 : Int)  : nxs 1 15 0 [some (.inr (.inr 1)), some (.inl x1), some (.inl x2)] [] (M0 L V b) = some (true, 1, [some (.inr (.inr 1)), some (.inl x1), some (.inl x2)], [.inl x1], M0 L V b) := by
  rfl

theorem B15_4 (L : Nat) (V : Mv) (b : Bool) (x1 : Int) (x2 : Int) (s0 : Int) (g0 : in32 s0) : nxs 1 15 4 [some (.inr (.inr 1)), some (.inl x1), some (.inl x2)] [.inl s0] (M0 L V b) = some (true, cond (!decide (s0 = 0)) 9 7, [some (.inr (.inr 1)), some (.inl x1), some (.inl x2)], [], M0 L V b) := by
  have f0 : r32 s0 = true := r32_of g0
  have hG : (r32 s0 && true) = true := an f0 rfl
  show some (r32 s0 && true, _) = _
  rw [hG]
  try rfl

theorem B15_7 (L : Nat) (V : Mv) (b : Bool) (x1 : Int) (x2 : Int)  : nxs 1 15 7 [some (.inr (.inr 1)), some (.inl x1), some (.inl x2)] [] (M0 L V b) = some (true, 8, [some (.inr (.inr 1)), some (.inl x1), some (.inl x2)], [.inl (-1)], M0 L V b) := by
  rfl

theorem B15_9 (L : Nat) (V : Mv) (b : Bool) (x1 : Int) (x2 : Int) (g0 : 0 ≤ x1 ∧ x1 < 3) : nxs 9 15 9 [some (.inr (.inr 1)), some (.inl x1), some (.inl x2)] [] (M0 L V b) = some (true, 22, [some (.inr (.inr 1)), some (.inl x1), some (.inl x2)], [.inl x2, .inr (.inr (14 + 15 * (x1).toNat)), .inr (.inr (21 + 15 * (x1).toNat))], M0 L V b) := by
  have f0 : gA (M0 L V b) 12 9 15 x1 = true := gA_12 L _ b g0
  have f1 : gA (M0 L V b) 11 3 15 x1 = true := gA_11 L _ b g0
  have hG : (gA (M0 L V b) 12 9 15 x1 && (gA (M0 L V b) 11 3 15 x1 && true)) = true := an f0 (an f1 rfl)
  show some (gA (M0 L V b) 12 9 15 x1 && (gA (M0 L V b) 11 3 15 x1 && true), _) = _
  rw [hG]
  try rfl

-- 16: MendedOrNew.mend(II)I
theorem B16_0 (L : Nat) (V : Mv) (b : Bool) (x1 : Int) (x2 : Int)  : nxs 3 16 0 [some (.inr (.inr 1)), some (.inl x1), some (.inl x2), none] [] (M0 L V b) = some (true, 3, [some (.inr (.inr 1)), some (.inl x1), some (.inl x2), none], [.inl x2, .inl x1, .inr (.inr 1)], M0 L V b) := by
  rfl

theorem B16_6 (L : Nat) (V : Mv) (b : Bool) (x1 : Int) (x2 : Int) (s0 : Int) (g0 : in32 s0) : nxs 1 16 6 [some (.inr (.inr 1)), some (.inl x1), some (.inl x2), none] [.inl s0] (M0 L V b) = some (true, cond (!decide (s0 = 0)) 11 9, [some (.inr (.inr 1)), some (.inl x1), some (.inl x2), none], [], M0 L V b) := by
  have f0 : r32 s0 = true := r32_of g0
  have hG : (r32 s0 && true) = true := an f0 rfl
  show some (r32 s0 && true, _) = _
  rw [hG]
  try rfl

theorem B16_9 (L : Nat) (V : Mv) (b : Bool) (x1 : Int) (x2 : Int)  : nxs 1 16 9 [some (.inr (.inr 1)), some (.inl x1), some (.inl x2), none] [] (M0 L V b) = some (true, 10, [some (.inr (.inr 1)), some (.inl x1), some (.inl x2), none], [.inl (-1)], M0 L V b) := by
  rfl

theorem B16_11 (L : Nat) (V : Mv) (b : Bool) (x1 : Int) (x2 : Int) (g0 : 0 ≤ x1 ∧ x1 < 3) (g1 : 0 ≤ x2 ∧ x2 < 4) : nxs 13 16 11 [some (.inr (.inr 1)), some (.inl x1), some (.inl x2), none] [] (M0 L V b) = some (true, 30, [some (.inr (.inr 1)), some (.inl x1), some (.inl x2), some (.inl (V (14 + 15 * (x1).toNat + 6) (x2).toNat))], [.inl (V (14 + 15 * (x1).toNat + 6) (x2).toNat), .inr (.inr (21 + 15 * (x1).toNat))], M0 L V b) := by
  have f0 : gA (M0 L V b) 11 3 15 x1 = true := gA_11 L _ b g0
  have f1 : (decide ((TT L (14 + 15 * (x1).toNat)).1 = 64 + 2) && decide (RR b (14 + 15 * (x1).toNat) 9 = some (14 + 15 * (x1).toNat + 6))) = true := clr_of (isK_T (k_11 g0)) (isK_R9 (k_11 g0))
  have f2 : gX (M0 L V b) (14 + 15 * (x1).toNat + 6) 1 x2 = true := gx_of (show aT _ _ = _ from isK_A9 (L := L) (k_11 g0)) g1
  have f3 : gA (M0 L V b) 12 9 15 x1 = true := gA_12 L _ b g0
  have hG : (gA (M0 L V b) 11 3 15 x1 && ((decide ((TT L (14 + 15 * (x1).toNat)).1 = 64 + 2) && decide (RR b (14 + 15 * (x1).toNat) 9 = some (14 + 15 * (x1).toNat + 6))) && (gX (M0 L V b) (14 + 15 * (x1).toNat + 6) 1 x2 && (gA (M0 L V b) 12 9 15 x1 && true)))) = true := an f0 (an f1 (an f2 (an f3 rfl)))
  show some (gA (M0 L V b) 11 3 15 x1 && ((decide ((TT L (14 + 15 * (x1).toNat)).1 = 64 + 2) && decide (RR b (14 + 15 * (x1).toNat) 9 = some (14 + 15 * (x1).toNat + 6))) && (gX (M0 L V b) (14 + 15 * (x1).toNat + 6) 1 x2 && (gA (M0 L V b) 12 9 15 x1 && true))), _) = _
  rw [hG]
  try rfl

theorem B16_33 (L : Nat) (V : Mv) (b : Bool) (x1 : Int) (x2 : Int) (x3 : Int)  : nxs 1 16 33 [some (.inr (.inr 1)), some (.inl x1), some (.inl x2), some (.inl x3)] [] (M0 L V b) = some (true, 34, [some (.inr (.inr 1)), some (.inl x1), some (.inl x2), some (.inl x3)], [.inl x3], M0 L V b) := by
  rfl

-- 17: MendedOrNew.look(II)I
theorem B17_0 (L : Nat) (V : Mv) (b : Bool) (x1 : Int) (x2 : Int)  : nxs 3 17 0 [some (.inr (.inr 1)), some (.inl x1), some (.inl x2)] [] (M0 L V b) = some (true, 3, [some (.inr (.inr 1)), some (.inl x1), some (.inl x2)], [.inl x2, .inl x1, .inr (.inr 1)], M0 L V b) := by
  rfl

theorem B17_6 (L : Nat) (V : Mv) (b : Bool) (x1 : Int) (x2 : Int) (s0 : Int) (g0 : in32 s0) : nxs 1 17 6 [some (.inr (.inr 1)), some (.inl x1), some (.inl x2)] [.inl s0] (M0 L V b) = some (true, cond (!decide (s0 = 0)) 11 9, [some (.inr (.inr 1)), some (.inl x1), some (.inl x2)], [], M0 L V b) := by
  have f0 : r32 s0 = true := r32_of g0
  have hG : (r32 s0 && true) = true := an f0 rfl
  show some (r32 s0 && true, _) = _
  rw [hG]
  try rfl

theorem B17_9 (L : Nat) (V : Mv) (b : Bool) (x1 : Int) (x2 : Int)  : nxs 1 17 9 [some (.inr (.inr 1)), some (.inl x1), some (.inl x2)] [] (M0 L V b) = some (true, 10, [some (.inr (.inr 1)), some (.inl x1), some (.inl x2)], [.inl (-1)], M0 L V b) := by
  rfl

theorem B17_11 (L : Nat) (V : Mv) (b : Bool) (x1 : Int) (x2 : Int) (g0 : 0 ≤ x1 ∧ x1 < 3) : nxs 4 17 11 [some (.inr (.inr 1)), some (.inl x1), some (.inl x2)] [] (M0 L V b) = some (true, 17, [some (.inr (.inr 1)), some (.inl x1), some (.inl x2)], [.inr (.inr (14 + 15 * (x1).toNat))], M0 L V b) := by
  have f0 : gA (M0 L V b) 11 3 15 x1 = true := gA_11 L _ b g0
  have hG : (gA (M0 L V b) 11 3 15 x1 && true) = true := an f0 rfl
  show some (gA (M0 L V b) 11 3 15 x1 && true, _) = _
  rw [hG]
  try rfl

theorem B17_20 (L : Nat) (V : Mv) (b : Bool) (x1 : Int) (x2 : Int) (s0 : Int) (g0 : in32 s0) : nxs 1 17 20 [some (.inr (.inr 1)), some (.inl x1), some (.inl x2)] [.inl s0] (M0 L V b) = some (true, cond (decide (s0 = 0)) 39 23, [some (.inr (.inr 1)), some (.inl x1), some (.inl x2)], [], M0 L V b) := by
  have f0 : r32 s0 = true := r32_of g0
  have hG : (r32 s0 && true) = true := an f0 rfl
  show some (r32 s0 && true, _) = _
  rw [hG]
  try rfl

theorem B17_23 (L : Nat) (V : Mv) (b : Bool) (x1 : Int) (x2 : Int) (g0 : 0 ≤ x1 ∧ x1 < 3) (g1 : 0 ≤ x2 ∧ x2 < 8) (g2 : in64 (V (21 + 15 * (x1).toNat + 1) (x2).toNat)) (g3 : in32 (cmpI (V (21 + 15 * (x1).toNat + 1) (x2).toNat) 0)) : nxs 10 17 23 [some (.inr (.inr 1)), some (.inl x1), some (.inl x2)] [] (M0 L V b) = some (true, cond (!decide (cmpI (V (21 + 15 * (x1).toNat + 1) (x2).toNat) 0 = 0)) 42 39, [some (.inr (.inr 1)), some (.inl x1), some (.inl x2)], [], M0 L V b) := by
  have f0 : gA (M0 L V b) 12 9 15 x1 = true := gA_12 L _ b g0
  have f1 : (decide ((TT L (21 + 15 * (x1).toNat)).1 = 64 + 3) && decide (RR b (21 + 15 * (x1).toNat) 0 = some (21 + 15 * (x1).toNat + 1))) = true := clr_of (isT_T (k_12 g0)) (isT_R0 (k_12 g0))
  have f2 : gX (M0 L V b) (21 + 15 * (x1).toNat + 1) 2 x2 = true := gx_of (show aT _ _ = _ from isT_A0 (L := L) (k_12 g0)) g1
  have f3 : (r64 (V (21 + 15 * (x1).toNat + 1) (x2).toNat) && r64 0) = true := rr64_of g2 (by decide)
  have f4 : r32 (cmpI (V (21 + 15 * (x1).toNat + 1) (x2).toNat) 0) = true := r32_of g3
  have hG : (gA (M0 L V b) 12 9 15 x1 && ((decide ((TT L (21 + 15 * (x1).toNat)).1 = 64 + 3) && decide (RR b (21 + 15 * (x1).toNat) 0 = some (21 + 15 * (x1).toNat + 1))) && (gX (M0 L V b) (21 + 15 * (x1).toNat + 1) 2 x2 && ((r64 (V (21 + 15 * (x1).toNat + 1) (x2).toNat) && r64 0) && (r32 (cmpI (V (21 + 15 * (x1).toNat + 1) (x2).toNat) 0) && true))))) = true := an f0 (an f1 (an f2 (an f3 (an f4 rfl))))
  show some (gA (M0 L V b) 12 9 15 x1 && ((decide ((TT L (21 + 15 * (x1).toNat)).1 = 64 + 3) && decide (RR b (21 + 15 * (x1).toNat) 0 = some (21 + 15 * (x1).toNat + 1))) && (gX (M0 L V b) (21 + 15 * (x1).toNat + 1) 2 x2 && ((r64 (V (21 + 15 * (x1).toNat + 1) (x2).toNat) && r64 0) && (r32 (cmpI (V (21 + 15 * (x1).toNat + 1) (x2).toNat) 0) && true)))), _) = _
  rw [hG]
  try rfl

theorem B17_39 (L : Nat) (V : Mv) (b : Bool) (x1 : Int) (x2 : Int)  : nxs 1 17 39 [some (.inr (.inr 1)), some (.inl x1), some (.inl x2)] [] (M0 L V b) = some (true, 41, [some (.inr (.inr 1)), some (.inl x1), some (.inl x2)], [.inl (-3)], M0 L V b) := by
  rfl

theorem B17_42 (L : Nat) (V : Mv) (b : Bool) (x1 : Int) (x2 : Int) (g0 : 0 ≤ x1 ∧ x1 < 3) : nxs 5 17 42 [some (.inr (.inr 1)), some (.inl x1), some (.inl x2)] [] (M0 L V b) = some (true, 49, [some (.inr (.inr 1)), some (.inl x1), some (.inl x2)], [.inl x2, .inr (.inr (21 + 15 * (x1).toNat))], M0 L V b) := by
  have f0 : gA (M0 L V b) 12 9 15 x1 = true := gA_12 L _ b g0
  have hG : (gA (M0 L V b) 12 9 15 x1 && true) = true := an f0 rfl
  show some (gA (M0 L V b) 12 9 15 x1 && true, _) = _
  rw [hG]
  try rfl

theorem B17_52 (L : Nat) (V : Mv) (b : Bool) (x1 : Int) (x2 : Int)  : nxs 1 17 52 [some (.inr (.inr 1)), some (.inl x1), some (.inl x2)] [] (M0 L V b) = some (true, 53, [some (.inr (.inr 1)), some (.inl x1), some (.inl x2)], [.inl 1], M0 L V b) := by
  rfl

-- 18: MendedOrNew.weight(II)J
theorem B18_0 (L : Nat) (V : Mv) (b : Bool) (x1 : Int) (x2 : Int)  : nxs 3 18 0 [some (.inr (.inr 1)), some (.inl x1), some (.inl x2)] [] (M0 L V b) = some (true, 3, [some (.inr (.inr 1)), some (.inl x1), some (.inl x2)], [.inl x2, .inl x1, .inr (.inr 1)], M0 L V b) := by
  rfl

theorem B18_6 (L : Nat) (V : Mv) (b : Bool) (x1 : Int) (x2 : Int) (s0 : Int) (g0 : in32 s0) : nxs 1 18 6 [some (.inr (.inr 1)), some (.inl x1), some (.inl x2)] [.inl s0] (M0 L V b) = some (true, cond (!decide (s0 = 0)) 13 9, [some (.inr (.inr 1)), some (.inl x1), some (.inl x2)], [], M0 L V b) := by
  have f0 : r32 s0 = true := r32_of g0
  have hG : (r32 s0 && true) = true := an f0 rfl
  show some (r32 s0 && true, _) = _
  rw [hG]
  try rfl

theorem B18_9 (L : Nat) (V : Mv) (b : Bool) (x1 : Int) (x2 : Int)  : nxs 1 18 9 [some (.inr (.inr 1)), some (.inl x1), some (.inl x2)] [] (M0 L V b) = some (true, 12, [some (.inr (.inr 1)), some (.inl x1), some (.inl x2)], [.inr (.inl (-1))], M0 L V b) := by
  rfl

theorem B18_13 (L : Nat) (V : Mv) (b : Bool) (x1 : Int) (x2 : Int) (g0 : 0 ≤ x1 ∧ x1 < 3) (g1 : 0 ≤ x2 ∧ x2 < 8) : nxs 7 18 13 [some (.inr (.inr 1)), some (.inl x1), some (.inl x2)] [] (M0 L V b) = some (true, 24, [some (.inr (.inr 1)), some (.inl x1), some (.inl x2)], [.inr (.inl (V (21 + 15 * (x1).toNat + 1) (x2).toNat))], M0 L V b) := by
  have f0 : gA (M0 L V b) 12 9 15 x1 = true := gA_12 L _ b g0
  have f1 : (decide ((TT L (21 + 15 * (x1).toNat)).1 = 64 + 3) && decide (RR b (21 + 15 * (x1).toNat) 0 = some (21 + 15 * (x1).toNat + 1))) = true := clr_of (isT_T (k_12 g0)) (isT_R0 (k_12 g0))
  have f2 : gX (M0 L V b) (21 + 15 * (x1).toNat + 1) 2 x2 = true := gx_of (show aT _ _ = _ from isT_A0 (L := L) (k_12 g0)) g1
  have hG : (gA (M0 L V b) 12 9 15 x1 && ((decide ((TT L (21 + 15 * (x1).toNat)).1 = 64 + 3) && decide (RR b (21 + 15 * (x1).toNat) 0 = some (21 + 15 * (x1).toNat + 1))) && (gX (M0 L V b) (21 + 15 * (x1).toNat + 1) 2 x2 && true))) = true := an f0 (an f1 (an f2 rfl))
  show some (gA (M0 L V b) 12 9 15 x1 && ((decide ((TT L (21 + 15 * (x1).toNat)).1 = 64 + 3) && decide (RR b (21 + 15 * (x1).toNat) 0 = some (21 + 15 * (x1).toNat + 1))) && (gX (M0 L V b) (21 + 15 * (x1).toNat + 1) 2 x2 && true)), _) = _
  rw [hG]
  try rfl

-- 19: MendedOrNew.chance(IIZ)J
theorem B19_0 (L : Nat) (V : Mv) (b : Bool) (x1 : Int) (x2 : Int) (x3 : Int)  : nxs 3 19 0 [some (.inr (.inr 1)), some (.inl x1), some (.inl x2), some (.inl x3), none] [] (M0 L V b) = some (true, 3, [some (.inr (.inr 1)), some (.inl x1), some (.inl x2), some (.inl x3), none], [.inl x2, .inl x1, .inr (.inr 1)], M0 L V b) := by
  rfl

theorem B19_6 (L : Nat) (V : Mv) (b : Bool) (x1 : Int) (x2 : Int) (x3 : Int) (s0 : Int) (g0 : in32 s0) : nxs 1 19 6 [some (.inr (.inr 1)), some (.inl x1), some (.inl x2), some (.inl x3), none] [.inl s0] (M0 L V b) = some (true, cond (!decide (s0 = 0)) 13 9, [some (.inr (.inr 1)), some (.inl x1), some (.inl x2), some (.inl x3), none], [], M0 L V b) := by
  have f0 : r32 s0 = true := r32_of g0
  have hG : (r32 s0 && true) = true := an f0 rfl
  show some (r32 s0 && true, _) = _
  rw [hG]
  try rfl

theorem B19_9 (L : Nat) (V : Mv) (b : Bool) (x1 : Int) (x2 : Int) (x3 : Int)  : nxs 1 19 9 [some (.inr (.inr 1)), some (.inl x1), some (.inl x2), some (.inl x3), none] [] (M0 L V b) = some (true, 12, [some (.inr (.inr 1)), some (.inl x1), some (.inl x2), some (.inl x3), none], [.inr (.inl (-1))], M0 L V b) := by
  rfl

theorem B19_13 (L : Nat) (V : Mv) (b : Bool) (x1 : Int) (x2 : Int) (x3 : Int) (g0 : 0 ≤ x1 ∧ x1 < 3) (g1 : 0 ≤ x2 ∧ x2 < 8) : nxs 13 19 13 [some (.inr (.inr 1)), some (.inl x1), some (.inl x2), some (.inl x3), none] [] (M0 L V b) = some (true, 35, [some (.inr (.inr 1)), some (.inl x1), some (.inl x2), some (.inl x3), some (.inr (.inr (21 + 15 * (x1).toNat)))], [.inl 0, .inr (.inr (21 + 15 * (x1).toNat)), .inr (.inl (V (21 + 15 * (x1).toNat + 1) (x2).toNat)), .inr (.inr 107)], M0 L V b) := by
  have f0 : gA (M0 L V b) 12 9 15 x1 = true := gA_12 L _ b g0
  have f1 : (decide ((TT L (21 + 15 * (x1).toNat)).1 = 64 + 3) && decide (RR b (21 + 15 * (x1).toNat) 0 = some (21 + 15 * (x1).toNat + 1))) = true := clr_of (isT_T (k_12 g0)) (isT_R0 (k_12 g0))
  have f2 : gX (M0 L V b) (21 + 15 * (x1).toNat + 1) 2 x2 = true := gx_of (show aT _ _ = _ from isT_A0 (L := L) (k_12 g0)) g1
  have hG : (gA (M0 L V b) 12 9 15 x1 && ((decide ((TT L (21 + 15 * (x1).toNat)).1 = 64 + 3) && decide (RR b (21 + 15 * (x1).toNat) 0 = some (21 + 15 * (x1).toNat + 1))) && (gX (M0 L V b) (21 + 15 * (x1).toNat + 1) 2 x2 && true))) = true := an f0 (an f1 (an f2 rfl))
  show some (gA (M0 L V b) 12 9 15 x1 && ((decide ((TT L (21 + 15 * (x1).toNat)).1 = 64 + 3) && decide (RR b (21 + 15 * (x1).toNat) 0 = some (21 + 15 * (x1).toNat + 1))) && (gX (M0 L V b) (21 + 15 * (x1).toNat + 1) 2 x2 && true)), _) = _
  rw [hG]
  try rfl

theorem B19_41 (L : Nat) (V : Mv) (b : Bool) (x1 : Int) (x2 : Int) (x3 : Int) (x4 : Nat)  : nxs 3 19 41 [some (.inr (.inr 1)), some (.inl x1), some (.inl x2), some (.inl x3), some (.inr (.inr x4))] [] (M0 L V b) = some (true, 46, [some (.inr (.inr 1)), some (.inl x1), some (.inl x2), some (.inl x3), some (.inr (.inr x4))], [.inl x3, .inr (.inr 107)], M0 L V b) := by
  rfl

-- 20: MendedOrNew.knock(IZ)J
theorem B20_0 (L : Nat) (V : Mv) (b : Bool) (x1 : Int) (x2 : Int)  : nxs 1 20 0 [some (.inr (.inr 1)), some (.inl x1), some (.inl x2), none] [] (M0 L V b) = some (true, 1, [some (.inr (.inr 1)), some (.inl x1), some (.inl x2), none], [.inl x1], M0 L V b) := by
  rfl

theorem B20_4 (L : Nat) (V : Mv) (b : Bool) (x1 : Int) (x2 : Int) (s0 : Int) (g0 : in32 s0) : nxs 1 20 4 [some (.inr (.inr 1)), some (.inl x1), some (.inl x2), none] [.inl s0] (M0 L V b) = some (true, cond (!decide (s0 = 0)) 11 7, [some (.inr (.inr 1)), some (.inl x1), some (.inl x2), none], [], M0 L V b) := by
  have f0 : r32 s0 = true := r32_of g0
  have hG : (r32 s0 && true) = true := an f0 rfl
  show some (r32 s0 && true, _) = _
  rw [hG]
  try rfl

theorem B20_7 (L : Nat) (V : Mv) (b : Bool) (x1 : Int) (x2 : Int)  : nxs 1 20 7 [some (.inr (.inr 1)), some (.inl x1), some (.inl x2), none] [] (M0 L V b) = some (true, 10, [some (.inr (.inr 1)), some (.inl x1), some (.inl x2), none], [.inr (.inl (-1))], M0 L V b) := by
  rfl

theorem B20_11 (L : Nat) (V : Mv) (b : Bool) (x1 : Int) (x2 : Int) (g0 : 0 ≤ x1 ∧ x1 < 3) : nxs 12 20 11 [some (.inr (.inr 1)), some (.inl x1), some (.inl x2), none] [] (M0 L V b) = some (true, 29, [some (.inr (.inr 1)), some (.inl x1), some (.inl x2), some (.inr (.inr (21 + 15 * (x1).toNat)))], [.inr (.inr (14 + 15 * (x1).toNat)), .inr (.inr (21 + 15 * (x1).toNat)), .inr (.inr 107)], M0 L V b) := by
  have f0 : gA (M0 L V b) 12 9 15 x1 = true := gA_12 L _ b g0
  have f1 : gA (M0 L V b) 11 3 15 x1 = true := gA_11 L _ b g0
  have hG : (gA (M0 L V b) 12 9 15 x1 && (gA (M0 L V b) 11 3 15 x1 && true)) = true := an f0 (an f1 rfl)
  show some (gA (M0 L V b) 12 9 15 x1 && (gA (M0 L V b) 11 3 15 x1 && true), _) = _
  rw [hG]
  try rfl

theorem B20_32 (L : Nat) (V : Mv) (b : Bool) (x1 : Int) (x2 : Int) (x3 : Nat) (s0 : Nat) (s1 : Int)  : nxs 3 20 32 [some (.inr (.inr 1)), some (.inl x1), some (.inl x2), some (.inr (.inr x3))] [.inr (.inl s1), .inr (.inr s0)] (M0 L V b) = some (true, 37, [some (.inr (.inr 1)), some (.inl x1), some (.inl x2), some (.inr (.inr x3))], [.inl 0, .inr (.inr x3), .inr (.inl 10), .inr (.inl s1), .inr (.inr s0)], M0 L V b) := by
  rfl

theorem B20_40 (L : Nat) (V : Mv) (b : Bool) (x1 : Int) (x2 : Int) (x3 : Nat) (s0 : Nat) (s1 : Int) (s2 : Int) (s3 : Int)  : nxs 1 20 40 [some (.inr (.inr 1)), some (.inl x1), some (.inl x2), some (.inr (.inr x3))] [.inr (.inl s3), .inr (.inl s2), .inr (.inl s1), .inr (.inr s0)] (M0 L V b) = some (true, 41, [some (.inr (.inr 1)), some (.inl x1), some (.inl x2), some (.inr (.inr x3))], [.inr (.inl (s2 * s3)), .inr (.inl s1), .inr (.inr s0)], M0 L V b) := by
  rfl

theorem B20_44 (L : Nat) (V : Mv) (b : Bool) (x1 : Int) (x2 : Int) (x3 : Nat)  : nxs 3 20 44 [some (.inr (.inr 1)), some (.inl x1), some (.inl x2), some (.inr (.inr x3))] [] (M0 L V b) = some (true, 49, [some (.inr (.inr 1)), some (.inl x1), some (.inl x2), some (.inr (.inr x3))], [.inl x2, .inr (.inr 107)], M0 L V b) := by
  rfl

-- 21: MendedOrNew.likely(I)I
theorem B21_0 (L : Nat) (V : Mv) (b : Bool) (x1 : Int)  : nxs 1 21 0 [some (.inr (.inr 1)), some (.inl x1)] [] (M0 L V b) = some (true, 1, [some (.inr (.inr 1)), some (.inl x1)], [.inl x1], M0 L V b) := by
  rfl

theorem B21_4 (L : Nat) (V : Mv) (b : Bool) (x1 : Int) (s0 : Int) (g0 : in32 s0) : nxs 1 21 4 [some (.inr (.inr 1)), some (.inl x1)] [.inl s0] (M0 L V b) = some (true, cond (!decide (s0 = 0)) 9 7, [some (.inr (.inr 1)), some (.inl x1)], [], M0 L V b) := by
  have f0 : r32 s0 = true := r32_of g0
  have hG : (r32 s0 && true) = true := an f0 rfl
  show some (r32 s0 && true, _) = _
  rw [hG]
  try rfl

theorem B21_7 (L : Nat) (V : Mv) (b : Bool) (x1 : Int)  : nxs 1 21 7 [some (.inr (.inr 1)), some (.inl x1)] [] (M0 L V b) = some (true, 8, [some (.inr (.inr 1)), some (.inl x1)], [.inl (-1)], M0 L V b) := by
  rfl

theorem B21_9 (L : Nat) (V : Mv) (b : Bool) (x1 : Int) (g0 : 0 ≤ x1 ∧ x1 < 3) : nxs 4 21 9 [some (.inr (.inr 1)), some (.inl x1)] [] (M0 L V b) = some (true, 15, [some (.inr (.inr 1)), some (.inl x1)], [.inr (.inr (21 + 15 * (x1).toNat))], M0 L V b) := by
  have f0 : gA (M0 L V b) 12 9 15 x1 = true := gA_12 L _ b g0
  have hG : (gA (M0 L V b) 12 9 15 x1 && true) = true := an f0 rfl
  show some (gA (M0 L V b) 12 9 15 x1 && true, _) = _
  rw [hG]
  try rfl

-- 22: MendedOrNew.life(IIZ)J
theorem B22_0 (L : Nat) (V : Mv) (b : Bool) (x1 : Int) (x2 : Int) (x3 : Int)  : nxs 3 22 0 [some (.inr (.inr 1)), some (.inl x1), some (.inl x2), some (.inl x3), none, none] [] (M0 L V b) = some (true, 3, [some (.inr (.inr 1)), some (.inl x1), some (.inl x2), some (.inl x3), none, none], [.inl x2, .inl x1, .inr (.inr 1)], M0 L V b) := by
  rfl

theorem B22_6 (L : Nat) (V : Mv) (b : Bool) (x1 : Int) (x2 : Int) (x3 : Int) (s0 : Int) (g0 : in32 s0) : nxs 1 22 6 [some (.inr (.inr 1)), some (.inl x1), some (.inl x2), some (.inl x3), none, none] [.inl s0] (M0 L V b) = some (true, cond (!decide (s0 = 0)) 13 9, [some (.inr (.inr 1)), some (.inl x1), some (.inl x2), some (.inl x3), none, none], [], M0 L V b) := by
  have f0 : r32 s0 = true := r32_of g0
  have hG : (r32 s0 && true) = true := an f0 rfl
  show some (r32 s0 && true, _) = _
  rw [hG]
  try rfl

theorem B22_9 (L : Nat) (V : Mv) (b : Bool) (x1 : Int) (x2 : Int) (x3 : Int)  : nxs 1 22 9 [some (.inr (.inr 1)), some (.inl x1), some (.inl x2), some (.inl x3), none, none] [] (M0 L V b) = some (true, 12, [some (.inr (.inr 1)), some (.inl x1), some (.inl x2), some (.inl x3), none, none], [.inr (.inl (-1))], M0 L V b) := by
  rfl

theorem B22_13 (L : Nat) (V : Mv) (b : Bool) (x1 : Int) (x2 : Int) (x3 : Int) (g0 : 0 ≤ x1 ∧ x1 < 3) : nxs 6 22 13 [some (.inr (.inr 1)), some (.inl x1), some (.inl x2), some (.inl x3), none, none] [] (M0 L V b) = some (true, 23, [some (.inr (.inr 1)), some (.inl x1), some (.inl x2), some (.inl x3), none, none], [.inr (.inr 119), .inr (.inr (14 + 15 * (x1).toNat))], M0 L V b) := by
  have f0 : gA (M0 L V b) 11 3 15 x1 = true := gA_11 L _ b g0
  have hG : (gA (M0 L V b) 11 3 15 x1 && true) = true := an f0 rfl
  show some (gA (M0 L V b) 11 3 15 x1 && true, _) = _
  rw [hG]
  try rfl

theorem B22_26 (L : Nat) (V : Mv) (b : Bool) (x1 : Int) (x2 : Int) (x3 : Int) (s0 : Int) (g0 : 0 ≤ x2 ∧ x2 < 8) (g1 : in64 (V 119 (x2).toNat)) (g2 : in32 (cmpI (V 119 (x2).toNat) 0)) : nxs 8 22 26 [some (.inr (.inr 1)), some (.inl x1), some (.inl x2), some (.inl x3), none, none] [.inr (.inl s0)] (M0 L V b) = some (true, cond (decide (0 ≤ cmpI (V 119 (x2).toNat) 0)) 43 39, [some (.inr (.inr 1)), some (.inl x1), some (.inl x2), some (.inl x3), some (.inr (.inl s0)), none], [], M0 L V b) := by
  have f0 : gX (M0 L V b) 119 2 x2 = true := gx_of rfl g0
  have f1 : (r64 (V 119 (x2).toNat) && r64 0) = true := rr64_of g1 (by decide)
  have f2 : r32 (cmpI (V 119 (x2).toNat) 0) = true := r32_of g2
  have hG : (gX (M0 L V b) 119 2 x2 && ((r64 (V 119 (x2).toNat) && r64 0) && (r32 (cmpI (V 119 (x2).toNat) 0) && true))) = true := an f0 (an f1 (an f2 rfl))
  show some (gX (M0 L V b) 119 2 x2 && ((r64 (V 119 (x2).toNat) && r64 0) && (r32 (cmpI (V 119 (x2).toNat) 0) && true)), _) = _
  rw [hG]
  try rfl

theorem B22_39 (L : Nat) (V : Mv) (b : Bool) (x1 : Int) (x2 : Int) (x3 : Int) (x4 : Int)  : nxs 1 22 39 [some (.inr (.inr 1)), some (.inl x1), some (.inl x2), some (.inl x3), some (.inr (.inl x4)), none] [] (M0 L V b) = some (true, 42, [some (.inr (.inr 1)), some (.inl x1), some (.inl x2), some (.inl x3), some (.inr (.inl x4)), none], [.inr (.inl (-9))], M0 L V b) := by
  rfl

theorem B22_43 (L : Nat) (V : Mv) (b : Bool) (x1 : Int) (x2 : Int) (x3 : Int) (x4 : Int) (g0 : 0 ≤ x2 ∧ x2 < 8) : nxs 7 22 43 [some (.inr (.inr 1)), some (.inl x1), some (.inl x2), some (.inl x3), some (.inr (.inl x4)), none] [] (M0 L V b) = some (true, 55, [some (.inr (.inr 1)), some (.inl x1), some (.inl x2), some (.inl x3), some (.inr (.inl x4)), none], [.inr (.inl x4), .inr (.inl (V 119 (x2).toNat)), .inr (.inr 107)], M0 L V b) := by
  have f0 : gX (M0 L V b) 119 2 x2 = true := gx_of rfl g0
  have hG : (gX (M0 L V b) 119 2 x2 && true) = true := an f0 rfl
  show some (gX (M0 L V b) 119 2 x2 && true, _) = _
  rw [hG]
  try rfl

theorem B22_58 (L : Nat) (V : Mv) (b : Bool) (x1 : Int) (x2 : Int) (x3 : Int) (x4 : Int)  : nxs 3 22 58 [some (.inr (.inr 1)), some (.inl x1), some (.inl x2), some (.inl x3), some (.inr (.inl x4)), none] [] (M0 L V b) = some (true, 63, [some (.inr (.inr 1)), some (.inl x1), some (.inl x2), some (.inl x3), some (.inr (.inl x4)), none], [.inl x3, .inr (.inr 107)], M0 L V b) := by
  rfl

-- 23: MendedOrNew.rule(III)I
theorem B23_0 (L : Nat) (V : Mv) (b : Bool) (x1 : Int) (x2 : Int) (x3 : Int)  : nxs 1 23 0 [some (.inr (.inr 1)), some (.inl x1), some (.inl x2), some (.inl x3), none] [] (M0 L V b) = some (true, 1, [some (.inr (.inr 1)), some (.inl x1), some (.inl x2), some (.inl x3), none], [.inl x1], M0 L V b) := by
  rfl

theorem B23_4 (L : Nat) (V : Mv) (b : Bool) (x1 : Int) (x2 : Int) (x3 : Int) (s0 : Int) (g0 : in32 s0) : nxs 1 23 4 [some (.inr (.inr 1)), some (.inl x1), some (.inl x2), some (.inl x3), none] [.inl s0] (M0 L V b) = some (true, cond (decide (s0 = 0)) 17 7, [some (.inr (.inr 1)), some (.inl x1), some (.inl x2), some (.inl x3), none], [], M0 L V b) := by
  have f0 : r32 s0 = true := r32_of g0
  have hG : (r32 s0 && true) = true := an f0 rfl
  show some (r32 s0 && true, _) = _
  rw [hG]
  try rfl

theorem B23_7 (L : Nat) (V : Mv) (b : Bool) (x1 : Int) (x2 : Int) (x3 : Int) (g0 : in32 x2) : nxs 2 23 7 [some (.inr (.inr 1)), some (.inl x1), some (.inl x2), some (.inl x3), none] [] (M0 L V b) = some (true, cond (decide (x2 < 0)) 17 11, [some (.inr (.inr 1)), some (.inl x1), some (.inl x2), some (.inl x3), none], [], M0 L V b) := by
  have f0 : r32 x2 = true := r32_of g0
  have hG : (r32 x2 && true) = true := an f0 rfl
  show some (r32 x2 && true, _) = _
  rw [hG]
  try rfl

theorem B23_11 (L : Nat) (V : Mv) (b : Bool) (x1 : Int) (x2 : Int) (x3 : Int) (g0 : in32 x2) : nxs 3 23 11 [some (.inr (.inr 1)), some (.inl x1), some (.inl x2), some (.inl x3), none] [] (M0 L V b) = some (true, cond (decide (x2 < 8)) 19 17, [some (.inr (.inr 1)), some (.inl x1), some (.inl x2), some (.inl x3), none], [], M0 L V b) := by
  have f0 : (r32 x2 && r32 8) = true := rr32_of g0 (by decide)
  have hG : ((r32 x2 && r32 8) && true) = true := an f0 rfl
  show some ((r32 x2 && r32 8) && true, _) = _
  rw [hG]
  try rfl

theorem B23_17 (L : Nat) (V : Mv) (b : Bool) (x1 : Int) (x2 : Int) (x3 : Int)  : nxs 1 23 17 [some (.inr (.inr 1)), some (.inl x1), some (.inl x2), some (.inl x3), none] [] (M0 L V b) = some (true, 18, [some (.inr (.inr 1)), some (.inl x1), some (.inl x2), some (.inl x3), none], [.inl (-1)], M0 L V b) := by
  rfl

theorem B23_19 (L : Nat) (V : Mv) (b : Bool) (x1 : Int) (x2 : Int) (x3 : Int) (g0 : in32 x3) : nxs 2 23 19 [some (.inr (.inr 1)), some (.inl x1), some (.inl x2), some (.inl x3), none] [] (M0 L V b) = some (true, cond (decide (x3 < 0)) 28 23, [some (.inr (.inr 1)), some (.inl x1), some (.inl x2), some (.inl x3), none], [], M0 L V b) := by
  have f0 : r32 x3 = true := r32_of g0
  have hG : (r32 x3 && true) = true := an f0 rfl
  show some (r32 x3 && true, _) = _
  rw [hG]
  try rfl

theorem B23_23 (L : Nat) (V : Mv) (b : Bool) (x1 : Int) (x2 : Int) (x3 : Int) (g0 : in32 x3) : nxs 3 23 23 [some (.inr (.inr 1)), some (.inl x1), some (.inl x2), some (.inl x3), none] [] (M0 L V b) = some (true, cond (decide (x3 < 5)) 31 28, [some (.inr (.inr 1)), some (.inl x1), some (.inl x2), some (.inl x3), none], [], M0 L V b) := by
  have f0 : (r32 x3 && r32 5) = true := rr32_of g0 (by decide)
  have hG : ((r32 x3 && r32 5) && true) = true := an f0 rfl
  show some ((r32 x3 && r32 5) && true, _) = _
  rw [hG]
  try rfl

theorem B23_28 (L : Nat) (V : Mv) (b : Bool) (x1 : Int) (x2 : Int) (x3 : Int)  : nxs 1 23 28 [some (.inr (.inr 1)), some (.inl x1), some (.inl x2), some (.inl x3), none] [] (M0 L V b) = some (true, 30, [some (.inr (.inr 1)), some (.inl x1), some (.inl x2), some (.inl x3), none], [.inl (-2)], M0 L V b) := by
  rfl

theorem B23_31 (L : Nat) (V : Mv) (b : Bool) (x1 : Int) (x2 : Int) (x3 : Int) (g0 : 0 ≤ x1 ∧ x1 < 4) (g1 : 0 ≤ x2 ∧ x2 < 8) : nxs 15 23 31 [some (.inr (.inr 1)), some (.inl x1), some (.inl x2), some (.inl x3), none] [] (M0 L V b) = some (true, 52, [some (.inr (.inr 1)), some (.inl x1), some (.inl x2), some (.inl x3), some (.inl (V (64 + 1 * (x1).toNat) (x2).toNat))], [.inl (V (64 + 1 * (x1).toNat) (x2).toNat)], M0 L (uV V (64 + 1 * (x1).toNat) (x2).toNat x3) b) := by
  have f0 : gA (M0 L V b) 63 1 1 x1 = true := gA_63 L _ b g0
  have f1 : gX (M0 L V b) (64 + 1 * (x1).toNat) 1 x2 = true := gx_of (show aT _ _ = _ from r_63 L g0) g1
  have f2 : gA (M0 L V b) 63 1 1 x1 = true := gA_63 L _ b g0
  have f3 : (gX (M0 L V b) (64 + 1 * (x1).toNat) 1 x2 && !Nat.beq (64 + 1 * (x1).toNat) 0) = true := gs_of (gx_of (show aT _ _ = _ from r_63 L g0) g1) (by omega)
  have hG : (gA (M0 L V b) 63 1 1 x1 && (gX (M0 L V b) (64 + 1 * (x1).toNat) 1 x2 && (gA (M0 L V b) 63 1 1 x1 && ((gX (M0 L V b) (64 + 1 * (x1).toNat) 1 x2 && !Nat.beq (64 + 1 * (x1).toNat) 0) && true)))) = true := an f0 (an f1 (an f2 (an f3 rfl)))
  show some (gA (M0 L V b) 63 1 1 x1 && (gX (M0 L V b) (64 + 1 * (x1).toNat) 1 x2 && (gA (M0 L V b) 63 1 1 x1 && ((gX (M0 L V b) (64 + 1 * (x1).toNat) 1 x2 && !Nat.beq (64 + 1 * (x1).toNat) 0) && true))), _) = _
  rw [hG]
  try rfl

-- 24: MendedOrNew.isRule(I)Z
theorem B24_0 (L : Nat) (V : Mv) (b : Bool) (x0 : Int) (g0 : in32 x0) : nxs 2 24 0 [some (.inl x0)] [] (M0 L V b) = some (true, cond (decide (x0 < 0)) 13 4, [some (.inl x0)], [], M0 L V b) := by
  have f0 : r32 x0 = true := r32_of g0
  have hG : (r32 x0 && true) = true := an f0 rfl
  show some (r32 x0 && true, _) = _
  rw [hG]
  try rfl

theorem B24_4 (L : Nat) (V : Mv) (b : Bool) (x0 : Int) (g0 : in32 x0) : nxs 3 24 4 [some (.inl x0)] [] (M0 L V b) = some (true, cond (decide (4 ≤ x0)) 13 9, [some (.inl x0)], [], M0 L V b) := by
  have f0 : (r32 x0 && r32 4) = true := rr32_of g0 (by decide)
  have hG : ((r32 x0 && r32 4) && true) = true := an f0 rfl
  show some ((r32 x0 && r32 4) && true, _) = _
  rw [hG]
  try rfl

theorem B24_9 (L : Nat) (V : Mv) (b : Bool) (x0 : Int)  : nxs 2 24 9 [some (.inl x0)] [] (M0 L V b) = some (true, 14, [some (.inl x0)], [.inl 1], M0 L V b) := by
  rfl

theorem B24_13 (L : Nat) (V : Mv) (b : Bool) (x0 : Int)  : nxs 1 24 13 [some (.inl x0)] [] (M0 L V b) = some (true, 14, [some (.inl x0)], [.inl 0], M0 L V b) := by
  rfl

-- 25: MendedOrNew.cost(IIZ)J
theorem B25_0 (L : Nat) (V : Mv) (b : Bool) (x1 : Int) (x2 : Int) (x3 : Int)  : nxs 1 25 0 [some (.inr (.inr 1)), some (.inl x1), some (.inl x2), some (.inl x3)] [] (M0 L V b) = some (true, 1, [some (.inr (.inr 1)), some (.inl x1), some (.inl x2), some (.inl x3)], [.inl x1], M0 L V b) := by
  rfl

theorem B25_4 (L : Nat) (V : Mv) (b : Bool) (x1 : Int) (x2 : Int) (x3 : Int) (s0 : Int) (g0 : in32 s0) : nxs 1 25 4 [some (.inr (.inr 1)), some (.inl x1), some (.inl x2), some (.inl x3)] [.inl s0] (M0 L V b) = some (true, cond (decide (s0 = 0)) 14 7, [some (.inr (.inr 1)), some (.inl x1), some (.inl x2), some (.inl x3)], [], M0 L V b) := by
  have f0 : r32 s0 = true := r32_of g0
  have hG : (r32 s0 && true) = true := an f0 rfl
  show some (r32 s0 && true, _) = _
  rw [hG]
  try rfl

theorem B25_7 (L : Nat) (V : Mv) (b : Bool) (x1 : Int) (x2 : Int) (x3 : Int)  : nxs 1 25 7 [some (.inr (.inr 1)), some (.inl x1), some (.inl x2), some (.inl x3)] [] (M0 L V b) = some (true, 8, [some (.inr (.inr 1)), some (.inl x1), some (.inl x2), some (.inl x3)], [.inl x2], M0 L V b) := by
  rfl

theorem B25_11 (L : Nat) (V : Mv) (b : Bool) (x1 : Int) (x2 : Int) (x3 : Int) (s0 : Int) (g0 : in32 s0) : nxs 1 25 11 [some (.inr (.inr 1)), some (.inl x1), some (.inl x2), some (.inl x3)] [.inl s0] (M0 L V b) = some (true, cond (!decide (s0 = 0)) 18 14, [some (.inr (.inr 1)), some (.inl x1), some (.inl x2), some (.inl x3)], [], M0 L V b) := by
  have f0 : r32 s0 = true := r32_of g0
  have hG : (r32 s0 && true) = true := an f0 rfl
  show some (r32 s0 && true, _) = _
  rw [hG]
  try rfl

theorem B25_14 (L : Nat) (V : Mv) (b : Bool) (x1 : Int) (x2 : Int) (x3 : Int)  : nxs 1 25 14 [some (.inr (.inr 1)), some (.inl x1), some (.inl x2), some (.inl x3)] [] (M0 L V b) = some (true, 17, [some (.inr (.inr 1)), some (.inl x1), some (.inl x2), some (.inl x3)], [.inr (.inl (-1))], M0 L V b) := by
  rfl

theorem B25_18 (L : Nat) (V : Mv) (b : Bool) (x1 : Int) (x2 : Int) (x3 : Int) (g0 : 0 ≤ x1 ∧ x1 < 3) (g1 : 0 ≤ x2 ∧ x2 < 4) : nxs 12 25 18 [some (.inr (.inr 1)), some (.inl x1), some (.inl x2), some (.inl x3)] [] (M0 L V b) = some (true, 38, [some (.inr (.inr 1)), some (.inl x1), some (.inl x2), some (.inl x3)], [.inr (.inr 107), .inr (.inr (64 + 1 * (x2).toNat)), .inr (.inr (14 + 15 * (x1).toNat)), .inr (.inr 100)], M0 L V b) := by
  have f0 : gA (M0 L V b) 11 3 15 x1 = true := gA_11 L _ b g0
  have f1 : gA (M0 L V b) 63 1 1 x2 = true := gA_63 L _ b g1
  have hG : (gA (M0 L V b) 11 3 15 x1 && (gA (M0 L V b) 63 1 1 x2 && true)) = true := an f0 (an f1 rfl)
  show some (gA (M0 L V b) 11 3 15 x1 && (gA (M0 L V b) 63 1 1 x2 && true), _) = _
  rw [hG]
  try rfl

theorem B25_41 (L : Nat) (V : Mv) (b : Bool) (x1 : Int) (x2 : Int) (x3 : Int) (s0 : Int) (g0 : in32 s0) : nxs 1 25 41 [some (.inr (.inr 1)), some (.inl x1), some (.inl x2), some (.inl x3)] [.inl s0] (M0 L V b) = some (true, cond (!decide (s0 = 0)) 48 44, [some (.inr (.inr 1)), some (.inl x1), some (.inl x2), some (.inl x3)], [], M0 L V b) := by
  have f0 : r32 s0 = true := r32_of g0
  have hG : (r32 s0 && true) = true := an f0 rfl
  show some (r32 s0 && true, _) = _
  rw [hG]
  try rfl

theorem B25_44 (L : Nat) (V : Mv) (b : Bool) (x1 : Int) (x2 : Int) (x3 : Int)  : nxs 1 25 44 [some (.inr (.inr 1)), some (.inl x1), some (.inl x2), some (.inl x3)] [] (M0 L V b) = some (true, 47, [some (.inr (.inr 1)), some (.inl x1), some (.inl x2), some (.inl x3)], [.inr (.inl (-3))], M0 L V b) := by
  rfl

theorem B25_48 (L : Nat) (V : Mv) (b : Bool) (x1 : Int) (x2 : Int) (x3 : Int)  : nxs 3 25 48 [some (.inr (.inr 1)), some (.inl x1), some (.inl x2), some (.inl x3)] [] (M0 L V b) = some (true, 53, [some (.inr (.inr 1)), some (.inl x1), some (.inl x2), some (.inl x3)], [.inl x3, .inr (.inr 107)], M0 L V b) := by
  rfl

-- 26: MendedOrNew.which(III)I
theorem B26_0 (L : Nat) (V : Mv) (b : Bool) (x1 : Int) (x2 : Int) (x3 : Int)  : nxs 1 26 0 [some (.inr (.inr 1)), some (.inl x1), some (.inl x2), some (.inl x3), none, none, none, none, none] [] (M0 L V b) = some (true, 1, [some (.inr (.inr 1)), some (.inl x1), some (.inl x2), some (.inl x3), none, none, none, none, none], [.inl x1], M0 L V b) := by
  rfl

theorem B26_4 (L : Nat) (V : Mv) (b : Bool) (x1 : Int) (x2 : Int) (x3 : Int) (s0 : Int) (g0 : in32 s0) : nxs 1 26 4 [some (.inr (.inr 1)), some (.inl x1), some (.inl x2), some (.inl x3), none, none, none, none, none] [.inl s0] (M0 L V b) = some (true, cond (decide (s0 = 0)) 21 7, [some (.inr (.inr 1)), some (.inl x1), some (.inl x2), some (.inl x3), none, none, none, none, none], [], M0 L V b) := by
  have f0 : r32 s0 = true := r32_of g0
  have hG : (r32 s0 && true) = true := an f0 rfl
  show some (r32 s0 && true, _) = _
  rw [hG]
  try rfl

theorem B26_7 (L : Nat) (V : Mv) (b : Bool) (x1 : Int) (x2 : Int) (x3 : Int)  : nxs 1 26 7 [some (.inr (.inr 1)), some (.inl x1), some (.inl x2), some (.inl x3), none, none, none, none, none] [] (M0 L V b) = some (true, 8, [some (.inr (.inr 1)), some (.inl x1), some (.inl x2), some (.inl x3), none, none, none, none, none], [.inl x2], M0 L V b) := by
  rfl

theorem B26_11 (L : Nat) (V : Mv) (b : Bool) (x1 : Int) (x2 : Int) (x3 : Int) (s0 : Int) (g0 : in32 s0) : nxs 1 26 11 [some (.inr (.inr 1)), some (.inl x1), some (.inl x2), some (.inl x3), none, none, none, none, none] [.inl s0] (M0 L V b) = some (true, cond (decide (s0 = 0)) 21 14, [some (.inr (.inr 1)), some (.inl x1), some (.inl x2), some (.inl x3), none, none, none, none, none], [], M0 L V b) := by
  have f0 : r32 s0 = true := r32_of g0
  have hG : (r32 s0 && true) = true := an f0 rfl
  show some (r32 s0 && true, _) = _
  rw [hG]
  try rfl

theorem B26_14 (L : Nat) (V : Mv) (b : Bool) (x1 : Int) (x2 : Int) (x3 : Int)  : nxs 1 26 14 [some (.inr (.inr 1)), some (.inl x1), some (.inl x2), some (.inl x3), none, none, none, none, none] [] (M0 L V b) = some (true, 15, [some (.inr (.inr 1)), some (.inl x1), some (.inl x2), some (.inl x3), none, none, none, none, none], [.inl x3], M0 L V b) := by
  rfl

theorem B26_18 (L : Nat) (V : Mv) (b : Bool) (x1 : Int) (x2 : Int) (x3 : Int) (s0 : Int) (g0 : in32 s0) : nxs 1 26 18 [some (.inr (.inr 1)), some (.inl x1), some (.inl x2), some (.inl x3), none, none, none, none, none] [.inl s0] (M0 L V b) = some (true, cond (!decide (s0 = 0)) 23 21, [some (.inr (.inr 1)), some (.inl x1), some (.inl x2), some (.inl x3), none, none, none, none, none], [], M0 L V b) := by
  have f0 : r32 s0 = true := r32_of g0
  have hG : (r32 s0 && true) = true := an f0 rfl
  show some (r32 s0 && true, _) = _
  rw [hG]
  try rfl

theorem B26_21 (L : Nat) (V : Mv) (b : Bool) (x1 : Int) (x2 : Int) (x3 : Int)  : nxs 1 26 21 [some (.inr (.inr 1)), some (.inl x1), some (.inl x2), some (.inl x3), none, none, none, none, none] [] (M0 L V b) = some (true, 22, [some (.inr (.inr 1)), some (.inl x1), some (.inl x2), some (.inl x3), none, none, none, none, none], [.inl (-1)], M0 L V b) := by
  rfl

theorem B26_23 (L : Nat) (V : Mv) (b : Bool) (x1 : Int) (x2 : Int) (x3 : Int) (g0 : 0 ≤ x1 ∧ x1 < 3) (g1 : 0 ≤ x2 ∧ x2 < 4) : nxs 12 26 23 [some (.inr (.inr 1)), some (.inl x1), some (.inl x2), some (.inl x3), none, none, none, none, none] [] (M0 L V b) = some (true, 43, [some (.inr (.inr 1)), some (.inl x1), some (.inl x2), some (.inl x3), none, none, none, none, none], [.inr (.inr 107), .inr (.inr (64 + 1 * (x2).toNat)), .inr (.inr (14 + 15 * (x1).toNat)), .inr (.inr 100)], M0 L V b) := by
  have f0 : gA (M0 L V b) 11 3 15 x1 = true := gA_11 L _ b g0
  have f1 : gA (M0 L V b) 63 1 1 x2 = true := gA_63 L _ b g1
  have hG : (gA (M0 L V b) 11 3 15 x1 && (gA (M0 L V b) 63 1 1 x2 && true)) = true := an f0 (an f1 rfl)
  show some (gA (M0 L V b) 11 3 15 x1 && (gA (M0 L V b) 63 1 1 x2 && true), _) = _
  rw [hG]
  try rfl

theorem B26_46 (L : Nat) (V : Mv) (b : Bool) (x1 : Int) (x2 : Int) (x3 : Int) (s0 : Int) (g0 : in32 s0) : nxs 1 26 46 [some (.inr (.inr 1)), some (.inl x1), some (.inl x2), some (.inl x3), none, none, none, none, none] [.inl s0] (M0 L V b) = some (true, cond (!decide (s0 = 0)) 52 49, [some (.inr (.inr 1)), some (.inl x1), some (.inl x2), some (.inl x3), none, none, none, none, none], [], M0 L V b) := by
  have f0 : r32 s0 = true := r32_of g0
  have hG : (r32 s0 && true) = true := an f0 rfl
  show some (r32 s0 && true, _) = _
  rw [hG]
  try rfl

theorem B26_49 (L : Nat) (V : Mv) (b : Bool) (x1 : Int) (x2 : Int) (x3 : Int)  : nxs 1 26 49 [some (.inr (.inr 1)), some (.inl x1), some (.inl x2), some (.inl x3), none, none, none, none, none] [] (M0 L V b) = some (true, 51, [some (.inr (.inr 1)), some (.inl x1), some (.inl x2), some (.inl x3), none, none, none, none, none], [.inl (-3)], M0 L V b) := by
  rfl

theorem B26_52 (L : Nat) (V : Mv) (b : Bool) (x1 : Int) (x2 : Int) (x3 : Int) (g0 : 0 ≤ x1 ∧ x1 < 3) (g1 : 0 ≤ x3 ∧ x3 < 4) : nxs 20 26 52 [some (.inr (.inr 1)), some (.inl x1), some (.inl x2), some (.inl x3), none, none, none, none, none] [] (M0 L V b) = some (true, 90, [some (.inr (.inr 1)), some (.inl x1), some (.inl x2), some (.inl x3), some (.inr (.inl (V 107 0))), none, some (.inr (.inl (V 107 1))), none, none], [.inr (.inr 107), .inr (.inr (64 + 1 * (x3).toNat)), .inr (.inr (14 + 15 * (x1).toNat)), .inr (.inr 100)], M0 L V b) := by
  have f0 : gA (M0 L V b) 11 3 15 x1 = true := gA_11 L _ b g0
  have f1 : gA (M0 L V b) 63 1 1 x3 = true := gA_63 L _ b g1
  have hG : (gA (M0 L V b) 11 3 15 x1 && (gA (M0 L V b) 63 1 1 x3 && true)) = true := an f0 (an f1 rfl)
  show some (gA (M0 L V b) 11 3 15 x1 && (gA (M0 L V b) 63 1 1 x3 && true), _) = _
  rw [hG]
  try rfl

theorem B26_93 (L : Nat) (V : Mv) (b : Bool) (x1 : Int) (x2 : Int) (x3 : Int) (x4 : Int) (x6 : Int) (s0 : Int) (g0 : in32 s0) : nxs 1 26 93 [some (.inr (.inr 1)), some (.inl x1), some (.inl x2), some (.inl x3), some (.inr (.inl x4)), none, some (.inr (.inl x6)), none, none] [.inl s0] (M0 L V b) = some (true, cond (!decide (s0 = 0)) 99 96, [some (.inr (.inr 1)), some (.inl x1), some (.inl x2), some (.inl x3), some (.inr (.inl x4)), none, some (.inr (.inl x6)), none, none], [], M0 L V b) := by
  have f0 : r32 s0 = true := r32_of g0
  have hG : (r32 s0 && true) = true := an f0 rfl
  show some (r32 s0 && true, _) = _
  rw [hG]
  try rfl

theorem B26_96 (L : Nat) (V : Mv) (b : Bool) (x1 : Int) (x2 : Int) (x3 : Int) (x4 : Int) (x6 : Int)  : nxs 1 26 96 [some (.inr (.inr 1)), some (.inl x1), some (.inl x2), some (.inl x3), some (.inr (.inl x4)), none, some (.inr (.inl x6)), none, none] [] (M0 L V b) = some (true, 98, [some (.inr (.inr 1)), some (.inl x1), some (.inl x2), some (.inl x3), some (.inr (.inl x4)), none, some (.inr (.inl x6)), none, none], [.inl (-3)], M0 L V b) := by
  rfl

theorem B26_99 (L : Nat) (V : Mv) (b : Bool) (x1 : Int) (x2 : Int) (x3 : Int) (x4 : Int) (x6 : Int)  : nxs 4 26 99 [some (.inr (.inr 1)), some (.inl x1), some (.inl x2), some (.inl x3), some (.inr (.inl x4)), none, some (.inr (.inl x6)), none, none] [] (M0 L V b) = some (true, 107, [some (.inr (.inr 1)), some (.inl x1), some (.inl x2), some (.inl x3), some (.inr (.inl x4)), none, some (.inr (.inl x6)), none, none], [.inr (.inl x6), .inr (.inl x4), .inr (.inr 107)], M0 L V b) := by
  rfl

theorem B26_110 (L : Nat) (V : Mv) (b : Bool) (x1 : Int) (x2 : Int) (x3 : Int) (x4 : Int) (x6 : Int) (s0 : Int) (g0 : in32 s0) : nxs 3 26 110 [some (.inr (.inr 1)), some (.inl x1), some (.inl x2), some (.inl x3), some (.inr (.inl x4)), none, some (.inr (.inl x6)), none, none] [.inl s0] (M0 L V b) = some (true, cond (!decide (s0 = 0)) 121 117, [some (.inr (.inr 1)), some (.inl x1), some (.inl x2), some (.inl x3), some (.inr (.inl x4)), none, some (.inr (.inl x6)), none, some (.inl s0)], [], M0 L V b) := by
  have f0 : r32 s0 = true := r32_of g0
  have hG : (r32 s0 && true) = true := an f0 rfl
  show some (r32 s0 && true, _) = _
  rw [hG]
  try rfl

theorem B26_117 (L : Nat) (V : Mv) (b : Bool) (x1 : Int) (x2 : Int) (x3 : Int) (x4 : Int) (x6 : Int) (x8 : Int)  : nxs 2 26 117 [some (.inr (.inr 1)), some (.inl x1), some (.inl x2), some (.inl x3), some (.inr (.inl x4)), none, some (.inr (.inl x6)), none, some (.inl x8)] [] (M0 L V b) = some (true, 131, [some (.inr (.inr 1)), some (.inl x1), some (.inl x2), some (.inl x3), some (.inr (.inl x4)), none, some (.inr (.inl x6)), none, some (.inl x8)], [.inl 3], M0 L V b) := by
  rfl

theorem B26_121 (L : Nat) (V : Mv) (b : Bool) (x1 : Int) (x2 : Int) (x3 : Int) (x4 : Int) (x6 : Int) (x8 : Int) (g0 : in32 x8) : nxs 2 26 121 [some (.inr (.inr 1)), some (.inl x1), some (.inl x2), some (.inl x3), some (.inr (.inl x4)), none, some (.inr (.inl x6)), none, some (.inl x8)] [] (M0 L V b) = some (true, cond (decide (x8 ≤ 0)) 130 126, [some (.inr (.inr 1)), some (.inl x1), some (.inl x2), some (.inl x3), some (.inr (.inl x4)), none, some (.inr (.inl x6)), none, some (.inl x8)], [], M0 L V b) := by
  have f0 : r32 x8 = true := r32_of g0
  have hG : (r32 x8 && true) = true := an f0 rfl
  show some (r32 x8 && true, _) = _
  rw [hG]
  try rfl

theorem B26_126 (L : Nat) (V : Mv) (b : Bool) (x1 : Int) (x2 : Int) (x3 : Int) (x4 : Int) (x6 : Int) (x8 : Int)  : nxs 2 26 126 [some (.inr (.inr 1)), some (.inl x1), some (.inl x2), some (.inl x3), some (.inr (.inl x4)), none, some (.inr (.inl x6)), none, some (.inl x8)] [] (M0 L V b) = some (true, 131, [some (.inr (.inr 1)), some (.inl x1), some (.inl x2), some (.inl x3), some (.inr (.inl x4)), none, some (.inr (.inl x6)), none, some (.inl x8)], [.inl 1], M0 L V b) := by
  rfl

theorem B26_130 (L : Nat) (V : Mv) (b : Bool) (x1 : Int) (x2 : Int) (x3 : Int) (x4 : Int) (x6 : Int) (x8 : Int)  : nxs 1 26 130 [some (.inr (.inr 1)), some (.inl x1), some (.inl x2), some (.inl x3), some (.inr (.inl x4)), none, some (.inr (.inl x6)), none, some (.inl x8)] [] (M0 L V b) = some (true, 131, [some (.inr (.inr 1)), some (.inl x1), some (.inl x2), some (.inl x3), some (.inr (.inl x4)), none, some (.inr (.inl x6)), none, some (.inl x8)], [.inl 2], M0 L V b) := by
  rfl

-- 27: MendedOrNew.best(I)I
theorem B27_0 (L : Nat) (V : Mv) (b : Bool) (x1 : Int)  : nxs 1 27 0 [some (.inr (.inr 1)), some (.inl x1)] [] (M0 L V b) = some (true, 1, [some (.inr (.inr 1)), some (.inl x1)], [.inl x1], M0 L V b) := by
  rfl

theorem B27_4 (L : Nat) (V : Mv) (b : Bool) (x1 : Int) (s0 : Int) (g0 : in32 s0) : nxs 1 27 4 [some (.inr (.inr 1)), some (.inl x1)] [.inl s0] (M0 L V b) = some (true, cond (!decide (s0 = 0)) 9 7, [some (.inr (.inr 1)), some (.inl x1)], [], M0 L V b) := by
  have f0 : r32 s0 = true := r32_of g0
  have hG : (r32 s0 && true) = true := an f0 rfl
  show some (r32 s0 && true, _) = _
  rw [hG]
  try rfl

theorem B27_7 (L : Nat) (V : Mv) (b : Bool) (x1 : Int)  : nxs 1 27 7 [some (.inr (.inr 1)), some (.inl x1)] [] (M0 L V b) = some (true, 8, [some (.inr (.inr 1)), some (.inl x1)], [.inl (-1)], M0 L V b) := by
  rfl

theorem B27_9 (L : Nat) (V : Mv) (b : Bool) (x1 : Int) (g0 : 0 ≤ x1 ∧ x1 < 3) : nxs 4 27 9 [some (.inr (.inr 1)), some (.inl x1)] [] (M0 L V b) = some (true, 15, [some (.inr (.inr 1)), some (.inl x1)], [.inr (.inr (14 + 15 * (x1).toNat))], M0 L V b) := by
  have f0 : gA (M0 L V b) 11 3 15 x1 = true := gA_11 L _ b g0
  have hG : (gA (M0 L V b) 11 3 15 x1 && true) = true := an f0 rfl
  show some (gA (M0 L V b) 11 3 15 x1 && true, _) = _
  rw [hG]
  try rfl

theorem B27_18 (L : Nat) (V : Mv) (b : Bool) (x1 : Int) (s0 : Int) (g0 : in64 s0) (g1 : in32 (cmpI s0 1024)) : nxs 3 27 18 [some (.inr (.inr 1)), some (.inl x1)] [.inr (.inl s0)] (M0 L V b) = some (true, cond (decide (cmpI s0 1024 ≤ 0)) 28 25, [some (.inr (.inr 1)), some (.inl x1)], [], M0 L V b) := by
  have f0 : (r64 s0 && r64 1024) = true := rr64_of g0 (by decide)
  have f1 : r32 (cmpI s0 1024) = true := r32_of g1
  have hG : ((r64 s0 && r64 1024) && (r32 (cmpI s0 1024) && true)) = true := an f0 (an f1 rfl)
  show some ((r64 s0 && r64 1024) && (r32 (cmpI s0 1024) && true), _) = _
  rw [hG]
  try rfl

theorem B27_25 (L : Nat) (V : Mv) (b : Bool) (x1 : Int)  : nxs 1 27 25 [some (.inr (.inr 1)), some (.inl x1)] [] (M0 L V b) = some (true, 27, [some (.inr (.inr 1)), some (.inl x1)], [.inl (-3)], M0 L V b) := by
  rfl

theorem B27_28 (L : Nat) (V : Mv) (b : Bool) (x1 : Int) (g0 : 0 ≤ x1 ∧ x1 < 3) : nxs 10 27 28 [some (.inr (.inr 1)), some (.inl x1)] [] (M0 L V b) = some (true, 44, [some (.inr (.inr 1)), some (.inl x1)], [.inr (.inr 100), .inr (.inr (14 + 15 * (x1).toNat)), .inr (.inr (24 + 15 * (x1).toNat))], M0 L V b) := by
  have f0 : gA (M0 L V b) 13 11 15 x1 = true := gA_13 L _ b g0
  have f1 : gA (M0 L V b) 11 3 15 x1 = true := gA_11 L _ b g0
  have hG : (gA (M0 L V b) 13 11 15 x1 && (gA (M0 L V b) 11 3 15 x1 && true)) = true := an f0 (an f1 rfl)
  show some (gA (M0 L V b) 13 11 15 x1 && (gA (M0 L V b) 11 3 15 x1 && true), _) = _
  rw [hG]
  try rfl

theorem B27_47 (L : Nat) (V : Mv) (b : Bool) (x1 : Int) (g0 : 0 ≤ x1 ∧ x1 < 3) : nxs 5 27 47 [some (.inr (.inr 1)), some (.inl x1)] [] (M0 L V b) = some (true, 56, [some (.inr (.inr 1)), some (.inl x1)], [.inl (V (24 + 15 * (x1).toNat) 0)], M0 L V b) := by
  have f0 : gA (M0 L V b) 13 11 15 x1 = true := gA_13 L _ b g0
  have f1 : decide ((TT L (24 + 15 * (x1).toNat)).1 = 64 + 7) = true := cls_of (isB_T (k_13 g0))
  have hG : (gA (M0 L V b) 13 11 15 x1 && (decide ((TT L (24 + 15 * (x1).toNat)).1 = 64 + 7) && true)) = true := an f0 (an f1 rfl)
  show some (gA (M0 L V b) 13 11 15 x1 && (decide ((TT L (24 + 15 * (x1).toNat)).1 = 64 + 7) && true), _) = _
  rw [hG]
  try rfl

-- 28: MendedOrNew.power(JI)J
theorem B28_0 (L : Nat) (V : Mv) (b : Bool) (x0 : Int) (x2 : Int)  : nxs 4 28 0 [some (.inr (.inl x0)), none, some (.inl x2), none, none, none] [] (M0 L V b) = some (true, 5, [some (.inr (.inl x0)), none, some (.inl x2), some (.inr (.inl 1)), none, some (.inl 0)], [], M0 L V b) := by
  rfl

theorem B28_5 (L : Nat) (V : Mv) (b : Bool) (x0 : Int) (x2 : Int) (x3 : Int) (x5 : Int) (g0 : in32 x5) (g1 : in32 x2) : nxs 3 28 5 [some (.inr (.inl x0)), none, some (.inl x2), some (.inr (.inl x3)), none, some (.inl x5)] [] (M0 L V b) = some (true, cond (decide (x2 ≤ x5)) 21 11, [some (.inr (.inl x0)), none, some (.inl x2), some (.inr (.inl x3)), none, some (.inl x5)], [], M0 L V b) := by
  have f0 : (r32 x5 && r32 x2) = true := rr32_of g0 g1
  have hG : ((r32 x5 && r32 x2) && true) = true := an f0 rfl
  show some ((r32 x5 && r32 x2) && true, _) = _
  rw [hG]
  try rfl

theorem B28_11 (L : Nat) (V : Mv) (b : Bool) (x0 : Int) (x2 : Int) (x3 : Int) (x5 : Int)  : nxs 6 28 11 [some (.inr (.inl x0)), none, some (.inl x2), some (.inr (.inl x3)), none, some (.inl x5)] [] (M0 L V b) = some (true, 5, [some (.inr (.inl x0)), none, some (.inl x2), some (.inr (.inl (x3 * x0))), none, some (.inl (x5 + 1))], [], M0 L V b) := by
  rfl

theorem B28_21 (L : Nat) (V : Mv) (b : Bool) (x0 : Int) (x2 : Int) (x3 : Int) (x5 : Int)  : nxs 1 28 21 [some (.inr (.inl x0)), none, some (.inl x2), some (.inr (.inl x3)), none, some (.inl x5)] [] (M0 L V b) = some (true, 22, [some (.inr (.inl x0)), none, some (.inl x2), some (.inr (.inl x3)), none, some (.inl x5)], [.inr (.inl x3)], M0 L V b) := by
  rfl

-- 29: MendedOrNew.bestCost(IZ)J
theorem B29_0 (L : Nat) (V : Mv) (b : Bool) (x1 : Int) (x2 : Int)  : nxs 1 29 0 [some (.inr (.inr 1)), some (.inl x1), some (.inl x2)] [] (M0 L V b) = some (true, 1, [some (.inr (.inr 1)), some (.inl x1), some (.inl x2)], [.inl x1], M0 L V b) := by
  rfl

theorem B29_4 (L : Nat) (V : Mv) (b : Bool) (x1 : Int) (x2 : Int) (s0 : Int) (g0 : in32 s0) : nxs 1 29 4 [some (.inr (.inr 1)), some (.inl x1), some (.inl x2)] [.inl s0] (M0 L V b) = some (true, cond (!decide (s0 = 0)) 11 7, [some (.inr (.inr 1)), some (.inl x1), some (.inl x2)], [], M0 L V b) := by
  have f0 : r32 s0 = true := r32_of g0
  have hG : (r32 s0 && true) = true := an f0 rfl
  show some (r32 s0 && true, _) = _
  rw [hG]
  try rfl

theorem B29_7 (L : Nat) (V : Mv) (b : Bool) (x1 : Int) (x2 : Int)  : nxs 1 29 7 [some (.inr (.inr 1)), some (.inl x1), some (.inl x2)] [] (M0 L V b) = some (true, 10, [some (.inr (.inr 1)), some (.inl x1), some (.inl x2)], [.inr (.inl (-1))], M0 L V b) := by
  rfl

theorem B29_11 (L : Nat) (V : Mv) (b : Bool) (x1 : Int) (x2 : Int) (g0 : 0 ≤ x1 ∧ x1 < 3) : nxs 4 29 11 [some (.inr (.inr 1)), some (.inl x1), some (.inl x2)] [] (M0 L V b) = some (true, 17, [some (.inr (.inr 1)), some (.inl x1), some (.inl x2)], [.inr (.inr (14 + 15 * (x1).toNat))], M0 L V b) := by
  have f0 : gA (M0 L V b) 11 3 15 x1 = true := gA_11 L _ b g0
  have hG : (gA (M0 L V b) 11 3 15 x1 && true) = true := an f0 rfl
  show some (gA (M0 L V b) 11 3 15 x1 && true, _) = _
  rw [hG]
  try rfl

theorem B29_20 (L : Nat) (V : Mv) (b : Bool) (x1 : Int) (x2 : Int) (s0 : Int) (g0 : in64 s0) (g1 : in32 (cmpI s0 1024)) : nxs 3 29 20 [some (.inr (.inr 1)), some (.inl x1), some (.inl x2)] [.inr (.inl s0)] (M0 L V b) = some (true, cond (decide (cmpI s0 1024 ≤ 0)) 31 27, [some (.inr (.inr 1)), some (.inl x1), some (.inl x2)], [], M0 L V b) := by
  have f0 : (r64 s0 && r64 1024) = true := rr64_of g0 (by decide)
  have f1 : r32 (cmpI s0 1024) = true := r32_of g1
  have hG : ((r64 s0 && r64 1024) && (r32 (cmpI s0 1024) && true)) = true := an f0 (an f1 rfl)
  show some ((r64 s0 && r64 1024) && (r32 (cmpI s0 1024) && true), _) = _
  rw [hG]
  try rfl

theorem B29_27 (L : Nat) (V : Mv) (b : Bool) (x1 : Int) (x2 : Int)  : nxs 1 29 27 [some (.inr (.inr 1)), some (.inl x1), some (.inl x2)] [] (M0 L V b) = some (true, 30, [some (.inr (.inr 1)), some (.inl x1), some (.inl x2)], [.inr (.inl (-3))], M0 L V b) := by
  rfl

theorem B29_31 (L : Nat) (V : Mv) (b : Bool) (x1 : Int) (x2 : Int) (g0 : 0 ≤ x1 ∧ x1 < 3) : nxs 10 29 31 [some (.inr (.inr 1)), some (.inl x1), some (.inl x2)] [] (M0 L V b) = some (true, 47, [some (.inr (.inr 1)), some (.inl x1), some (.inl x2)], [.inr (.inr 100), .inr (.inr (14 + 15 * (x1).toNat)), .inr (.inr (24 + 15 * (x1).toNat))], M0 L V b) := by
  have f0 : gA (M0 L V b) 13 11 15 x1 = true := gA_13 L _ b g0
  have f1 : gA (M0 L V b) 11 3 15 x1 = true := gA_11 L _ b g0
  have hG : (gA (M0 L V b) 13 11 15 x1 && (gA (M0 L V b) 11 3 15 x1 && true)) = true := an f0 (an f1 rfl)
  show some (gA (M0 L V b) 13 11 15 x1 && (gA (M0 L V b) 11 3 15 x1 && true), _) = _
  rw [hG]
  try rfl

theorem B29_50 (L : Nat) (V : Mv) (b : Bool) (x1 : Int) (x2 : Int) (g0 : 0 ≤ x1 ∧ x1 < 3) (g1 : in32 (V (24 + 15 * (x1).toNat) 0)) : nxs 7 29 50 [some (.inr (.inr 1)), some (.inl x1), some (.inl x2)] [] (M0 L V b) = some (true, cond (!decide (V (24 + 15 * (x1).toNat) 0 = (-9))) 68 64, [some (.inr (.inr 1)), some (.inl x1), some (.inl x2)], [], M0 L V b) := by
  have f0 : gA (M0 L V b) 13 11 15 x1 = true := gA_13 L _ b g0
  have f1 : decide ((TT L (24 + 15 * (x1).toNat)).1 = 64 + 7) = true := cls_of (isB_T (k_13 g0))
  have f2 : (r32 (V (24 + 15 * (x1).toNat) 0) && r32 (-9)) = true := rr32_of g1 (by decide)
  have hG : (gA (M0 L V b) 13 11 15 x1 && (decide ((TT L (24 + 15 * (x1).toNat)).1 = 64 + 7) && ((r32 (V (24 + 15 * (x1).toNat) 0) && r32 (-9)) && true))) = true := an f0 (an f1 (an f2 rfl))
  show some (gA (M0 L V b) 13 11 15 x1 && (decide ((TT L (24 + 15 * (x1).toNat)).1 = 64 + 7) && ((r32 (V (24 + 15 * (x1).toNat) 0) && r32 (-9)) && true)), _) = _
  rw [hG]
  try rfl

theorem B29_64 (L : Nat) (V : Mv) (b : Bool) (x1 : Int) (x2 : Int)  : nxs 1 29 64 [some (.inr (.inr 1)), some (.inl x1), some (.inl x2)] [] (M0 L V b) = some (true, 67, [some (.inr (.inr 1)), some (.inl x1), some (.inl x2)], [.inr (.inl (-9))], M0 L V b) := by
  rfl

theorem B29_68 (L : Nat) (V : Mv) (b : Bool) (x1 : Int) (x2 : Int) (g0 : 0 ≤ x1 ∧ x1 < 3) : nxs 6 29 68 [some (.inr (.inr 1)), some (.inl x1), some (.inl x2)] [] (M0 L V b) = some (true, 78, [some (.inr (.inr 1)), some (.inl x1), some (.inl x2)], [.inl x2, .inr (.inr (24 + 15 * (x1).toNat + 1))], M0 L V b) := by
  have f0 : gA (M0 L V b) 13 11 15 x1 = true := gA_13 L _ b g0
  have f1 : (decide ((TT L (24 + 15 * (x1).toNat)).1 = 64 + 7) && decide (RR b (24 + 15 * (x1).toNat) 1 = some (24 + 15 * (x1).toNat + 1))) = true := clr_of (isB_T (k_13 g0)) (isB_R1 (k_13 g0))
  have hG : (gA (M0 L V b) 13 11 15 x1 && ((decide ((TT L (24 + 15 * (x1).toNat)).1 = 64 + 7) && decide (RR b (24 + 15 * (x1).toNat) 1 = some (24 + 15 * (x1).toNat + 1))) && true)) = true := an f0 (an f1 rfl)
  show some (gA (M0 L V b) 13 11 15 x1 && ((decide ((TT L (24 + 15 * (x1).toNat)).1 = 64 + 7) && decide (RR b (24 + 15 * (x1).toNat) 1 = some (24 + 15 * (x1).toNat + 1))) && true), _) = _
  rw [hG]
  try rfl

-- 30: MendedOrNew.put(III)I
theorem B30_0 (L : Nat) (V : Mv) (b : Bool) (x1 : Int) (x2 : Int) (x3 : Int)  : nxs 1 30 0 [some (.inr (.inr 1)), some (.inl x1), some (.inl x2), some (.inl x3), none, none, none, none, none] [] (M0 L V b) = some (true, 1, [some (.inr (.inr 1)), some (.inl x1), some (.inl x2), some (.inl x3), none, none, none, none, none], [.inl x1], M0 L V b) := by
  rfl

theorem B30_4 (L : Nat) (V : Mv) (b : Bool) (x1 : Int) (x2 : Int) (x3 : Int) (s0 : Int) (g0 : in32 s0) : nxs 1 30 4 [some (.inr (.inr 1)), some (.inl x1), some (.inl x2), some (.inl x3), none, none, none, none, none] [.inl s0] (M0 L V b) = some (true, cond (decide (s0 = 0)) 14 7, [some (.inr (.inr 1)), some (.inl x1), some (.inl x2), some (.inl x3), none, none, none, none, none], [], M0 L V b) := by
  have f0 : r32 s0 = true := r32_of g0
  have hG : (r32 s0 && true) = true := an f0 rfl
  show some (r32 s0 && true, _) = _
  rw [hG]
  try rfl

theorem B30_7 (L : Nat) (V : Mv) (b : Bool) (x1 : Int) (x2 : Int) (x3 : Int)  : nxs 1 30 7 [some (.inr (.inr 1)), some (.inl x1), some (.inl x2), some (.inl x3), none, none, none, none, none] [] (M0 L V b) = some (true, 8, [some (.inr (.inr 1)), some (.inl x1), some (.inl x2), some (.inl x3), none, none, none, none, none], [.inl x2], M0 L V b) := by
  rfl

theorem B30_11 (L : Nat) (V : Mv) (b : Bool) (x1 : Int) (x2 : Int) (x3 : Int) (s0 : Int) (g0 : in32 s0) : nxs 1 30 11 [some (.inr (.inr 1)), some (.inl x1), some (.inl x2), some (.inl x3), none, none, none, none, none] [.inl s0] (M0 L V b) = some (true, cond (!decide (s0 = 0)) 16 14, [some (.inr (.inr 1)), some (.inl x1), some (.inl x2), some (.inl x3), none, none, none, none, none], [], M0 L V b) := by
  have f0 : r32 s0 = true := r32_of g0
  have hG : (r32 s0 && true) = true := an f0 rfl
  show some (r32 s0 && true, _) = _
  rw [hG]
  try rfl

theorem B30_14 (L : Nat) (V : Mv) (b : Bool) (x1 : Int) (x2 : Int) (x3 : Int)  : nxs 1 30 14 [some (.inr (.inr 1)), some (.inl x1), some (.inl x2), some (.inl x3), none, none, none, none, none] [] (M0 L V b) = some (true, 15, [some (.inr (.inr 1)), some (.inl x1), some (.inl x2), some (.inl x3), none, none, none, none, none], [.inl (-1)], M0 L V b) := by
  rfl

theorem B30_16 (L : Nat) (V : Mv) (b : Bool) (x1 : Int) (x2 : Int) (x3 : Int) (g0 : 0 ≤ x1 ∧ x1 < 3) (g1 : in32 x3) : nxs 8 30 16 [some (.inr (.inr 1)), some (.inl x1), some (.inl x2), some (.inl x3), none, none, none, none, none] [] (M0 L V b) = some (true, cond (decide (x3 < 0)) 45 31, [some (.inr (.inr 1)), some (.inl x1), some (.inl x2), some (.inl x3), some (.inl (V (14 + 15 * (x1).toNat) 0)), none, none, none, none], [], M0 L V b) := by
  have f0 : gA (M0 L V b) 11 3 15 x1 = true := gA_11 L _ b g0
  have f1 : decide ((TT L (14 + 15 * (x1).toNat)).1 = 64 + 2) = true := cls_of (isK_T (k_11 g0))
  have f2 : r32 x3 = true := r32_of g1
  have hG : (gA (M0 L V b) 11 3 15 x1 && (decide ((TT L (14 + 15 * (x1).toNat)).1 = 64 + 2) && (r32 x3 && true))) = true := an f0 (an f1 (an f2 rfl))
  show some (gA (M0 L V b) 11 3 15 x1 && (decide ((TT L (14 + 15 * (x1).toNat)).1 = 64 + 2) && (r32 x3 && true)), _) = _
  rw [hG]
  try rfl

theorem B30_31 (L : Nat) (V : Mv) (b : Bool) (x1 : Int) (x2 : Int) (x3 : Int) (x4 : Int) (g0 : in32 x3) : nxs 4 30 31 [some (.inr (.inr 1)), some (.inl x1), some (.inl x2), some (.inl x3), some (.inl x4), none, none, none, none] [] (M0 L V b) = some (true, 38, [some (.inr (.inr 1)), some (.inl x1), some (.inl x2), some (.inl x3), some (.inl x4), none, none, none, none], [.inl x4, .inr (.inl 5), .inr (.inl x3)], M0 L V b) := by
  have f0 : r32 x3 = true := r32_of g0
  have hG : (r32 x3 && true) = true := an f0 rfl
  show some (r32 x3 && true, _) = _
  rw [hG]
  try rfl

theorem B30_41 (L : Nat) (V : Mv) (b : Bool) (x1 : Int) (x2 : Int) (x3 : Int) (x4 : Int) (s0 : Int) (s1 : Int) (g0 : in64 s0) (g1 : in64 s1) (g2 : in32 (cmpI s0 s1)) : nxs 2 30 41 [some (.inr (.inr 1)), some (.inl x1), some (.inl x2), some (.inl x3), some (.inl x4), none, none, none, none] [.inr (.inl s1), .inr (.inl s0)] (M0 L V b) = some (true, cond (decide (cmpI s0 s1 < 0)) 48 45, [some (.inr (.inr 1)), some (.inl x1), some (.inl x2), some (.inl x3), some (.inl x4), none, none, none, none], [], M0 L V b) := by
  have f0 : (r64 s0 && r64 s1) = true := rr64_of g0 g1
  have f1 : r32 (cmpI s0 s1) = true := r32_of g2
  have hG : ((r64 s0 && r64 s1) && (r32 (cmpI s0 s1) && true)) = true := an f0 (an f1 rfl)
  show some ((r64 s0 && r64 s1) && (r32 (cmpI s0 s1) && true), _) = _
  rw [hG]
  try rfl

theorem B30_45 (L : Nat) (V : Mv) (b : Bool) (x1 : Int) (x2 : Int) (x3 : Int) (x4 : Int)  : nxs 1 30 45 [some (.inr (.inr 1)), some (.inl x1), some (.inl x2), some (.inl x3), some (.inl x4), none, none, none, none] [] (M0 L V b) = some (true, 47, [some (.inr (.inr 1)), some (.inl x1), some (.inl x2), some (.inl x3), some (.inl x4), none, none, none, none], [.inl (-2)], M0 L V b) := by
  rfl

theorem B30_48 (L : Nat) (V : Mv) (b : Bool) (x1 : Int) (x2 : Int) (x3 : Int) (x4 : Int)  : nxs 6 30 48 [some (.inr (.inr 1)), some (.inl x1), some (.inl x2), some (.inl x3), some (.inl x4), none, none, none, none] [] (M0 L V b) = some (true, 58, [some (.inr (.inr 1)), some (.inl x1), some (.inl x2), some (.inl x3), some (.inl x4), some (.inl x3), some (.inl 0), some (.inl 7), none], [], M0 L V b) := by
  rfl

theorem B30_58 (L : Nat) (V : Mv) (b : Bool) (x1 : Int) (x2 : Int) (x3 : Int) (x4 : Int) (x5 : Int) (x6 : Int) (x7 : Int) (g0 : in32 x7) : nxs 2 30 58 [some (.inr (.inr 1)), some (.inl x1), some (.inl x2), some (.inl x3), some (.inl x4), some (.inl x5), some (.inl x6), some (.inl x7), none] [] (M0 L V b) = some (true, cond (decide (x7 < 0)) 117 63, [some (.inr (.inr 1)), some (.inl x1), some (.inl x2), some (.inl x3), some (.inl x4), some (.inl x5), some (.inl x6), some (.inl x7), none], [], M0 L V b) := by
  have f0 : r32 x7 = true := r32_of g0
  have hG : (r32 x7 && true) = true := an f0 rfl
  show some (r32 x7 && true, _) = _
  rw [hG]
  try rfl

theorem B30_63 (L : Nat) (V : Mv) (b : Bool) (x1 : Int) (x2 : Int) (x3 : Int) (x4 : Int) (x5 : Int) (x6 : Int) (x7 : Int) (g0 : in32 x7) (g1 : in32 x4) : nxs 5 30 63 [some (.inr (.inr 1)), some (.inl x1), some (.inl x2), some (.inl x3), some (.inl x4), some (.inl x5), some (.inl x6), some (.inl x7), none] [] (M0 L V b) = some (true, cond (decide (x4 ≤ x7)) 85 73, [some (.inr (.inr 1)), some (.inl x1), some (.inl x2), some (.inl x3), some (.inl x4), some (.inl x5), some (.inl x6), some (.inl x7), some (.inl 0)], [], M0 L V b) := by
  have f0 : (r32 x7 && r32 x4) = true := rr32_of g0 g1
  have hG : ((r32 x7 && r32 x4) && true) = true := an f0 rfl
  show some ((r32 x7 && r32 x4) && true, _) = _
  rw [hG]
  try rfl

theorem B30_73 (L : Nat) (V : Mv) (b : Bool) (x1 : Int) (x2 : Int) (x3 : Int) (x4 : Int) (x5 : Int) (x6 : Int) (x7 : Int) (x8 : Int) (g0 : in32 x5) : nxs 8 30 73 [some (.inr (.inr 1)), some (.inl x1), some (.inl x2), some (.inl x3), some (.inl x4), some (.inl x5), some (.inl x6), some (.inl x7), some (.inl x8)] [] (M0 L V b) = some (true, 85, [some (.inr (.inr 1)), some (.inl x1), some (.inl x2), some (.inl x3), some (.inl x4), some (.inl (Int.tdiv x5 5)), some (.inl x6), some (.inl x7), some (.inl (Int.tmod x5 5))], [], M0 L V b) := by
  have f0 : gD x5 5 = true := gD_of g0 (by decide) (by decide)
  have f1 : gD x5 5 = true := gD_of g0 (by decide) (by decide)
  have hG : (gD x5 5 && (gD x5 5 && true)) = true := an f0 (an f1 rfl)
  show some (gD x5 5 && (gD x5 5 && true), _) = _
  rw [hG]
  try rfl

theorem B30_85 (L : Nat) (V : Mv) (b : Bool) (x1 : Int) (x2 : Int) (x3 : Int) (x4 : Int) (x5 : Int) (x6 : Int) (x7 : Int) (x8 : Int) (g0 : 0 ≤ x2 ∧ x2 < 4) (g1 : 0 ≤ x7 ∧ x7 < 8) (g2 : in32 x8) : nxs 10 30 85 [some (.inr (.inr 1)), some (.inl x1), some (.inl x2), some (.inl x3), some (.inl x4), some (.inl x5), some (.inl x6), some (.inl x7), some (.inl x8)] [] (M0 L V b) = some (true, cond (decide (x8 = 0)) 107 103, [some (.inr (.inr 1)), some (.inl x1), some (.inl x2), some (.inl x3), some (.inl x4), some (.inl x5), some (.inl x6), some (.inl x7), some (.inl x8)], [.inl x6], M0 L (uV V (64 + 1 * (x2).toNat) (x7).toNat x8) b) := by
  have f0 : gA (M0 L V b) 63 1 1 x2 = true := gA_63 L _ b g0
  have f1 : (gX (M0 L V b) (64 + 1 * (x2).toNat) 1 x7 && !Nat.beq (64 + 1 * (x2).toNat) 0) = true := gs_of (gx_of (show aT _ _ = _ from r_63 L g0) g1) (by omega)
  have f2 : r32 x8 = true := r32_of g2
  have hG : (gA (M0 L V b) 63 1 1 x2 && ((gX (M0 L V b) (64 + 1 * (x2).toNat) 1 x7 && !Nat.beq (64 + 1 * (x2).toNat) 0) && (r32 x8 && true))) = true := an f0 (an f1 (an f2 rfl))
  show some (gA (M0 L V b) 63 1 1 x2 && ((gX (M0 L V b) (64 + 1 * (x2).toNat) 1 x7 && !Nat.beq (64 + 1 * (x2).toNat) 0) && (r32 x8 && true)), _) = _
  rw [hG]
  try rfl

theorem B30_103 (L : Nat) (V : Mv) (b : Bool) (x1 : Int) (x2 : Int) (x3 : Int) (x4 : Int) (x5 : Int) (x6 : Int) (x7 : Int) (x8 : Int) (s0 : Int)  : nxs 2 30 103 [some (.inr (.inr 1)), some (.inl x1), some (.inl x2), some (.inl x3), some (.inl x4), some (.inl x5), some (.inl x6), some (.inl x7), some (.inl x8)] [.inl s0] (M0 L V b) = some (true, 108, [some (.inr (.inr 1)), some (.inl x1), some (.inl x2), some (.inl x3), some (.inl x4), some (.inl x5), some (.inl x6), some (.inl x7), some (.inl x8)], [.inl 1, .inl s0], M0 L V b) := by
  rfl

theorem B30_107 (L : Nat) (V : Mv) (b : Bool) (x1 : Int) (x2 : Int) (x3 : Int) (x4 : Int) (x5 : Int) (x6 : Int) (x7 : Int) (x8 : Int) (s0 : Int)  : nxs 1 30 107 [some (.inr (.inr 1)), some (.inl x1), some (.inl x2), some (.inl x3), some (.inl x4), some (.inl x5), some (.inl x6), some (.inl x7), some (.inl x8)] [.inl s0] (M0 L V b) = some (true, 108, [some (.inr (.inr 1)), some (.inl x1), some (.inl x2), some (.inl x3), some (.inl x4), some (.inl x5), some (.inl x6), some (.inl x7), some (.inl x8)], [.inl 0, .inl s0], M0 L V b) := by
  rfl

theorem B30_108 (L : Nat) (V : Mv) (b : Bool) (x1 : Int) (x2 : Int) (x3 : Int) (x4 : Int) (x5 : Int) (x6 : Int) (x7 : Int) (x8 : Int) (s0 : Int) (s1 : Int)  : nxs 4 30 108 [some (.inr (.inr 1)), some (.inl x1), some (.inl x2), some (.inl x3), some (.inl x4), some (.inl x5), some (.inl x6), some (.inl x7), some (.inl x8)] [.inl s1, .inl s0] (M0 L V b) = some (true, 58, [some (.inr (.inr 1)), some (.inl x1), some (.inl x2), some (.inl x3), some (.inl x4), some (.inl x5), some (.inl (s0 + s1)), some (.inl (x7 + (-1))), some (.inl x8)], [], M0 L V b) := by
  rfl

theorem B30_117 (L : Nat) (V : Mv) (b : Bool) (x1 : Int) (x2 : Int) (x3 : Int) (x4 : Int) (x5 : Int) (x6 : Int) (x7 : Int)  : nxs 1 30 117 [some (.inr (.inr 1)), some (.inl x1), some (.inl x2), some (.inl x3), some (.inl x4), some (.inl x5), some (.inl x6), some (.inl x7), none] [] (M0 L V b) = some (true, 119, [some (.inr (.inr 1)), some (.inl x1), some (.inl x2), some (.inl x3), some (.inl x4), some (.inl x5), some (.inl x6), some (.inl x7), none], [.inl x6], M0 L V b) := by
  rfl

-- 31: MendedOrNew.barCost(IIIZ)J
theorem B31_0 (L : Nat) (V : Mv) (b : Bool) (x1 : Int) (x2 : Int) (x3 : Int) (x4 : Int)  : nxs 3 31 0 [some (.inr (.inr 1)), some (.inl x1), some (.inl x2), some (.inl x3), some (.inl x4)] [] (M0 L V b) = some (true, 3, [some (.inr (.inr 1)), some (.inl x1), some (.inl x2), some (.inl x3), some (.inl x4)], [.inl x2, .inl x1, .inr (.inr 1)], M0 L V b) := by
  rfl

theorem B31_6 (L : Nat) (V : Mv) (b : Bool) (x1 : Int) (x2 : Int) (x3 : Int) (x4 : Int) (s0 : Int) (g0 : in32 s0) : nxs 1 31 6 [some (.inr (.inr 1)), some (.inl x1), some (.inl x2), some (.inl x3), some (.inl x4)] [.inl s0] (M0 L V b) = some (true, cond (!decide (s0 = 0)) 13 9, [some (.inr (.inr 1)), some (.inl x1), some (.inl x2), some (.inl x3), some (.inl x4)], [], M0 L V b) := by
  have f0 : r32 s0 = true := r32_of g0
  have hG : (r32 s0 && true) = true := an f0 rfl
  show some (r32 s0 && true, _) = _
  rw [hG]
  try rfl

theorem B31_9 (L : Nat) (V : Mv) (b : Bool) (x1 : Int) (x2 : Int) (x3 : Int) (x4 : Int)  : nxs 1 31 9 [some (.inr (.inr 1)), some (.inl x1), some (.inl x2), some (.inl x3), some (.inl x4)] [] (M0 L V b) = some (true, 12, [some (.inr (.inr 1)), some (.inl x1), some (.inl x2), some (.inl x3), some (.inl x4)], [.inr (.inl (-1))], M0 L V b) := by
  rfl

theorem B31_13 (L : Nat) (V : Mv) (b : Bool) (x1 : Int) (x2 : Int) (x3 : Int) (x4 : Int) (g0 : in32 x3) : nxs 3 31 13 [some (.inr (.inr 1)), some (.inl x1), some (.inl x2), some (.inl x3), some (.inl x4)] [] (M0 L V b) = some (true, cond (decide (x3 < 1)) 31 18, [some (.inr (.inr 1)), some (.inl x1), some (.inl x2), some (.inl x3), some (.inl x4)], [], M0 L V b) := by
  have f0 : (r32 x3 && r32 1) = true := rr32_of g0 (by decide)
  have hG : ((r32 x3 && r32 1) && true) = true := an f0 rfl
  show some ((r32 x3 && r32 1) && true, _) = _
  rw [hG]
  try rfl

theorem B31_18 (L : Nat) (V : Mv) (b : Bool) (x1 : Int) (x2 : Int) (x3 : Int) (x4 : Int) (g0 : 0 ≤ x1 ∧ x1 < 3) (g1 : in32 x3) (g2 : in32 (V (14 + 15 * (x1).toNat) 0)) : nxs 7 31 18 [some (.inr (.inr 1)), some (.inl x1), some (.inl x2), some (.inl x3), some (.inl x4)] [] (M0 L V b) = some (true, cond (decide (x3 < V (14 + 15 * (x1).toNat) 0)) 35 31, [some (.inr (.inr 1)), some (.inl x1), some (.inl x2), some (.inl x3), some (.inl x4)], [], M0 L V b) := by
  have f0 : gA (M0 L V b) 11 3 15 x1 = true := gA_11 L _ b g0
  have f1 : decide ((TT L (14 + 15 * (x1).toNat)).1 = 64 + 2) = true := cls_of (isK_T (k_11 g0))
  have f2 : (r32 x3 && r32 (V (14 + 15 * (x1).toNat) 0)) = true := rr32_of g1 g2
  have hG : (gA (M0 L V b) 11 3 15 x1 && (decide ((TT L (14 + 15 * (x1).toNat)).1 = 64 + 2) && ((r32 x3 && r32 (V (14 + 15 * (x1).toNat) 0)) && true))) = true := an f0 (an f1 (an f2 rfl))
  show some (gA (M0 L V b) 11 3 15 x1 && (decide ((TT L (14 + 15 * (x1).toNat)).1 = 64 + 2) && ((r32 x3 && r32 (V (14 + 15 * (x1).toNat) 0)) && true)), _) = _
  rw [hG]
  try rfl

theorem B31_31 (L : Nat) (V : Mv) (b : Bool) (x1 : Int) (x2 : Int) (x3 : Int) (x4 : Int)  : nxs 1 31 31 [some (.inr (.inr 1)), some (.inl x1), some (.inl x2), some (.inl x3), some (.inl x4)] [] (M0 L V b) = some (true, 34, [some (.inr (.inr 1)), some (.inl x1), some (.inl x2), some (.inl x3), some (.inl x4)], [.inr (.inl (-2))], M0 L V b) := by
  rfl

theorem B31_35 (L : Nat) (V : Mv) (b : Bool) (x1 : Int) (x2 : Int) (x3 : Int) (x4 : Int)  : nxs 4 31 35 [some (.inr (.inr 1)), some (.inl x1), some (.inl x2), some (.inl x3), some (.inl x4)] [] (M0 L V b) = some (true, 39, [some (.inr (.inr 1)), some (.inl x1), some (.inl x2), some (.inl x3), some (.inl x4)], [.inl x3, .inl x2, .inl x1, .inr (.inr 1)], M0 L V b) := by
  rfl

theorem B31_42 (L : Nat) (V : Mv) (b : Bool) (x1 : Int) (x2 : Int) (x3 : Int) (x4 : Int) (s0 : Int) (g0 : in32 s0) : nxs 1 31 42 [some (.inr (.inr 1)), some (.inl x1), some (.inl x2), some (.inl x3), some (.inl x4)] [.inl s0] (M0 L V b) = some (true, cond (!decide (s0 = 0)) 49 45, [some (.inr (.inr 1)), some (.inl x1), some (.inl x2), some (.inl x3), some (.inl x4)], [], M0 L V b) := by
  have f0 : r32 s0 = true := r32_of g0
  have hG : (r32 s0 && true) = true := an f0 rfl
  show some (r32 s0 && true, _) = _
  rw [hG]
  try rfl

theorem B31_45 (L : Nat) (V : Mv) (b : Bool) (x1 : Int) (x2 : Int) (x3 : Int) (x4 : Int)  : nxs 1 31 45 [some (.inr (.inr 1)), some (.inl x1), some (.inl x2), some (.inl x3), some (.inl x4)] [] (M0 L V b) = some (true, 48, [some (.inr (.inr 1)), some (.inl x1), some (.inl x2), some (.inl x3), some (.inl x4)], [.inr (.inl (-3))], M0 L V b) := by
  rfl

theorem B31_49 (L : Nat) (V : Mv) (b : Bool) (x1 : Int) (x2 : Int) (x3 : Int) (x4 : Int)  : nxs 3 31 49 [some (.inr (.inr 1)), some (.inl x1), some (.inl x2), some (.inl x3), some (.inl x4)] [] (M0 L V b) = some (true, 55, [some (.inr (.inr 1)), some (.inl x1), some (.inl x2), some (.inl x3), some (.inl x4)], [.inl x4, .inr (.inr 107)], M0 L V b) := by
  rfl

-- 32: MendedOrNew.findBarCost(III)Z
theorem B32_0 (L : Nat) (V : Mv) (b : Bool) (x1 : Int) (x2 : Int) (x3 : Int)  : nxs 2 32 0 [some (.inr (.inr 1)), some (.inl x1), some (.inl x2), some (.inl x3), none] [] (M0 L V b) = some (true, 3, [some (.inr (.inr 1)), some (.inl x1), some (.inl x2), some (.inl x3), some (.inl 0)], [], M0 L V b) := by
  rfl

theorem B32_3 (L : Nat) (V : Mv) (b : Bool) (x1 : Int) (x2 : Int) (x3 : Int) (x4 : Int) (g0 : in32 x4) : nxs 3 32 3 [some (.inr (.inr 1)), some (.inl x1), some (.inl x2), some (.inl x3), some (.inl x4)] [] (M0 L V b) = some (true, cond (decide (8 ≤ x4)) 36 10, [some (.inr (.inr 1)), some (.inl x1), some (.inl x2), some (.inl x3), some (.inl x4)], [], M0 L V b) := by
  have f0 : (r32 x4 && r32 8) = true := rr32_of g0 (by decide)
  have hG : ((r32 x4 && r32 8) && true) = true := an f0 rfl
  show some ((r32 x4 && r32 8) && true, _) = _
  rw [hG]
  try rfl

theorem B32_10 (L : Nat) (V : Mv) (b : Bool) (x1 : Int) (x2 : Int) (x3 : Int) (x4 : Int) (g0 : in32 x4) (g1 : in32 x3) : nxs 6 32 10 [some (.inr (.inr 1)), some (.inl x1), some (.inl x2), some (.inl x3), some (.inl x4)] [] (M0 L V b) = some (true, cond (decide (x4 < x3)) 28 22, [some (.inr (.inr 1)), some (.inl x1), some (.inl x2), some (.inl x3), some (.inl x4)], [.inl x4, .inr (.inr 68)], M0 L V b) := by
  have f0 : (r32 x4 && r32 x3) = true := rr32_of g0 g1
  have hG : ((r32 x4 && r32 x3) && true) = true := an f0 rfl
  show some ((r32 x4 && r32 x3) && true, _) = _
  rw [hG]
  try rfl

theorem B32_22 (L : Nat) (V : Mv) (b : Bool) (x1 : Int) (x2 : Int) (x3 : Int) (x4 : Int) (s0 : Nat) (s1 : Int) (n_s0 : Nat) (t_s0 : TT L s0 = (1, n_s0)) : nxs 4 32 22 [some (.inr (.inr 1)), some (.inl x1), some (.inl x2), some (.inl x3), some (.inl x4)] [.inl s1, .inr (.inr s0)] (M0 L V b) = some (true, 29, [some (.inr (.inr 1)), some (.inl x1), some (.inl x2), some (.inl x3), some (.inl x4)], [.inl (x2 + 1), .inl s1, .inr (.inr s0)], M0 L V b) := by
  rfl

theorem B32_28 (L : Nat) (V : Mv) (b : Bool) (x1 : Int) (x2 : Int) (x3 : Int) (x4 : Int) (s0 : Nat) (s1 : Int) (n_s0 : Nat) (t_s0 : TT L s0 = (1, n_s0)) : nxs 1 32 28 [some (.inr (.inr 1)), some (.inl x1), some (.inl x2), some (.inl x3), some (.inl x4)] [.inl s1, .inr (.inr s0)] (M0 L V b) = some (true, 29, [some (.inr (.inr 1)), some (.inl x1), some (.inl x2), some (.inl x3), some (.inl x4)], [.inl 0, .inl s1, .inr (.inr s0)], M0 L V b) := by
  rfl

theorem B32_29 (L : Nat) (V : Mv) (b : Bool) (x1 : Int) (x2 : Int) (x3 : Int) (x4 : Int) (s0 : Nat) (s1 : Int) (s2 : Int) (n_s0 : Nat) (t_s0 : TT L s0 = (1, n_s0)) (g0 : 0 ≤ s1 ∧ s1 < (n_s0 : Int)) (z_s0 : s0 ≠ 0) : nxs 3 32 29 [some (.inr (.inr 1)), some (.inl x1), some (.inl x2), some (.inl x3), some (.inl x4)] [.inl s2, .inl s1, .inr (.inr s0)] (M0 L V b) = some (true, 3, [some (.inr (.inr 1)), some (.inl x1), some (.inl x2), some (.inl x3), some (.inl (x4 + 1))], [], M0 L (uV V s0 (s1).toNat s2) b) := by
  have f0 : (gX (M0 L V b) s0 1 s1 && !Nat.beq s0 0) = true := gs_of (gx_of (show aT _ _ = _ from t_s0) g0) z_s0
  have hG : ((gX (M0 L V b) s0 1 s1 && !Nat.beq s0 0) && true) = true := an f0 rfl
  show some ((gX (M0 L V b) s0 1 s1 && !Nat.beq s0 0) && true, _) = _
  rw [hG]
  try rfl

theorem B32_36 (L : Nat) (V : Mv) (b : Bool) (x1 : Int) (x2 : Int) (x3 : Int) (x4 : Int) (g0 : 0 ≤ x1 ∧ x1 < 3) : nxs 10 32 36 [some (.inr (.inr 1)), some (.inl x1), some (.inl x2), some (.inl x3), some (.inl x4)] [] (M0 L V b) = some (true, 54, [some (.inr (.inr 1)), some (.inl x1), some (.inl x2), some (.inl x3), some (.inl x4)], [.inr (.inr 107), .inr (.inr 68), .inr (.inr (14 + 15 * (x1).toNat)), .inr (.inr 100)], M0 L V b) := by
  have f0 : gA (M0 L V b) 11 3 15 x1 = true := gA_11 L _ b g0
  have hG : (gA (M0 L V b) 11 3 15 x1 && true) = true := an f0 rfl
  show some (gA (M0 L V b) 11 3 15 x1 && true, _) = _
  rw [hG]
  try rfl

-- 33: MendedOrNew.bar(I)I
theorem B33_0 (L : Nat) (V : Mv) (b : Bool) (x1 : Int)  : nxs 1 33 0 [some (.inr (.inr 1)), some (.inl x1), none, none, none, none, none, none, none] [] (M0 L V b) = some (true, 1, [some (.inr (.inr 1)), some (.inl x1), none, none, none, none, none, none, none], [.inl x1], M0 L V b) := by
  rfl

theorem B33_4 (L : Nat) (V : Mv) (b : Bool) (x1 : Int) (s0 : Int) (g0 : in32 s0) : nxs 1 33 4 [some (.inr (.inr 1)), some (.inl x1), none, none, none, none, none, none, none] [.inl s0] (M0 L V b) = some (true, cond (!decide (s0 = 0)) 9 7, [some (.inr (.inr 1)), some (.inl x1), none, none, none, none, none, none, none], [], M0 L V b) := by
  have f0 : r32 s0 = true := r32_of g0
  have hG : (r32 s0 && true) = true := an f0 rfl
  show some (r32 s0 && true, _) = _
  rw [hG]
  try rfl

theorem B33_7 (L : Nat) (V : Mv) (b : Bool) (x1 : Int)  : nxs 1 33 7 [some (.inr (.inr 1)), some (.inl x1), none, none, none, none, none, none, none] [] (M0 L V b) = some (true, 8, [some (.inr (.inr 1)), some (.inl x1), none, none, none, none, none, none, none], [.inl (-1)], M0 L V b) := by
  rfl

theorem B33_9 (L : Nat) (V : Mv) (b : Bool) (x1 : Int)  : nxs 8 33 9 [some (.inr (.inr 1)), some (.inl x1), none, none, none, none, none, none, none] [] (M0 L V b) = some (true, 20, [some (.inr (.inr 1)), some (.inl x1), some (.inl (-9)), some (.inr (.inl 0)), none, some (.inr (.inl 1)), none, some (.inl 0), none], [], M0 L V b) := by
  rfl

theorem B33_20 (L : Nat) (V : Mv) (b : Bool) (x1 : Int) (x2 : Int) (x3 : Int) (x5 : Int) (x7 : Int) (g0 : in32 x7) : nxs 3 33 20 [some (.inr (.inr 1)), some (.inl x1), some (.inl x2), some (.inr (.inl x3)), none, some (.inr (.inl x5)), none, some (.inl x7), none] [] (M0 L V b) = some (true, cond (decide (4 ≤ x7)) 122 26, [some (.inr (.inr 1)), some (.inl x1), some (.inl x2), some (.inr (.inl x3)), none, some (.inr (.inl x5)), none, some (.inl x7), none], [], M0 L V b) := by
  have f0 : (r32 x7 && r32 4) = true := rr32_of g0 (by decide)
  have hG : ((r32 x7 && r32 4) && true) = true := an f0 rfl
  show some ((r32 x7 && r32 4) && true, _) = _
  rw [hG]
  try rfl

theorem B33_26 (L : Nat) (V : Mv) (b : Bool) (x1 : Int) (x2 : Int) (x3 : Int) (x5 : Int) (x7 : Int)  : nxs 2 33 26 [some (.inr (.inr 1)), some (.inl x1), some (.inl x2), some (.inr (.inl x3)), none, some (.inr (.inl x5)), none, some (.inl x7), none] [] (M0 L V b) = some (true, 29, [some (.inr (.inr 1)), some (.inl x1), some (.inl x2), some (.inr (.inl x3)), none, some (.inr (.inl x5)), none, some (.inl x7), some (.inl 1)], [], M0 L V b) := by
  rfl

theorem B33_29 (L : Nat) (V : Mv) (b : Bool) (x1 : Int) (x2 : Int) (x3 : Int) (x5 : Int) (x7 : Int) (x8 : Int) (g0 : 0 ≤ x1 ∧ x1 < 3) (g1 : in32 x8) (g2 : in32 (V (14 + 15 * (x1).toNat) 0)) : nxs 7 33 29 [some (.inr (.inr 1)), some (.inl x1), some (.inl x2), some (.inr (.inl x3)), none, some (.inr (.inl x5)), none, some (.inl x7), some (.inl x8)] [] (M0 L V b) = some (true, cond (decide (V (14 + 15 * (x1).toNat) 0 ≤ x8)) 116 43, [some (.inr (.inr 1)), some (.inl x1), some (.inl x2), some (.inr (.inl x3)), none, some (.inr (.inl x5)), none, some (.inl x7), some (.inl x8)], [], M0 L V b) := by
  have f0 : gA (M0 L V b) 11 3 15 x1 = true := gA_11 L _ b g0
  have f1 : decide ((TT L (14 + 15 * (x1).toNat)).1 = 64 + 2) = true := cls_of (isK_T (k_11 g0))
  have f2 : (r32 x8 && r32 (V (14 + 15 * (x1).toNat) 0)) = true := rr32_of g1 g2
  have hG : (gA (M0 L V b) 11 3 15 x1 && (decide ((TT L (14 + 15 * (x1).toNat)).1 = 64 + 2) && ((r32 x8 && r32 (V (14 + 15 * (x1).toNat) 0)) && true))) = true := an f0 (an f1 (an f2 rfl))
  show some (gA (M0 L V b) 11 3 15 x1 && (decide ((TT L (14 + 15 * (x1).toNat)).1 = 64 + 2) && ((r32 x8 && r32 (V (14 + 15 * (x1).toNat) 0)) && true)), _) = _
  rw [hG]
  try rfl

theorem B33_43 (L : Nat) (V : Mv) (b : Bool) (x1 : Int) (x2 : Int) (x3 : Int) (x5 : Int) (x7 : Int) (x8 : Int)  : nxs 3 33 43 [some (.inr (.inr 1)), some (.inl x1), some (.inl x2), some (.inr (.inl x3)), none, some (.inr (.inl x5)), none, some (.inl x7), some (.inl x8)] [] (M0 L V b) = some (true, 47, [some (.inr (.inr 1)), some (.inl x1), some (.inl x2), some (.inr (.inl x3)), none, some (.inr (.inl x5)), none, some (.inl x7), some (.inl x8)], [.inl x7, .inl x1, .inr (.inr 1)], M0 L V b) := by
  rfl

theorem B33_50 (L : Nat) (V : Mv) (b : Bool) (x1 : Int) (x2 : Int) (x3 : Int) (x5 : Int) (x7 : Int) (x8 : Int) (s0 : Int) (g0 : in32 s0) : nxs 1 33 50 [some (.inr (.inr 1)), some (.inl x1), some (.inl x2), some (.inr (.inl x3)), none, some (.inr (.inl x5)), none, some (.inl x7), some (.inl x8)] [.inl s0] (M0 L V b) = some (true, cond (decide (s0 = 0)) 110 53, [some (.inr (.inr 1)), some (.inl x1), some (.inl x2), some (.inr (.inl x3)), none, some (.inr (.inl x5)), none, some (.inl x7), some (.inl x8)], [], M0 L V b) := by
  have f0 : r32 s0 = true := r32_of g0
  have hG : (r32 s0 && true) = true := an f0 rfl
  show some (r32 s0 && true, _) = _
  rw [hG]
  try rfl

theorem B33_53 (L : Nat) (V : Mv) (b : Bool) (x1 : Int) (x2 : Int) (x3 : Int) (x5 : Int) (x7 : Int) (x8 : Int)  : nxs 4 33 53 [some (.inr (.inr 1)), some (.inl x1), some (.inl x2), some (.inr (.inl x3)), none, some (.inr (.inl x5)), none, some (.inl x7), some (.inl x8)] [] (M0 L V b) = some (true, 59, [some (.inr (.inr 1)), some (.inl x1), some (.inl x2), some (.inr (.inl x3)), none, some (.inr (.inl x5)), none, some (.inl x7), some (.inl x8)], [.inl x8, .inl x7, .inl x1, .inr (.inr 1)], M0 L V b) := by
  rfl

theorem B33_62 (L : Nat) (V : Mv) (b : Bool) (x1 : Int) (x2 : Int) (x3 : Int) (x5 : Int) (x7 : Int) (x8 : Int) (s0 : Int) (g0 : in32 s0) : nxs 1 33 62 [some (.inr (.inr 1)), some (.inl x1), some (.inl x2), some (.inr (.inl x3)), none, some (.inr (.inl x5)), none, some (.inl x7), some (.inl x8)] [.inl s0] (M0 L V b) = some (true, cond (decide (s0 = 0)) 110 65, [some (.inr (.inr 1)), some (.inl x1), some (.inl x2), some (.inr (.inl x3)), none, some (.inr (.inl x5)), none, some (.inl x7), some (.inl x8)], [], M0 L V b) := by
  have f0 : r32 s0 = true := r32_of g0
  have hG : (r32 s0 && true) = true := an f0 rfl
  show some (r32 s0 && true, _) = _
  rw [hG]
  try rfl

theorem B33_65 (L : Nat) (V : Mv) (b : Bool) (x1 : Int) (x2 : Int) (x3 : Int) (x5 : Int) (x7 : Int) (x8 : Int) (g0 : in32 x2) : nxs 3 33 65 [some (.inr (.inr 1)), some (.inl x1), some (.inl x2), some (.inr (.inl x3)), none, some (.inr (.inl x5)), none, some (.inl x7), some (.inl x8)] [] (M0 L V b) = some (true, cond (decide (x2 = (-9))) 84 71, [some (.inr (.inr 1)), some (.inl x1), some (.inl x2), some (.inr (.inl x3)), none, some (.inr (.inl x5)), none, some (.inl x7), some (.inl x8)], [], M0 L V b) := by
  have f0 : (r32 x2 && r32 (-9)) = true := rr32_of g0 (by decide)
  have hG : ((r32 x2 && r32 (-9)) && true) = true := an f0 rfl
  show some ((r32 x2 && r32 (-9)) && true, _) = _
  rw [hG]
  try rfl

theorem B33_71 (L : Nat) (V : Mv) (b : Bool) (x1 : Int) (x2 : Int) (x3 : Int) (x5 : Int) (x7 : Int) (x8 : Int)  : nxs 4 33 71 [some (.inr (.inr 1)), some (.inl x1), some (.inl x2), some (.inr (.inl x3)), none, some (.inr (.inl x5)), none, some (.inl x7), some (.inl x8)] [] (M0 L V b) = some (true, 78, [some (.inr (.inr 1)), some (.inl x1), some (.inl x2), some (.inr (.inl x3)), none, some (.inr (.inl x5)), none, some (.inl x7), some (.inl x8)], [.inr (.inl x5), .inr (.inl x3), .inr (.inr 107)], M0 L V b) := by
  rfl

theorem B33_81 (L : Nat) (V : Mv) (b : Bool) (x1 : Int) (x2 : Int) (x3 : Int) (x5 : Int) (x7 : Int) (x8 : Int) (s0 : Int) (g0 : in32 s0) : nxs 1 33 81 [some (.inr (.inr 1)), some (.inl x1), some (.inl x2), some (.inr (.inl x3)), none, some (.inr (.inl x5)), none, some (.inl x7), some (.inl x8)] [.inl s0] (M0 L V b) = some (true, cond (decide (0 ≤ s0)) 110 84, [some (.inr (.inr 1)), some (.inl x1), some (.inl x2), some (.inr (.inl x3)), none, some (.inr (.inl x5)), none, some (.inl x7), some (.inl x8)], [], M0 L V b) := by
  have f0 : r32 s0 = true := r32_of g0
  have hG : (r32 s0 && true) = true := an f0 rfl
  show some (r32 s0 && true, _) = _
  rw [hG]
  try rfl

theorem B33_84 (L : Nat) (V : Mv) (b : Bool) (x1 : Int) (x2 : Int) (x3 : Int) (x5 : Int) (x7 : Int) (x8 : Int)  : nxs 14 33 84 [some (.inr (.inr 1)), some (.inl x1), some (.inl x2), some (.inr (.inl x3)), none, some (.inr (.inl x5)), none, some (.inl x7), some (.inl x8)] [] (M0 L V b) = some (true, 110, [some (.inr (.inr 1)), some (.inl x1), some (.inl ((10 * x7) + x8)), some (.inr (.inl (V 107 0))), none, some (.inr (.inl (V 107 1))), none, some (.inl x7), some (.inl x8)], [], M0 L V b) := by
  rfl

theorem B33_110 (L : Nat) (V : Mv) (b : Bool) (x1 : Int) (x2 : Int) (x3 : Int) (x5 : Int) (x7 : Int) (x8 : Int)  : nxs 2 33 110 [some (.inr (.inr 1)), some (.inl x1), some (.inl x2), some (.inr (.inl x3)), none, some (.inr (.inl x5)), none, some (.inl x7), some (.inl x8)] [] (M0 L V b) = some (true, 29, [some (.inr (.inr 1)), some (.inl x1), some (.inl x2), some (.inr (.inl x3)), none, some (.inr (.inl x5)), none, some (.inl x7), some (.inl (x8 + 1))], [], M0 L V b) := by
  rfl

theorem B33_116 (L : Nat) (V : Mv) (b : Bool) (x1 : Int) (x2 : Int) (x3 : Int) (x5 : Int) (x7 : Int) (x8 : Int)  : nxs 2 33 116 [some (.inr (.inr 1)), some (.inl x1), some (.inl x2), some (.inr (.inl x3)), none, some (.inr (.inl x5)), none, some (.inl x7), some (.inl x8)] [] (M0 L V b) = some (true, 20, [some (.inr (.inr 1)), some (.inl x1), some (.inl x2), some (.inr (.inl x3)), none, some (.inr (.inl x5)), none, some (.inl (x7 + 1)), some (.inl x8)], [], M0 L V b) := by
  rfl

theorem B33_122 (L : Nat) (V : Mv) (b : Bool) (x1 : Int) (x2 : Int) (x3 : Int) (x5 : Int) (x7 : Int)  : nxs 1 33 122 [some (.inr (.inr 1)), some (.inl x1), some (.inl x2), some (.inr (.inl x3)), none, some (.inr (.inl x5)), none, some (.inl x7), none] [] (M0 L V b) = some (true, 123, [some (.inr (.inr 1)), some (.inl x1), some (.inl x2), some (.inr (.inl x3)), none, some (.inr (.inl x5)), none, some (.inl x7), none], [.inl x2], M0 L V b) := by
  rfl

-- 34: MendedOrNew.plan(IIIIIZ)J
theorem B34_0 (L : Nat) (V : Mv) (b : Bool) (x1 : Int) (x2 : Int) (x3 : Int) (x4 : Int) (x5 : Int) (x6 : Int)  : nxs 6 34 0 [some (.inr (.inr 1)), some (.inl x1), some (.inl x2), some (.inl x3), some (.inl x4), some (.inl x5), some (.inl x6), none] [] (M0 L V b) = some (true, 8, [some (.inr (.inr 1)), some (.inl x1), some (.inl x2), some (.inl x3), some (.inl x4), some (.inl x5), some (.inl x6), none], [.inl x5, .inl x4, .inl x3, .inl x2, .inl x1, .inr (.inr 1)], M0 L V b) := by
  rfl

theorem B34_11 (L : Nat) (V : Mv) (b : Bool) (x1 : Int) (x2 : Int) (x3 : Int) (x4 : Int) (x5 : Int) (x6 : Int) (s0 : Int) (g0 : in32 s0) : nxs 3 34 11 [some (.inr (.inr 1)), some (.inl x1), some (.inl x2), some (.inl x3), some (.inl x4), some (.inl x5), some (.inl x6), none] [.inl s0] (M0 L V b) = some (true, cond (decide (s0 = 0)) 22 18, [some (.inr (.inr 1)), some (.inl x1), some (.inl x2), some (.inl x3), some (.inl x4), some (.inl x5), some (.inl x6), some (.inl s0)], [], M0 L V b) := by
  have f0 : r32 s0 = true := r32_of g0
  have hG : (r32 s0 && true) = true := an f0 rfl
  show some (r32 s0 && true, _) = _
  rw [hG]
  try rfl

theorem B34_18 (L : Nat) (V : Mv) (b : Bool) (x1 : Int) (x2 : Int) (x3 : Int) (x4 : Int) (x5 : Int) (x6 : Int) (x7 : Int) (g0 : in32 x7) : nxs 2 34 18 [some (.inr (.inr 1)), some (.inl x1), some (.inl x2), some (.inl x3), some (.inl x4), some (.inl x5), some (.inl x6), some (.inl x7)] [] (M0 L V b) = some (true, 21, [some (.inr (.inr 1)), some (.inl x1), some (.inl x2), some (.inl x3), some (.inl x4), some (.inl x5), some (.inl x6), some (.inl x7)], [.inr (.inl x7)], M0 L V b) := by
  have f0 : r32 x7 = true := r32_of g0
  have hG : (r32 x7 && true) = true := an f0 rfl
  show some (r32 x7 && true, _) = _
  rw [hG]
  try rfl

theorem B34_22 (L : Nat) (V : Mv) (b : Bool) (x1 : Int) (x2 : Int) (x3 : Int) (x4 : Int) (x5 : Int) (x6 : Int) (x7 : Int) (g0 : 0 ≤ x1 ∧ x1 < 3) : nxs 10 34 22 [some (.inr (.inr 1)), some (.inl x1), some (.inl x2), some (.inl x3), some (.inl x4), some (.inl x5), some (.inl x6), some (.inl x7)] [] (M0 L V b) = some (true, 38, [some (.inr (.inr 1)), some (.inl x1), some (.inl x2), some (.inl x3), some (.inl x4), some (.inl x5), some (.inl x6), some (.inl x7)], [.inl x5, .inl x4, .inl x3, .inl x2, .inr (.inr (14 + 15 * (x1).toNat)), .inr (.inr 108)], M0 L V b) := by
  have f0 : gA (M0 L V b) 11 3 15 x1 = true := gA_11 L _ b g0
  have hG : (gA (M0 L V b) 11 3 15 x1 && true) = true := an f0 rfl
  show some (gA (M0 L V b) 11 3 15 x1 && true, _) = _
  rw [hG]
  try rfl

theorem B34_41 (L : Nat) (V : Mv) (b : Bool) (x1 : Int) (x2 : Int) (x3 : Int) (x4 : Int) (x5 : Int) (x6 : Int) (x7 : Int)  : nxs 9 34 41 [some (.inr (.inr 1)), some (.inl x1), some (.inl x2), some (.inl x3), some (.inl x4), some (.inl x5), some (.inl x6), some (.inl x7)] [] (M0 L V b) = some (true, 58, [some (.inr (.inr 1)), some (.inl x1), some (.inl x2), some (.inl x3), some (.inl x4), some (.inl x5), some (.inl x6), some (.inl x7)], [.inl (x3 - 1), .inr (.inl 10), .inr (.inl (V 108 0)), .inr (.inr 107)], M0 L V b) := by
  rfl

theorem B34_64 (L : Nat) (V : Mv) (b : Bool) (x1 : Int) (x2 : Int) (x3 : Int) (x4 : Int) (x5 : Int) (x6 : Int) (x7 : Int)  : nxs 3 34 64 [some (.inr (.inr 1)), some (.inl x1), some (.inl x2), some (.inl x3), some (.inl x4), some (.inl x5), some (.inl x6), some (.inl x7)] [] (M0 L V b) = some (true, 70, [some (.inr (.inr 1)), some (.inl x1), some (.inl x2), some (.inl x3), some (.inl x4), some (.inl x5), some (.inl x6), some (.inl x7)], [.inl x6, .inr (.inr 107)], M0 L V b) := by
  rfl

-- 35: MendedOrNew.refusalOfPlan(IIIII)I
theorem B35_0 (L : Nat) (V : Mv) (b : Bool) (x1 : Int) (x2 : Int) (x3 : Int) (x4 : Int) (x5 : Int)  : nxs 3 35 0 [some (.inr (.inr 1)), some (.inl x1), some (.inl x2), some (.inl x3), some (.inl x4), some (.inl x5), none] [] (M0 L V b) = some (true, 3, [some (.inr (.inr 1)), some (.inl x1), some (.inl x2), some (.inl x3), some (.inl x4), some (.inl x5), none], [.inl x2, .inl x1, .inr (.inr 1)], M0 L V b) := by
  rfl

theorem B35_6 (L : Nat) (V : Mv) (b : Bool) (x1 : Int) (x2 : Int) (x3 : Int) (x4 : Int) (x5 : Int) (s0 : Int) (g0 : in32 s0) : nxs 1 35 6 [some (.inr (.inr 1)), some (.inl x1), some (.inl x2), some (.inl x3), some (.inl x4), some (.inl x5), none] [.inl s0] (M0 L V b) = some (true, cond (!decide (s0 = 0)) 11 9, [some (.inr (.inr 1)), some (.inl x1), some (.inl x2), some (.inl x3), some (.inl x4), some (.inl x5), none], [], M0 L V b) := by
  have f0 : r32 s0 = true := r32_of g0
  have hG : (r32 s0 && true) = true := an f0 rfl
  show some (r32 s0 && true, _) = _
  rw [hG]
  try rfl

theorem B35_9 (L : Nat) (V : Mv) (b : Bool) (x1 : Int) (x2 : Int) (x3 : Int) (x4 : Int) (x5 : Int)  : nxs 1 35 9 [some (.inr (.inr 1)), some (.inl x1), some (.inl x2), some (.inl x3), some (.inl x4), some (.inl x5), none] [] (M0 L V b) = some (true, 10, [some (.inr (.inr 1)), some (.inl x1), some (.inl x2), some (.inl x3), some (.inl x4), some (.inl x5), none], [.inl (-1)], M0 L V b) := by
  rfl

theorem B35_11 (L : Nat) (V : Mv) (b : Bool) (x1 : Int) (x2 : Int) (x3 : Int) (x4 : Int) (x5 : Int) (g0 : in32 x3) : nxs 3 35 11 [some (.inr (.inr 1)), some (.inl x1), some (.inl x2), some (.inl x3), some (.inl x4), some (.inl x5), none] [] (M0 L V b) = some (true, cond (decide (x3 < 1)) 51 16, [some (.inr (.inr 1)), some (.inl x1), some (.inl x2), some (.inl x3), some (.inl x4), some (.inl x5), none], [], M0 L V b) := by
  have f0 : (r32 x3 && r32 1) = true := rr32_of g0 (by decide)
  have hG : ((r32 x3 && r32 1) && true) = true := an f0 rfl
  show some ((r32 x3 && r32 1) && true, _) = _
  rw [hG]
  try rfl

theorem B35_16 (L : Nat) (V : Mv) (b : Bool) (x1 : Int) (x2 : Int) (x3 : Int) (x4 : Int) (x5 : Int) (g0 : in32 x3) : nxs 3 35 16 [some (.inr (.inr 1)), some (.inl x1), some (.inl x2), some (.inl x3), some (.inl x4), some (.inl x5), none] [] (M0 L V b) = some (true, cond (decide (8 < x3)) 51 22, [some (.inr (.inr 1)), some (.inl x1), some (.inl x2), some (.inl x3), some (.inl x4), some (.inl x5), none], [], M0 L V b) := by
  have f0 : (r32 x3 && r32 8) = true := rr32_of g0 (by decide)
  have hG : ((r32 x3 && r32 8) && true) = true := an f0 rfl
  show some ((r32 x3 && r32 8) && true, _) = _
  rw [hG]
  try rfl

theorem B35_22 (L : Nat) (V : Mv) (b : Bool) (x1 : Int) (x2 : Int) (x3 : Int) (x4 : Int) (x5 : Int) (g0 : in32 x4) : nxs 3 35 22 [some (.inr (.inr 1)), some (.inl x1), some (.inl x2), some (.inl x3), some (.inl x4), some (.inl x5), none] [] (M0 L V b) = some (true, cond (decide (x4 < 1)) 51 28, [some (.inr (.inr 1)), some (.inl x1), some (.inl x2), some (.inl x3), some (.inl x4), some (.inl x5), none], [], M0 L V b) := by
  have f0 : (r32 x4 && r32 1) = true := rr32_of g0 (by decide)
  have hG : ((r32 x4 && r32 1) && true) = true := an f0 rfl
  show some ((r32 x4 && r32 1) && true, _) = _
  rw [hG]
  try rfl

theorem B35_28 (L : Nat) (V : Mv) (b : Bool) (x1 : Int) (x2 : Int) (x3 : Int) (x4 : Int) (x5 : Int) (g0 : in32 x4) : nxs 3 35 28 [some (.inr (.inr 1)), some (.inl x1), some (.inl x2), some (.inl x3), some (.inl x4), some (.inl x5), none] [] (M0 L V b) = some (true, cond (decide (8 < x4)) 51 35, [some (.inr (.inr 1)), some (.inl x1), some (.inl x2), some (.inl x3), some (.inl x4), some (.inl x5), none], [], M0 L V b) := by
  have f0 : (r32 x4 && r32 8) = true := rr32_of g0 (by decide)
  have hG : ((r32 x4 && r32 8) && true) = true := an f0 rfl
  show some ((r32 x4 && r32 8) && true, _) = _
  rw [hG]
  try rfl

theorem B35_35 (L : Nat) (V : Mv) (b : Bool) (x1 : Int) (x2 : Int) (x3 : Int) (x4 : Int) (x5 : Int) (g0 : in32 x5) : nxs 2 35 35 [some (.inr (.inr 1)), some (.inl x1), some (.inl x2), some (.inl x3), some (.inl x4), some (.inl x5), none] [] (M0 L V b) = some (true, cond (decide (x5 < 0)) 51 40, [some (.inr (.inr 1)), some (.inl x1), some (.inl x2), some (.inl x3), some (.inl x4), some (.inl x5), none], [], M0 L V b) := by
  have f0 : r32 x5 = true := r32_of g0
  have hG : (r32 x5 && true) = true := an f0 rfl
  show some (r32 x5 && true, _) = _
  rw [hG]
  try rfl

theorem B35_40 (L : Nat) (V : Mv) (b : Bool) (x1 : Int) (x2 : Int) (x3 : Int) (x4 : Int) (x5 : Int) (g0 : in32 x5) : nxs 3 35 40 [some (.inr (.inr 1)), some (.inl x1), some (.inl x2), some (.inl x3), some (.inl x4), some (.inl x5), none] [] (M0 L V b) = some (true, cond (decide (9 < x5)) 51 47, [some (.inr (.inr 1)), some (.inl x1), some (.inl x2), some (.inl x3), some (.inl x4), some (.inl x5), none], [], M0 L V b) := by
  have f0 : (r32 x5 && r32 9) = true := rr32_of g0 (by decide)
  have hG : ((r32 x5 && r32 9) && true) = true := an f0 rfl
  show some ((r32 x5 && r32 9) && true, _) = _
  rw [hG]
  try rfl

theorem B35_47 (L : Nat) (V : Mv) (b : Bool) (x1 : Int) (x2 : Int) (x3 : Int) (x4 : Int) (x5 : Int)  : nxs 2 35 47 [some (.inr (.inr 1)), some (.inl x1), some (.inl x2), some (.inl x3), some (.inl x4), some (.inl x5), none] [] (M0 L V b) = some (true, 52, [some (.inr (.inr 1)), some (.inl x1), some (.inl x2), some (.inl x3), some (.inl x4), some (.inl x5), none], [.inl 1], M0 L V b) := by
  rfl

theorem B35_51 (L : Nat) (V : Mv) (b : Bool) (x1 : Int) (x2 : Int) (x3 : Int) (x4 : Int) (x5 : Int)  : nxs 1 35 51 [some (.inr (.inr 1)), some (.inl x1), some (.inl x2), some (.inl x3), some (.inl x4), some (.inl x5), none] [] (M0 L V b) = some (true, 52, [some (.inr (.inr 1)), some (.inl x1), some (.inl x2), some (.inl x3), some (.inl x4), some (.inl x5), none], [.inl 0], M0 L V b) := by
  rfl

theorem B35_52 (L : Nat) (V : Mv) (b : Bool) (x1 : Int) (x2 : Int) (x3 : Int) (x4 : Int) (x5 : Int) (s0 : Int) (g0 : in32 s0) : nxs 3 35 52 [some (.inr (.inr 1)), some (.inl x1), some (.inl x2), some (.inl x3), some (.inl x4), some (.inl x5), none] [.inl s0] (M0 L V b) = some (true, cond (decide (s0 = 0)) 63 59, [some (.inr (.inr 1)), some (.inl x1), some (.inl x2), some (.inl x3), some (.inl x4), some (.inl x5), some (.inl s0)], [], M0 L V b) := by
  have f0 : r32 s0 = true := r32_of g0
  have hG : (r32 s0 && true) = true := an f0 rfl
  show some (r32 s0 && true, _) = _
  rw [hG]
  try rfl

theorem B35_59 (L : Nat) (V : Mv) (b : Bool) (x1 : Int) (x2 : Int) (x3 : Int) (x4 : Int) (x5 : Int) (x6 : Int)  : nxs 2 35 59 [some (.inr (.inr 1)), some (.inl x1), some (.inl x2), some (.inl x3), some (.inl x4), some (.inl x5), some (.inl x6)] [] (M0 L V b) = some (true, 65, [some (.inr (.inr 1)), some (.inl x1), some (.inl x2), some (.inl x3), some (.inl x4), some (.inl x5), some (.inl x6)], [.inl 0], M0 L V b) := by
  rfl

theorem B35_63 (L : Nat) (V : Mv) (b : Bool) (x1 : Int) (x2 : Int) (x3 : Int) (x4 : Int) (x5 : Int) (x6 : Int)  : nxs 1 35 63 [some (.inr (.inr 1)), some (.inl x1), some (.inl x2), some (.inl x3), some (.inl x4), some (.inl x5), some (.inl x6)] [] (M0 L V b) = some (true, 65, [some (.inr (.inr 1)), some (.inl x1), some (.inl x2), some (.inl x3), some (.inl x4), some (.inl x5), some (.inl x6)], [.inl (-2)], M0 L V b) := by
  rfl

-- 36: MendedOrNew.planAct(IIIII)I
theorem B36_0 (L : Nat) (V : Mv) (b : Bool) (x1 : Int) (x2 : Int) (x3 : Int) (x4 : Int) (x5 : Int)  : nxs 6 36 0 [some (.inr (.inr 1)), some (.inl x1), some (.inl x2), some (.inl x3), some (.inl x4), some (.inl x5), none] [] (M0 L V b) = some (true, 8, [some (.inr (.inr 1)), some (.inl x1), some (.inl x2), some (.inl x3), some (.inl x4), some (.inl x5), none], [.inl x5, .inl x4, .inl x3, .inl x2, .inl x1, .inr (.inr 1)], M0 L V b) := by
  rfl

theorem B36_11 (L : Nat) (V : Mv) (b : Bool) (x1 : Int) (x2 : Int) (x3 : Int) (x4 : Int) (x5 : Int) (s0 : Int) (g0 : in32 s0) : nxs 3 36 11 [some (.inr (.inr 1)), some (.inl x1), some (.inl x2), some (.inl x3), some (.inl x4), some (.inl x5), none] [.inl s0] (M0 L V b) = some (true, cond (decide (s0 = 0)) 21 18, [some (.inr (.inr 1)), some (.inl x1), some (.inl x2), some (.inl x3), some (.inl x4), some (.inl x5), some (.inl s0)], [], M0 L V b) := by
  have f0 : r32 s0 = true := r32_of g0
  have hG : (r32 s0 && true) = true := an f0 rfl
  show some (r32 s0 && true, _) = _
  rw [hG]
  try rfl

theorem B36_18 (L : Nat) (V : Mv) (b : Bool) (x1 : Int) (x2 : Int) (x3 : Int) (x4 : Int) (x5 : Int) (x6 : Int)  : nxs 1 36 18 [some (.inr (.inr 1)), some (.inl x1), some (.inl x2), some (.inl x3), some (.inl x4), some (.inl x5), some (.inl x6)] [] (M0 L V b) = some (true, 20, [some (.inr (.inr 1)), some (.inl x1), some (.inl x2), some (.inl x3), some (.inl x4), some (.inl x5), some (.inl x6)], [.inl x6], M0 L V b) := by
  rfl

theorem B36_21 (L : Nat) (V : Mv) (b : Bool) (x1 : Int) (x2 : Int) (x3 : Int) (x4 : Int) (x5 : Int) (x6 : Int) (g0 : 0 ≤ x1 ∧ x1 < 3) : nxs 10 36 21 [some (.inr (.inr 1)), some (.inl x1), some (.inl x2), some (.inl x3), some (.inl x4), some (.inl x5), some (.inl x6)] [] (M0 L V b) = some (true, 37, [some (.inr (.inr 1)), some (.inl x1), some (.inl x2), some (.inl x3), some (.inl x4), some (.inl x5), some (.inl x6)], [.inl x5, .inl x4, .inl x3, .inl x2, .inr (.inr (14 + 15 * (x1).toNat)), .inr (.inr 108)], M0 L V b) := by
  have f0 : gA (M0 L V b) 11 3 15 x1 = true := gA_11 L _ b g0
  have hG : (gA (M0 L V b) 11 3 15 x1 && true) = true := an f0 rfl
  show some (gA (M0 L V b) 11 3 15 x1 && true, _) = _
  rw [hG]
  try rfl

theorem B36_40 (L : Nat) (V : Mv) (b : Bool) (x1 : Int) (x2 : Int) (x3 : Int) (x4 : Int) (x5 : Int) (x6 : Int)  : nxs 3 36 40 [some (.inr (.inr 1)), some (.inl x1), some (.inl x2), some (.inl x3), some (.inl x4), some (.inl x5), some (.inl x6)] [] (M0 L V b) = some (true, 47, [some (.inr (.inr 1)), some (.inl x1), some (.inl x2), some (.inl x3), some (.inl x4), some (.inl x5), some (.inl x6)], [.inl (V 108 1)], M0 L V b) := by
  rfl

-- 37: MendedOrNew.unseen(IIZ)J
theorem B37_0 (L : Nat) (V : Mv) (b : Bool) (x1 : Int) (x2 : Int) (x3 : Int)  : nxs 3 37 0 [some (.inr (.inr 1)), some (.inl x1), some (.inl x2), some (.inl x3), none] [] (M0 L V b) = some (true, 3, [some (.inr (.inr 1)), some (.inl x1), some (.inl x2), some (.inl x3), none], [.inl x2, .inl x1, .inr (.inr 1)], M0 L V b) := by
  rfl

theorem B37_6 (L : Nat) (V : Mv) (b : Bool) (x1 : Int) (x2 : Int) (x3 : Int) (s0 : Int) (g0 : in32 s0) : nxs 3 37 6 [some (.inr (.inr 1)), some (.inl x1), some (.inl x2), some (.inl x3), none] [.inl s0] (M0 L V b) = some (true, cond (decide (s0 = 0)) 17 13, [some (.inr (.inr 1)), some (.inl x1), some (.inl x2), some (.inl x3), some (.inl s0)], [], M0 L V b) := by
  have f0 : r32 s0 = true := r32_of g0
  have hG : (r32 s0 && true) = true := an f0 rfl
  show some (r32 s0 && true, _) = _
  rw [hG]
  try rfl

theorem B37_13 (L : Nat) (V : Mv) (b : Bool) (x1 : Int) (x2 : Int) (x3 : Int) (x4 : Int) (g0 : in32 x4) : nxs 2 37 13 [some (.inr (.inr 1)), some (.inl x1), some (.inl x2), some (.inl x3), some (.inl x4)] [] (M0 L V b) = some (true, 16, [some (.inr (.inr 1)), some (.inl x1), some (.inl x2), some (.inl x3), some (.inl x4)], [.inr (.inl x4)], M0 L V b) := by
  have f0 : r32 x4 = true := r32_of g0
  have hG : (r32 x4 && true) = true := an f0 rfl
  show some (r32 x4 && true, _) = _
  rw [hG]
  try rfl

theorem B37_17 (L : Nat) (V : Mv) (b : Bool) (x1 : Int) (x2 : Int) (x3 : Int) (x4 : Int) (g0 : 0 ≤ x1 ∧ x1 < 3) : nxs 11 37 17 [some (.inr (.inr 1)), some (.inl x1), some (.inl x2), some (.inl x3), some (.inl x4)] [] (M0 L V b) = some (true, 34, [some (.inr (.inr 1)), some (.inl x1), some (.inl x2), some (.inl x3), some (.inl x4)], [.inl x2, .inr (.inr (21 + 15 * (x1).toNat)), .inr (.inr (14 + 15 * (x1).toNat)), .inr (.inr 111)], M0 L V b) := by
  have f0 : gA (M0 L V b) 11 3 15 x1 = true := gA_11 L _ b g0
  have f1 : gA (M0 L V b) 12 9 15 x1 = true := gA_12 L _ b g0
  have hG : (gA (M0 L V b) 11 3 15 x1 && (gA (M0 L V b) 12 9 15 x1 && true)) = true := an f0 (an f1 rfl)
  show some (gA (M0 L V b) 11 3 15 x1 && (gA (M0 L V b) 12 9 15 x1 && true), _) = _
  rw [hG]
  try rfl

theorem B37_37 (L : Nat) (V : Mv) (b : Bool) (x1 : Int) (x2 : Int) (x3 : Int) (x4 : Int) (g0 : 0 ≤ x1 ∧ x1 < 3) : nxs 10 37 37 [some (.inr (.inr 1)), some (.inl x1), some (.inl x2), some (.inl x3), some (.inl x4)] [] (M0 L V b) = some (true, 55, [some (.inr (.inr 1)), some (.inl x1), some (.inl x2), some (.inl x3), some (.inl x4)], [.inl 0, .inr (.inr (21 + 15 * (x1).toNat)), .inr (.inl (V 111 0)), .inr (.inr 107)], M0 L V b) := by
  have f0 : gA (M0 L V b) 12 9 15 x1 = true := gA_12 L _ b g0
  have hG : (gA (M0 L V b) 12 9 15 x1 && true) = true := an f0 rfl
  show some (gA (M0 L V b) 12 9 15 x1 && true, _) = _
  rw [hG]
  try rfl

theorem B37_58 (L : Nat) (V : Mv) (b : Bool) (x1 : Int) (x2 : Int) (x3 : Int) (x4 : Int) (s0 : Nat) (s1 : Int) (s2 : Int)  : nxs 4 37 58 [some (.inr (.inr 1)), some (.inl x1), some (.inl x2), some (.inl x3), some (.inl x4)] [.inr (.inl s2), .inr (.inl s1), .inr (.inr s0)] (M0 L V b) = some (true, 64, [some (.inr (.inr 1)), some (.inl x1), some (.inl x2), some (.inl x3), some (.inl x4)], [.inl (x2 - 1), .inr (.inl 100), .inr (.inl s2), .inr (.inl s1), .inr (.inr s0)], M0 L V b) := by
  rfl

theorem B37_67 (L : Nat) (V : Mv) (b : Bool) (x1 : Int) (x2 : Int) (x3 : Int) (x4 : Int) (s0 : Nat) (s1 : Int) (s2 : Int) (s3 : Int)  : nxs 1 37 67 [some (.inr (.inr 1)), some (.inl x1), some (.inl x2), some (.inl x3), some (.inl x4)] [.inr (.inl s3), .inr (.inl s2), .inr (.inl s1), .inr (.inr s0)] (M0 L V b) = some (true, 68, [some (.inr (.inr 1)), some (.inl x1), some (.inl x2), some (.inl x3), some (.inl x4)], [.inr (.inl (s2 * s3)), .inr (.inl s1), .inr (.inr s0)], M0 L V b) := by
  rfl

theorem B37_71 (L : Nat) (V : Mv) (b : Bool) (x1 : Int) (x2 : Int) (x3 : Int) (x4 : Int)  : nxs 3 37 71 [some (.inr (.inr 1)), some (.inl x1), some (.inl x2), some (.inl x3), some (.inl x4)] [] (M0 L V b) = some (true, 76, [some (.inr (.inr 1)), some (.inl x1), some (.inl x2), some (.inl x3), some (.inl x4)], [.inl x3, .inr (.inr 107)], M0 L V b) := by
  rfl

-- 38: MendedOrNew.refusalOfUnseen(II)I
theorem B38_0 (L : Nat) (V : Mv) (b : Bool) (x1 : Int) (x2 : Int)  : nxs 1 38 0 [some (.inr (.inr 1)), some (.inl x1), some (.inl x2)] [] (M0 L V b) = some (true, 1, [some (.inr (.inr 1)), some (.inl x1), some (.inl x2)], [.inl x1], M0 L V b) := by
  rfl

theorem B38_4 (L : Nat) (V : Mv) (b : Bool) (x1 : Int) (x2 : Int) (s0 : Int) (g0 : in32 s0) : nxs 1 38 4 [some (.inr (.inr 1)), some (.inl x1), some (.inl x2)] [.inl s0] (M0 L V b) = some (true, cond (!decide (s0 = 0)) 9 7, [some (.inr (.inr 1)), some (.inl x1), some (.inl x2)], [], M0 L V b) := by
  have f0 : r32 s0 = true := r32_of g0
  have hG : (r32 s0 && true) = true := an f0 rfl
  show some (r32 s0 && true, _) = _
  rw [hG]
  try rfl

theorem B38_7 (L : Nat) (V : Mv) (b : Bool) (x1 : Int) (x2 : Int)  : nxs 1 38 7 [some (.inr (.inr 1)), some (.inl x1), some (.inl x2)] [] (M0 L V b) = some (true, 8, [some (.inr (.inr 1)), some (.inl x1), some (.inl x2)], [.inl (-1)], M0 L V b) := by
  rfl

theorem B38_9 (L : Nat) (V : Mv) (b : Bool) (x1 : Int) (x2 : Int) (g0 : in32 x2) : nxs 3 38 9 [some (.inr (.inr 1)), some (.inl x1), some (.inl x2)] [] (M0 L V b) = some (true, cond (decide (x2 < 1)) 19 14, [some (.inr (.inr 1)), some (.inl x1), some (.inl x2)], [], M0 L V b) := by
  have f0 : (r32 x2 && r32 1) = true := rr32_of g0 (by decide)
  have hG : ((r32 x2 && r32 1) && true) = true := an f0 rfl
  show some ((r32 x2 && r32 1) && true, _) = _
  rw [hG]
  try rfl

theorem B38_14 (L : Nat) (V : Mv) (b : Bool) (x1 : Int) (x2 : Int) (g0 : in32 x2) : nxs 3 38 14 [some (.inr (.inr 1)), some (.inl x1), some (.inl x2)] [] (M0 L V b) = some (true, cond (decide (x2 ≤ 3)) 22 19, [some (.inr (.inr 1)), some (.inl x1), some (.inl x2)], [], M0 L V b) := by
  have f0 : (r32 x2 && r32 3) = true := rr32_of g0 (by decide)
  have hG : ((r32 x2 && r32 3) && true) = true := an f0 rfl
  show some ((r32 x2 && r32 3) && true, _) = _
  rw [hG]
  try rfl

theorem B38_19 (L : Nat) (V : Mv) (b : Bool) (x1 : Int) (x2 : Int)  : nxs 1 38 19 [some (.inr (.inr 1)), some (.inl x1), some (.inl x2)] [] (M0 L V b) = some (true, 21, [some (.inr (.inr 1)), some (.inl x1), some (.inl x2)], [.inl (-2)], M0 L V b) := by
  rfl

theorem B38_22 (L : Nat) (V : Mv) (b : Bool) (x1 : Int) (x2 : Int) (g0 : 0 ≤ x1 ∧ x1 < 3) : nxs 5 38 22 [some (.inr (.inr 1)), some (.inl x1), some (.inl x2)] [] (M0 L V b) = some (true, 29, [some (.inr (.inr 1)), some (.inl x1), some (.inl x2)], [.inl 0, .inr (.inr (21 + 15 * (x1).toNat))], M0 L V b) := by
  have f0 : gA (M0 L V b) 12 9 15 x1 = true := gA_12 L _ b g0
  have hG : (gA (M0 L V b) 12 9 15 x1 && true) = true := an f0 rfl
  show some (gA (M0 L V b) 12 9 15 x1 && true, _) = _
  rw [hG]
  try rfl

theorem B38_32 (L : Nat) (V : Mv) (b : Bool) (x1 : Int) (x2 : Int) (s0 : Int) (g0 : in64 s0) (g1 : in32 (cmpI s0 1000000000)) : nxs 3 38 32 [some (.inr (.inr 1)), some (.inl x1), some (.inl x2)] [.inr (.inl s0)] (M0 L V b) = some (true, cond (decide (cmpI s0 1000000000 ≤ 0)) 44 39, [some (.inr (.inr 1)), some (.inl x1), some (.inl x2)], [], M0 L V b) := by
  have f0 : (r64 s0 && r64 1000000000) = true := rr64_of g0 (by decide)
  have f1 : r32 (cmpI s0 1000000000) = true := r32_of g1
  have hG : ((r64 s0 && r64 1000000000) && (r32 (cmpI s0 1000000000) && true)) = true := an f0 (an f1 rfl)
  show some ((r64 s0 && r64 1000000000) && (r32 (cmpI s0 1000000000) && true), _) = _
  rw [hG]
  try rfl

theorem B38_39 (L : Nat) (V : Mv) (b : Bool) (x1 : Int) (x2 : Int)  : nxs 2 38 39 [some (.inr (.inr 1)), some (.inl x1), some (.inl x2)] [] (M0 L V b) = some (true, 45, [some (.inr (.inr 1)), some (.inl x1), some (.inl x2)], [.inl (-3)], M0 L V b) := by
  rfl

theorem B38_44 (L : Nat) (V : Mv) (b : Bool) (x1 : Int) (x2 : Int)  : nxs 1 38 44 [some (.inr (.inr 1)), some (.inl x1), some (.inl x2)] [] (M0 L V b) = some (true, 45, [some (.inr (.inr 1)), some (.inl x1), some (.inl x2)], [.inl 0], M0 L V b) := by
  rfl

-- 39: MendedOrNew.unseenAct(II)I
theorem B39_0 (L : Nat) (V : Mv) (b : Bool) (x1 : Int) (x2 : Int)  : nxs 3 39 0 [some (.inr (.inr 1)), some (.inl x1), some (.inl x2), none] [] (M0 L V b) = some (true, 3, [some (.inr (.inr 1)), some (.inl x1), some (.inl x2), none], [.inl x2, .inl x1, .inr (.inr 1)], M0 L V b) := by
  rfl

theorem B39_6 (L : Nat) (V : Mv) (b : Bool) (x1 : Int) (x2 : Int) (s0 : Int) (g0 : in32 s0) : nxs 3 39 6 [some (.inr (.inr 1)), some (.inl x1), some (.inl x2), none] [.inl s0] (M0 L V b) = some (true, cond (decide (s0 = 0)) 13 11, [some (.inr (.inr 1)), some (.inl x1), some (.inl x2), some (.inl s0)], [], M0 L V b) := by
  have f0 : r32 s0 = true := r32_of g0
  have hG : (r32 s0 && true) = true := an f0 rfl
  show some (r32 s0 && true, _) = _
  rw [hG]
  try rfl

theorem B39_11 (L : Nat) (V : Mv) (b : Bool) (x1 : Int) (x2 : Int) (x3 : Int)  : nxs 1 39 11 [some (.inr (.inr 1)), some (.inl x1), some (.inl x2), some (.inl x3)] [] (M0 L V b) = some (true, 12, [some (.inr (.inr 1)), some (.inl x1), some (.inl x2), some (.inl x3)], [.inl x3], M0 L V b) := by
  rfl

theorem B39_13 (L : Nat) (V : Mv) (b : Bool) (x1 : Int) (x2 : Int) (x3 : Int) (g0 : 0 ≤ x1 ∧ x1 < 3) : nxs 11 39 13 [some (.inr (.inr 1)), some (.inl x1), some (.inl x2), some (.inl x3)] [] (M0 L V b) = some (true, 30, [some (.inr (.inr 1)), some (.inl x1), some (.inl x2), some (.inl x3)], [.inl x2, .inr (.inr (21 + 15 * (x1).toNat)), .inr (.inr (14 + 15 * (x1).toNat)), .inr (.inr 111)], M0 L V b) := by
  have f0 : gA (M0 L V b) 11 3 15 x1 = true := gA_11 L _ b g0
  have f1 : gA (M0 L V b) 12 9 15 x1 = true := gA_12 L _ b g0
  have hG : (gA (M0 L V b) 11 3 15 x1 && (gA (M0 L V b) 12 9 15 x1 && true)) = true := an f0 (an f1 rfl)
  show some (gA (M0 L V b) 11 3 15 x1 && (gA (M0 L V b) 12 9 15 x1 && true), _) = _
  rw [hG]
  try rfl

theorem B39_33 (L : Nat) (V : Mv) (b : Bool) (x1 : Int) (x2 : Int) (x3 : Int)  : nxs 3 39 33 [some (.inr (.inr 1)), some (.inl x1), some (.inl x2), some (.inl x3)] [] (M0 L V b) = some (true, 40, [some (.inr (.inr 1)), some (.inl x1), some (.inl x2), some (.inl x3)], [.inl (V 111 1)], M0 L V b) := by
  rfl

-- 40: MendedOrNew.two(IIIIIZ)J
theorem B40_0 (L : Nat) (V : Mv) (b : Bool) (x1 : Int) (x2 : Int) (x3 : Int) (x4 : Int) (x5 : Int) (x6 : Int)  : nxs 6 40 0 [some (.inr (.inr 1)), some (.inl x1), some (.inl x2), some (.inl x3), some (.inl x4), some (.inl x5), some (.inl x6), none] [] (M0 L V b) = some (true, 8, [some (.inr (.inr 1)), some (.inl x1), some (.inl x2), some (.inl x3), some (.inl x4), some (.inl x5), some (.inl x6), none], [.inl x5, .inl x4, .inl x3, .inl x2, .inl x1, .inr (.inr 1)], M0 L V b) := by
  rfl

theorem B40_11 (L : Nat) (V : Mv) (b : Bool) (x1 : Int) (x2 : Int) (x3 : Int) (x4 : Int) (x5 : Int) (x6 : Int) (s0 : Int) (g0 : in32 s0) : nxs 3 40 11 [some (.inr (.inr 1)), some (.inl x1), some (.inl x2), some (.inl x3), some (.inl x4), some (.inl x5), some (.inl x6), none] [.inl s0] (M0 L V b) = some (true, cond (decide (s0 = 0)) 22 18, [some (.inr (.inr 1)), some (.inl x1), some (.inl x2), some (.inl x3), some (.inl x4), some (.inl x5), some (.inl x6), some (.inl s0)], [], M0 L V b) := by
  have f0 : r32 s0 = true := r32_of g0
  have hG : (r32 s0 && true) = true := an f0 rfl
  show some (r32 s0 && true, _) = _
  rw [hG]
  try rfl

theorem B40_18 (L : Nat) (V : Mv) (b : Bool) (x1 : Int) (x2 : Int) (x3 : Int) (x4 : Int) (x5 : Int) (x6 : Int) (x7 : Int) (g0 : in32 x7) : nxs 2 40 18 [some (.inr (.inr 1)), some (.inl x1), some (.inl x2), some (.inl x3), some (.inl x4), some (.inl x5), some (.inl x6), some (.inl x7)] [] (M0 L V b) = some (true, 21, [some (.inr (.inr 1)), some (.inl x1), some (.inl x2), some (.inl x3), some (.inl x4), some (.inl x5), some (.inl x6), some (.inl x7)], [.inr (.inl x7)], M0 L V b) := by
  have f0 : r32 x7 = true := r32_of g0
  have hG : (r32 x7 && true) = true := an f0 rfl
  show some (r32 x7 && true, _) = _
  rw [hG]
  try rfl

theorem B40_22 (L : Nat) (V : Mv) (b : Bool) (x1 : Int) (x2 : Int) (x3 : Int) (x4 : Int) (x5 : Int) (x6 : Int) (x7 : Int) (g0 : 0 ≤ x1 ∧ x1 < 3) (g1 : 0 ≤ x3 ∧ x3 < 3) : nxs 11 40 22 [some (.inr (.inr 1)), some (.inl x1), some (.inl x2), some (.inl x3), some (.inl x4), some (.inl x5), some (.inl x6), some (.inl x7)] [] (M0 L V b) = some (true, 40, [some (.inr (.inr 1)), some (.inl x1), some (.inl x2), some (.inl x3), some (.inl x4), some (.inl x5), some (.inl x6), some (.inl x7)], [.inl x5, .inr (.inr (14 + 15 * (x3).toNat)), .inr (.inr (14 + 15 * (x1).toNat)), .inr (.inr 115)], M0 L V b) := by
  have f0 : gA (M0 L V b) 11 3 15 x1 = true := gA_11 L _ b g0
  have f1 : gA (M0 L V b) 11 3 15 x3 = true := gA_11 L _ b g1
  have hG : (gA (M0 L V b) 11 3 15 x1 && (gA (M0 L V b) 11 3 15 x3 && true)) = true := an f0 (an f1 rfl)
  show some (gA (M0 L V b) 11 3 15 x1 && (gA (M0 L V b) 11 3 15 x3 && true), _) = _
  rw [hG]
  try rfl

theorem B40_43 (L : Nat) (V : Mv) (b : Bool) (x1 : Int) (x2 : Int) (x3 : Int) (x4 : Int) (x5 : Int) (x6 : Int) (x7 : Int)  : nxs 6 40 43 [some (.inr (.inr 1)), some (.inl x1), some (.inl x2), some (.inl x3), some (.inl x4), some (.inl x5), some (.inl x6), some (.inl x7)] [] (M0 L V b) = some (true, 54, [some (.inr (.inr 1)), some (.inl x1), some (.inl x2), some (.inl x3), some (.inl x4), some (.inl x5), some (.inl x6), some (.inl x7)], [.inl x4, .inl x2, .inr (.inr 115), .inr (.inr 107)], M0 L V b) := by
  rfl

theorem B40_57 (L : Nat) (V : Mv) (b : Bool) (x1 : Int) (x2 : Int) (x3 : Int) (x4 : Int) (x5 : Int) (x6 : Int) (x7 : Int) (s0 : Nat) (s1 : Int)  : nxs 4 40 57 [some (.inr (.inr 1)), some (.inl x1), some (.inl x2), some (.inl x3), some (.inl x4), some (.inl x5), some (.inl x6), some (.inl x7)] [.inr (.inl s1), .inr (.inr s0)] (M0 L V b) = some (true, 64, [some (.inr (.inr 1)), some (.inl x1), some (.inl x2), some (.inl x3), some (.inl x4), some (.inl x5), some (.inl x6), some (.inl x7)], [.inl (x5 - 1), .inr (.inl 10), .inr (.inl s1), .inr (.inr s0)], M0 L V b) := by
  rfl

theorem B40_70 (L : Nat) (V : Mv) (b : Bool) (x1 : Int) (x2 : Int) (x3 : Int) (x4 : Int) (x5 : Int) (x6 : Int) (x7 : Int)  : nxs 3 40 70 [some (.inr (.inr 1)), some (.inl x1), some (.inl x2), some (.inl x3), some (.inl x4), some (.inl x5), some (.inl x6), some (.inl x7)] [] (M0 L V b) = some (true, 76, [some (.inr (.inr 1)), some (.inl x1), some (.inl x2), some (.inl x3), some (.inl x4), some (.inl x5), some (.inl x6), some (.inl x7)], [.inl x6, .inr (.inr 107)], M0 L V b) := by
  rfl

-- 41: MendedOrNew.refusalOfTwo(IIIII)I
theorem B41_0 (L : Nat) (V : Mv) (b : Bool) (x1 : Int) (x2 : Int) (x3 : Int) (x4 : Int) (x5 : Int)  : nxs 3 41 0 [some (.inr (.inr 1)), some (.inl x1), some (.inl x2), some (.inl x3), some (.inl x4), some (.inl x5)] [] (M0 L V b) = some (true, 3, [some (.inr (.inr 1)), some (.inl x1), some (.inl x2), some (.inl x3), some (.inl x4), some (.inl x5)], [.inl x2, .inl x1, .inr (.inr 1)], M0 L V b) := by
  rfl

theorem B41_6 (L : Nat) (V : Mv) (b : Bool) (x1 : Int) (x2 : Int) (x3 : Int) (x4 : Int) (x5 : Int) (s0 : Int) (g0 : in32 s0) : nxs 1 41 6 [some (.inr (.inr 1)), some (.inl x1), some (.inl x2), some (.inl x3), some (.inl x4), some (.inl x5)] [.inl s0] (M0 L V b) = some (true, cond (decide (s0 = 0)) 19 9, [some (.inr (.inr 1)), some (.inl x1), some (.inl x2), some (.inl x3), some (.inl x4), some (.inl x5)], [], M0 L V b) := by
  have f0 : r32 s0 = true := r32_of g0
  have hG : (r32 s0 && true) = true := an f0 rfl
  show some (r32 s0 && true, _) = _
  rw [hG]
  try rfl

theorem B41_9 (L : Nat) (V : Mv) (b : Bool) (x1 : Int) (x2 : Int) (x3 : Int) (x4 : Int) (x5 : Int)  : nxs 3 41 9 [some (.inr (.inr 1)), some (.inl x1), some (.inl x2), some (.inl x3), some (.inl x4), some (.inl x5)] [] (M0 L V b) = some (true, 13, [some (.inr (.inr 1)), some (.inl x1), some (.inl x2), some (.inl x3), some (.inl x4), some (.inl x5)], [.inl x4, .inl x3, .inr (.inr 1)], M0 L V b) := by
  rfl

theorem B41_16 (L : Nat) (V : Mv) (b : Bool) (x1 : Int) (x2 : Int) (x3 : Int) (x4 : Int) (x5 : Int) (s0 : Int) (g0 : in32 s0) : nxs 1 41 16 [some (.inr (.inr 1)), some (.inl x1), some (.inl x2), some (.inl x3), some (.inl x4), some (.inl x5)] [.inl s0] (M0 L V b) = some (true, cond (!decide (s0 = 0)) 21 19, [some (.inr (.inr 1)), some (.inl x1), some (.inl x2), some (.inl x3), some (.inl x4), some (.inl x5)], [], M0 L V b) := by
  have f0 : r32 s0 = true := r32_of g0
  have hG : (r32 s0 && true) = true := an f0 rfl
  show some (r32 s0 && true, _) = _
  rw [hG]
  try rfl

theorem B41_19 (L : Nat) (V : Mv) (b : Bool) (x1 : Int) (x2 : Int) (x3 : Int) (x4 : Int) (x5 : Int)  : nxs 1 41 19 [some (.inr (.inr 1)), some (.inl x1), some (.inl x2), some (.inl x3), some (.inl x4), some (.inl x5)] [] (M0 L V b) = some (true, 20, [some (.inr (.inr 1)), some (.inl x1), some (.inl x2), some (.inl x3), some (.inl x4), some (.inl x5)], [.inl (-1)], M0 L V b) := by
  rfl

theorem B41_21 (L : Nat) (V : Mv) (b : Bool) (x1 : Int) (x2 : Int) (x3 : Int) (x4 : Int) (x5 : Int) (g0 : in32 x5) : nxs 3 41 21 [some (.inr (.inr 1)), some (.inl x1), some (.inl x2), some (.inl x3), some (.inl x4), some (.inl x5)] [] (M0 L V b) = some (true, cond (decide (x5 < 1)) 34 27, [some (.inr (.inr 1)), some (.inl x1), some (.inl x2), some (.inl x3), some (.inl x4), some (.inl x5)], [], M0 L V b) := by
  have f0 : (r32 x5 && r32 1) = true := rr32_of g0 (by decide)
  have hG : ((r32 x5 && r32 1) && true) = true := an f0 rfl
  show some ((r32 x5 && r32 1) && true, _) = _
  rw [hG]
  try rfl

theorem B41_27 (L : Nat) (V : Mv) (b : Bool) (x1 : Int) (x2 : Int) (x3 : Int) (x4 : Int) (x5 : Int) (g0 : in32 x5) : nxs 3 41 27 [some (.inr (.inr 1)), some (.inl x1), some (.inl x2), some (.inl x3), some (.inl x4), some (.inl x5)] [] (M0 L V b) = some (true, cond (decide (x5 ≤ 6)) 39 34, [some (.inr (.inr 1)), some (.inl x1), some (.inl x2), some (.inl x3), some (.inl x4), some (.inl x5)], [], M0 L V b) := by
  have f0 : (r32 x5 && r32 6) = true := rr32_of g0 (by decide)
  have hG : ((r32 x5 && r32 6) && true) = true := an f0 rfl
  show some ((r32 x5 && r32 6) && true, _) = _
  rw [hG]
  try rfl

theorem B41_34 (L : Nat) (V : Mv) (b : Bool) (x1 : Int) (x2 : Int) (x3 : Int) (x4 : Int) (x5 : Int)  : nxs 2 41 34 [some (.inr (.inr 1)), some (.inl x1), some (.inl x2), some (.inl x3), some (.inl x4), some (.inl x5)] [] (M0 L V b) = some (true, 40, [some (.inr (.inr 1)), some (.inl x1), some (.inl x2), some (.inl x3), some (.inl x4), some (.inl x5)], [.inl (-2)], M0 L V b) := by
  rfl

theorem B41_39 (L : Nat) (V : Mv) (b : Bool) (x1 : Int) (x2 : Int) (x3 : Int) (x4 : Int) (x5 : Int)  : nxs 1 41 39 [some (.inr (.inr 1)), some (.inl x1), some (.inl x2), some (.inl x3), some (.inl x4), some (.inl x5)] [] (M0 L V b) = some (true, 40, [some (.inr (.inr 1)), some (.inl x1), some (.inl x2), some (.inl x3), some (.inl x4), some (.inl x5)], [.inl 0], M0 L V b) := by
  rfl

-- 42: MendedOrNew.whom(IIIII)I
theorem B42_0 (L : Nat) (V : Mv) (b : Bool) (x1 : Int) (x2 : Int) (x3 : Int) (x4 : Int) (x5 : Int)  : nxs 6 42 0 [some (.inr (.inr 1)), some (.inl x1), some (.inl x2), some (.inl x3), some (.inl x4), some (.inl x5), none] [] (M0 L V b) = some (true, 8, [some (.inr (.inr 1)), some (.inl x1), some (.inl x2), some (.inl x3), some (.inl x4), some (.inl x5), none], [.inl x5, .inl x4, .inl x3, .inl x2, .inl x1, .inr (.inr 1)], M0 L V b) := by
  rfl

theorem B42_11 (L : Nat) (V : Mv) (b : Bool) (x1 : Int) (x2 : Int) (x3 : Int) (x4 : Int) (x5 : Int) (s0 : Int) (g0 : in32 s0) : nxs 3 42 11 [some (.inr (.inr 1)), some (.inl x1), some (.inl x2), some (.inl x3), some (.inl x4), some (.inl x5), none] [.inl s0] (M0 L V b) = some (true, cond (decide (s0 = 0)) 21 18, [some (.inr (.inr 1)), some (.inl x1), some (.inl x2), some (.inl x3), some (.inl x4), some (.inl x5), some (.inl s0)], [], M0 L V b) := by
  have f0 : r32 s0 = true := r32_of g0
  have hG : (r32 s0 && true) = true := an f0 rfl
  show some (r32 s0 && true, _) = _
  rw [hG]
  try rfl

theorem B42_18 (L : Nat) (V : Mv) (b : Bool) (x1 : Int) (x2 : Int) (x3 : Int) (x4 : Int) (x5 : Int) (x6 : Int)  : nxs 1 42 18 [some (.inr (.inr 1)), some (.inl x1), some (.inl x2), some (.inl x3), some (.inl x4), some (.inl x5), some (.inl x6)] [] (M0 L V b) = some (true, 20, [some (.inr (.inr 1)), some (.inl x1), some (.inl x2), some (.inl x3), some (.inl x4), some (.inl x5), some (.inl x6)], [.inl x6], M0 L V b) := by
  rfl

theorem B42_21 (L : Nat) (V : Mv) (b : Bool) (x1 : Int) (x2 : Int) (x3 : Int) (x4 : Int) (x5 : Int) (x6 : Int) (g0 : 0 ≤ x1 ∧ x1 < 3) (g1 : 0 ≤ x3 ∧ x3 < 3) : nxs 11 42 21 [some (.inr (.inr 1)), some (.inl x1), some (.inl x2), some (.inl x3), some (.inl x4), some (.inl x5), some (.inl x6)] [] (M0 L V b) = some (true, 39, [some (.inr (.inr 1)), some (.inl x1), some (.inl x2), some (.inl x3), some (.inl x4), some (.inl x5), some (.inl x6)], [.inl x5, .inr (.inr (14 + 15 * (x3).toNat)), .inr (.inr (14 + 15 * (x1).toNat)), .inr (.inr 115)], M0 L V b) := by
  have f0 : gA (M0 L V b) 11 3 15 x1 = true := gA_11 L _ b g0
  have f1 : gA (M0 L V b) 11 3 15 x3 = true := gA_11 L _ b g1
  have hG : (gA (M0 L V b) 11 3 15 x1 && (gA (M0 L V b) 11 3 15 x3 && true)) = true := an f0 (an f1 rfl)
  show some (gA (M0 L V b) 11 3 15 x1 && (gA (M0 L V b) 11 3 15 x3 && true), _) = _
  rw [hG]
  try rfl

theorem B42_42 (L : Nat) (V : Mv) (b : Bool) (x1 : Int) (x2 : Int) (x3 : Int) (x4 : Int) (x5 : Int) (x6 : Int)  : nxs 4 42 42 [some (.inr (.inr 1)), some (.inl x1), some (.inl x2), some (.inl x3), some (.inl x4), some (.inl x5), some (.inl x6)] [] (M0 L V b) = some (true, 49, [some (.inr (.inr 1)), some (.inl x1), some (.inl x2), some (.inl x3), some (.inl x4), some (.inl x5), some (.inl x6)], [.inl x4, .inl x2, .inr (.inr 115)], M0 L V b) := by
  rfl

-- 43: MendedOrNew.log(I)I
theorem B43_0 (L : Nat) (V : Mv) (b : Bool) (x1 : Int) (g0 : in32 x1) : nxs 2 43 0 [some (.inr (.inr 1)), some (.inl x1)] [] (M0 L V b) = some (true, cond (decide (x1 < 0)) 10 4, [some (.inr (.inr 1)), some (.inl x1)], [], M0 L V b) := by
  have f0 : r32 x1 = true := r32_of g0
  have hG : (r32 x1 && true) = true := an f0 rfl
  show some (r32 x1 && true, _) = _
  rw [hG]
  try rfl

theorem B43_4 (L : Nat) (V : Mv) (b : Bool) (x1 : Int) (g0 : in32 x1) : nxs 3 43 4 [some (.inr (.inr 1)), some (.inl x1)] [] (M0 L V b) = some (true, cond (decide (x1 < 6)) 13 10, [some (.inr (.inr 1)), some (.inl x1)], [], M0 L V b) := by
  have f0 : (r32 x1 && r32 6) = true := rr32_of g0 (by decide)
  have hG : ((r32 x1 && r32 6) && true) = true := an f0 rfl
  show some ((r32 x1 && r32 6) && true, _) = _
  rw [hG]
  try rfl

theorem B43_10 (L : Nat) (V : Mv) (b : Bool) (x1 : Int)  : nxs 1 43 10 [some (.inr (.inr 1)), some (.inl x1)] [] (M0 L V b) = some (true, 12, [some (.inr (.inr 1)), some (.inl x1)], [.inl (-2)], M0 L V b) := by
  rfl

theorem B43_13 (L : Nat) (V : Mv) (b : Bool) (x1 : Int)  : nxs 3 43 13 [some (.inr (.inr 1)), some (.inl x1)] [] (M0 L V b) = some (true, 18, [some (.inr (.inr 1)), some (.inl x1)], [.inl x1, .inr (.inr 69)], M0 L V b) := by
  rfl

-- 44: MendedOrNew.unlog()I
theorem B44_0 (L : Nat) (V : Mv) (b : Bool)   : nxs 9 44 0 [some (.inr (.inr 1)), none] [] (M0 L V b) = some (true, 17, [some (.inr (.inr 1)), some (.inl (V 69 0))], [.inl (V 69 0)], M0 L (uV V 69 0 0) b) := by
  rfl

-- 45: MendedOrNew.read(I)I
theorem B45_0 (L : Nat) (V : Mv) (b : Bool) (x1 : Int)  : nxs 1 45 0 [some (.inr (.inr 1)), some (.inl x1), none, none] [] (M0 L V b) = some (true, 1, [some (.inr (.inr 1)), some (.inl x1), none, none], [.inl x1], M0 L V b) := by
  rfl

theorem B45_4 (L : Nat) (V : Mv) (b : Bool) (x1 : Int) (s0 : Int) (g0 : in32 s0) : nxs 1 45 4 [some (.inr (.inr 1)), some (.inl x1), none, none] [.inl s0] (M0 L V b) = some (true, cond (!decide (s0 = 0)) 9 7, [some (.inr (.inr 1)), some (.inl x1), none, none], [], M0 L V b) := by
  have f0 : r32 s0 = true := r32_of g0
  have hG : (r32 s0 && true) = true := an f0 rfl
  show some (r32 s0 && true, _) = _
  rw [hG]
  try rfl

theorem B45_7 (L : Nat) (V : Mv) (b : Bool) (x1 : Int)  : nxs 1 45 7 [some (.inr (.inr 1)), some (.inl x1), none, none] [] (M0 L V b) = some (true, 8, [some (.inr (.inr 1)), some (.inl x1), none, none], [.inl (-1)], M0 L V b) := by
  rfl

theorem B45_9 (L : Nat) (V : Mv) (b : Bool) (x1 : Int)  : nxs 3 45 9 [some (.inr (.inr 1)), some (.inl x1), none, none] [] (M0 L V b) = some (true, 14, [some (.inr (.inr 1)), some (.inl x1), none, none], [.inl 0, .inr (.inr 59)], M0 L V b) := by
  rfl

theorem B45_17 (L : Nat) (V : Mv) (b : Bool) (x1 : Int)  : nxs 2 45 17 [some (.inr (.inr 1)), some (.inl x1), none, none] [] (M0 L V b) = some (true, 19, [some (.inr (.inr 1)), some (.inl x1), some (.inl 0), none], [], M0 L V b) := by
  rfl

theorem B45_19 (L : Nat) (V : Mv) (b : Bool) (x1 : Int) (x2 : Int) (g0 : in32 x2) (g1 : in32 (V 69 0)) : nxs 5 45 19 [some (.inr (.inr 1)), some (.inl x1), some (.inl x2), none] [] (M0 L V b) = some (true, cond (decide (V 69 0 ≤ x2)) 65 30, [some (.inr (.inr 1)), some (.inl x1), some (.inl x2), none], [], M0 L V b) := by
  have f0 : (r32 x2 && r32 (V 69 0)) = true := rr32_of g0 g1
  have hG : ((r32 x2 && r32 (V 69 0)) && true) = true := an f0 rfl
  show some ((r32 x2 && r32 (V 69 0)) && true, _) = _
  rw [hG]
  try rfl

theorem B45_30 (L : Nat) (V : Mv) (b : Bool) (x1 : Int) (x2 : Int) (g0 : 0 ≤ x1 ∧ x1 < 3) (g1 : 0 ≤ x2 ∧ x2 < 16) : nxs 11 45 30 [some (.inr (.inr 1)), some (.inl x1), some (.inl x2), none] [] (M0 L V b) = some (true, 49, [some (.inr (.inr 1)), some (.inl x1), some (.inl x2), none], [.inl (V 70 (x2).toNat), .inr (.inr (14 + 15 * (x1).toNat)), .inr (.inr 59)], M0 L V b) := by
  have f0 : gA (M0 L V b) 11 3 15 x1 = true := gA_11 L _ b g0
  have f1 : gX (M0 L V b) 70 1 x2 = true := gx_of rfl g1
  have hG : (gA (M0 L V b) 11 3 15 x1 && (gX (M0 L V b) 70 1 x2 && true)) = true := an f0 (an f1 rfl)
  show some (gA (M0 L V b) 11 3 15 x1 && (gX (M0 L V b) 70 1 x2 && true), _) = _
  rw [hG]
  try rfl

theorem B45_52 (L : Nat) (V : Mv) (b : Bool) (x1 : Int) (x2 : Int) (s0 : Int) (g0 : in32 s0) : nxs 3 45 52 [some (.inr (.inr 1)), some (.inl x1), some (.inl x2), none] [.inl s0] (M0 L V b) = some (true, cond (decide (0 ≤ s0)) 59 57, [some (.inr (.inr 1)), some (.inl x1), some (.inl x2), some (.inl s0)], [], M0 L V b) := by
  have f0 : r32 s0 = true := r32_of g0
  have hG : (r32 s0 && true) = true := an f0 rfl
  show some (r32 s0 && true, _) = _
  rw [hG]
  try rfl

theorem B45_57 (L : Nat) (V : Mv) (b : Bool) (x1 : Int) (x2 : Int) (x3 : Int)  : nxs 1 45 57 [some (.inr (.inr 1)), some (.inl x1), some (.inl x2), some (.inl x3)] [] (M0 L V b) = some (true, 58, [some (.inr (.inr 1)), some (.inl x1), some (.inl x2), some (.inl x3)], [.inl x3], M0 L V b) := by
  rfl

theorem B45_59 (L : Nat) (V : Mv) (b : Bool) (x1 : Int) (x2 : Int) (x3 : Int)  : nxs 2 45 59 [some (.inr (.inr 1)), some (.inl x1), some (.inl x2), some (.inl x3)] [] (M0 L V b) = some (true, 19, [some (.inr (.inr 1)), some (.inl x1), some (.inl (x2 + 1)), some (.inl x3)], [], M0 L V b) := by
  rfl

theorem B45_65 (L : Nat) (V : Mv) (b : Bool) (x1 : Int) (x2 : Int) (g0 : 0 ≤ x1 ∧ x1 < 3) : nxs 6 45 65 [some (.inr (.inr 1)), some (.inl x1), some (.inl x2), none] [] (M0 L V b) = some (true, 75, [some (.inr (.inr 1)), some (.inl x1), some (.inl x2), none], [.inr (.inr 59), .inr (.inr (21 + 15 * (x1).toNat))], M0 L V b) := by
  have f0 : gA (M0 L V b) 12 9 15 x1 = true := gA_12 L _ b g0
  have hG : (gA (M0 L V b) 12 9 15 x1 && true) = true := an f0 rfl
  show some (gA (M0 L V b) 12 9 15 x1 && true, _) = _
  rw [hG]
  try rfl

theorem B45_78 (L : Nat) (V : Mv) (b : Bool) (x1 : Int) (x2 : Int)  : nxs 3 45 78 [some (.inr (.inr 1)), some (.inl x1), some (.inl x2), none] [] (M0 L V b) = some (true, 85, [some (.inr (.inr 1)), some (.inl x1), some (.inl x2), none], [.inl (V 69 0)], M0 L V b) := by
  rfl

-- 46: MendedOrNew.late(III)I
theorem B46_0 (L : Nat) (V : Mv) (b : Bool) (x1 : Int) (x2 : Int) (x3 : Int)  : nxs 1 46 0 [some (.inr (.inr 1)), some (.inl x1), some (.inl x2), some (.inl x3), none, none] [] (M0 L V b) = some (true, 1, [some (.inr (.inr 1)), some (.inl x1), some (.inl x2), some (.inl x3), none, none], [.inl x1], M0 L V b) := by
  rfl

theorem B46_4 (L : Nat) (V : Mv) (b : Bool) (x1 : Int) (x2 : Int) (x3 : Int) (s0 : Int) (g0 : in32 s0) : nxs 1 46 4 [some (.inr (.inr 1)), some (.inl x1), some (.inl x2), some (.inl x3), none, none] [.inl s0] (M0 L V b) = some (true, cond (!decide (s0 = 0)) 9 7, [some (.inr (.inr 1)), some (.inl x1), some (.inl x2), some (.inl x3), none, none], [], M0 L V b) := by
  have f0 : r32 s0 = true := r32_of g0
  have hG : (r32 s0 && true) = true := an f0 rfl
  show some (r32 s0 && true, _) = _
  rw [hG]
  try rfl

theorem B46_7 (L : Nat) (V : Mv) (b : Bool) (x1 : Int) (x2 : Int) (x3 : Int)  : nxs 1 46 7 [some (.inr (.inr 1)), some (.inl x1), some (.inl x2), some (.inl x3), none, none] [] (M0 L V b) = some (true, 8, [some (.inr (.inr 1)), some (.inl x1), some (.inl x2), some (.inl x3), none, none], [.inl (-1)], M0 L V b) := by
  rfl

theorem B46_9 (L : Nat) (V : Mv) (b : Bool) (x1 : Int) (x2 : Int) (x3 : Int) (g0 : in32 x2) : nxs 2 46 9 [some (.inr (.inr 1)), some (.inl x1), some (.inl x2), some (.inl x3), none, none] [] (M0 L V b) = some (true, cond (decide (x2 < 0)) 30 13, [some (.inr (.inr 1)), some (.inl x1), some (.inl x2), some (.inl x3), none, none], [], M0 L V b) := by
  have f0 : r32 x2 = true := r32_of g0
  have hG : (r32 x2 && true) = true := an f0 rfl
  show some (r32 x2 && true, _) = _
  rw [hG]
  try rfl

theorem B46_13 (L : Nat) (V : Mv) (b : Bool) (x1 : Int) (x2 : Int) (x3 : Int) (g0 : in32 x2) : nxs 3 46 13 [some (.inr (.inr 1)), some (.inl x1), some (.inl x2), some (.inl x3), none, none] [] (M0 L V b) = some (true, cond (decide (8 ≤ x2)) 30 19, [some (.inr (.inr 1)), some (.inl x1), some (.inl x2), some (.inl x3), none, none], [], M0 L V b) := by
  have f0 : (r32 x2 && r32 8) = true := rr32_of g0 (by decide)
  have hG : ((r32 x2 && r32 8) && true) = true := an f0 rfl
  show some ((r32 x2 && r32 8) && true, _) = _
  rw [hG]
  try rfl

theorem B46_19 (L : Nat) (V : Mv) (b : Bool) (x1 : Int) (x2 : Int) (x3 : Int) (g0 : in32 x3) : nxs 3 46 19 [some (.inr (.inr 1)), some (.inl x1), some (.inl x2), some (.inl x3), none, none] [] (M0 L V b) = some (true, cond (decide (x3 < 1)) 30 24, [some (.inr (.inr 1)), some (.inl x1), some (.inl x2), some (.inl x3), none, none], [], M0 L V b) := by
  have f0 : (r32 x3 && r32 1) = true := rr32_of g0 (by decide)
  have hG : ((r32 x3 && r32 1) && true) = true := an f0 rfl
  show some ((r32 x3 && r32 1) && true, _) = _
  rw [hG]
  try rfl

theorem B46_24 (L : Nat) (V : Mv) (b : Bool) (x1 : Int) (x2 : Int) (x3 : Int) (g0 : in32 x3) : nxs 3 46 24 [some (.inr (.inr 1)), some (.inl x1), some (.inl x2), some (.inl x3), none, none] [] (M0 L V b) = some (true, cond (decide (x3 ≤ 100)) 33 30, [some (.inr (.inr 1)), some (.inl x1), some (.inl x2), some (.inl x3), none, none], [], M0 L V b) := by
  have f0 : (r32 x3 && r32 100) = true := rr32_of g0 (by decide)
  have hG : ((r32 x3 && r32 100) && true) = true := an f0 rfl
  show some ((r32 x3 && r32 100) && true, _) = _
  rw [hG]
  try rfl

theorem B46_30 (L : Nat) (V : Mv) (b : Bool) (x1 : Int) (x2 : Int) (x3 : Int)  : nxs 1 46 30 [some (.inr (.inr 1)), some (.inl x1), some (.inl x2), some (.inl x3), none, none] [] (M0 L V b) = some (true, 32, [some (.inr (.inr 1)), some (.inl x1), some (.inl x2), some (.inl x3), none, none], [.inl (-2)], M0 L V b) := by
  rfl

theorem B46_33 (L : Nat) (V : Mv) (b : Bool) (x1 : Int) (x2 : Int) (x3 : Int)  : nxs 3 46 33 [some (.inr (.inr 1)), some (.inl x1), some (.inl x2), some (.inl x3), none, none] [] (M0 L V b) = some (true, 38, [some (.inr (.inr 1)), some (.inl x1), some (.inl x2), some (.inl x3), none, none], [.inl 0, .inr (.inr 59)], M0 L V b) := by
  rfl

theorem B46_41 (L : Nat) (V : Mv) (b : Bool) (x1 : Int) (x2 : Int) (x3 : Int)  : nxs 2 46 41 [some (.inr (.inr 1)), some (.inl x1), some (.inl x2), some (.inl x3), none, none] [] (M0 L V b) = some (true, 44, [some (.inr (.inr 1)), some (.inl x1), some (.inl x2), some (.inl x3), some (.inl 0), none], [], M0 L V b) := by
  rfl

theorem B46_44 (L : Nat) (V : Mv) (b : Bool) (x1 : Int) (x2 : Int) (x3 : Int) (x4 : Int) (g0 : in32 x4) (g1 : in32 (V 69 0)) : nxs 5 46 44 [some (.inr (.inr 1)), some (.inl x1), some (.inl x2), some (.inl x3), some (.inl x4), none] [] (M0 L V b) = some (true, cond (decide (V 69 0 ≤ x4)) 125 56, [some (.inr (.inr 1)), some (.inl x1), some (.inl x2), some (.inl x3), some (.inl x4), none], [], M0 L V b) := by
  have f0 : (r32 x4 && r32 (V 69 0)) = true := rr32_of g0 g1
  have hG : ((r32 x4 && r32 (V 69 0)) && true) = true := an f0 rfl
  show some ((r32 x4 && r32 (V 69 0)) && true, _) = _
  rw [hG]
  try rfl

theorem B46_56 (L : Nat) (V : Mv) (b : Bool) (x1 : Int) (x2 : Int) (x3 : Int) (x4 : Int) (g0 : 0 ≤ x1 ∧ x1 < 3) (g1 : 0 ≤ x4 ∧ x4 < 16) : nxs 11 46 56 [some (.inr (.inr 1)), some (.inl x1), some (.inl x2), some (.inl x3), some (.inl x4), none] [] (M0 L V b) = some (true, 76, [some (.inr (.inr 1)), some (.inl x1), some (.inl x2), some (.inl x3), some (.inl x4), none], [.inl (V 70 (x4).toNat), .inr (.inr (14 + 15 * (x1).toNat)), .inr (.inr 59)], M0 L V b) := by
  have f0 : gA (M0 L V b) 11 3 15 x1 = true := gA_11 L _ b g0
  have f1 : gX (M0 L V b) 70 1 x4 = true := gx_of rfl g1
  have hG : (gA (M0 L V b) 11 3 15 x1 && (gX (M0 L V b) 70 1 x4 && true)) = true := an f0 (an f1 rfl)
  show some (gA (M0 L V b) 11 3 15 x1 && (gX (M0 L V b) 70 1 x4 && true), _) = _
  rw [hG]
  try rfl

theorem B46_79 (L : Nat) (V : Mv) (b : Bool) (x1 : Int) (x2 : Int) (x3 : Int) (x4 : Int) (s0 : Int) (g0 : in32 s0) : nxs 3 46 79 [some (.inr (.inr 1)), some (.inl x1), some (.inl x2), some (.inl x3), some (.inl x4), none] [.inl s0] (M0 L V b) = some (true, cond (decide (0 ≤ s0)) 89 86, [some (.inr (.inr 1)), some (.inl x1), some (.inl x2), some (.inl x3), some (.inl x4), some (.inl s0)], [], M0 L V b) := by
  have f0 : r32 s0 = true := r32_of g0
  have hG : (r32 s0 && true) = true := an f0 rfl
  show some (r32 s0 && true, _) = _
  rw [hG]
  try rfl

theorem B46_86 (L : Nat) (V : Mv) (b : Bool) (x1 : Int) (x2 : Int) (x3 : Int) (x4 : Int) (x5 : Int)  : nxs 1 46 86 [some (.inr (.inr 1)), some (.inl x1), some (.inl x2), some (.inl x3), some (.inl x4), some (.inl x5)] [] (M0 L V b) = some (true, 88, [some (.inr (.inr 1)), some (.inl x1), some (.inl x2), some (.inl x3), some (.inl x4), some (.inl x5)], [.inl x5], M0 L V b) := by
  rfl

theorem B46_89 (L : Nat) (V : Mv) (b : Bool) (x1 : Int) (x2 : Int) (x3 : Int) (x4 : Int) (x5 : Int)  : nxs 4 46 89 [some (.inr (.inr 1)), some (.inl x1), some (.inl x2), some (.inl x3), some (.inl x4), some (.inl x5)] [] (M0 L V b) = some (true, 97, [some (.inr (.inr 1)), some (.inl x1), some (.inl x2), some (.inl x3), some (.inl x4), some (.inl x5)], [.inl x2, .inr (.inr 59), .inr (.inl 100)], M0 L V b) := by
  rfl

theorem B46_100 (L : Nat) (V : Mv) (b : Bool) (x1 : Int) (x2 : Int) (x3 : Int) (x4 : Int) (x5 : Int) (s0 : Int) (s1 : Int) (g0 : in32 x3) : nxs 6 46 100 [some (.inr (.inr 1)), some (.inl x1), some (.inl x2), some (.inl x3), some (.inl x4), some (.inl x5)] [.inr (.inl s1), .inr (.inl s0)] (M0 L V b) = some (true, 108, [some (.inr (.inr 1)), some (.inl x1), some (.inl x2), some (.inl x3), some (.inl x4), some (.inl x5)], [.inl 0, .inr (.inr 59), .inr (.inl x3), .inr (.inl (s0 * s1))], M0 L V b) := by
  have f0 : r32 x3 = true := r32_of g0
  have hG : (r32 x3 && true) = true := an f0 rfl
  show some (r32 x3 && true, _) = _
  rw [hG]
  try rfl

theorem B46_111 (L : Nat) (V : Mv) (b : Bool) (x1 : Int) (x2 : Int) (x3 : Int) (x4 : Int) (x5 : Int) (s0 : Int) (s1 : Int) (s2 : Int) (g0 : in64 s0) (g1 : in64 (s1 * s2)) (g2 : in32 (cmpI s0 (s1 * s2))) : nxs 3 46 111 [some (.inr (.inr 1)), some (.inl x1), some (.inl x2), some (.inl x3), some (.inl x4), some (.inl x5)] [.inr (.inl s2), .inr (.inl s1), .inr (.inl s0)] (M0 L V b) = some (true, cond (decide (cmpI s0 (s1 * s2) < 0)) 119 116, [some (.inr (.inr 1)), some (.inl x1), some (.inl x2), some (.inl x3), some (.inl x4), some (.inl x5)], [], M0 L V b) := by
  have f0 : (r64 s0 && r64 (s1 * s2)) = true := rr64_of g0 g1
  have f1 : r32 (cmpI s0 (s1 * s2)) = true := r32_of g2
  have hG : ((r64 s0 && r64 (s1 * s2)) && (r32 (cmpI s0 (s1 * s2)) && true)) = true := an f0 (an f1 rfl)
  show some ((r64 s0 && r64 (s1 * s2)) && (r32 (cmpI s0 (s1 * s2)) && true), _) = _
  rw [hG]
  try rfl

theorem B46_116 (L : Nat) (V : Mv) (b : Bool) (x1 : Int) (x2 : Int) (x3 : Int) (x4 : Int) (x5 : Int)  : nxs 1 46 116 [some (.inr (.inr 1)), some (.inl x1), some (.inl x2), some (.inl x3), some (.inl x4), some (.inl x5)] [] (M0 L V b) = some (true, 118, [some (.inr (.inr 1)), some (.inl x1), some (.inl x2), some (.inl x3), some (.inl x4), some (.inl x5)], [.inl x4], M0 L V b) := by
  rfl

theorem B46_119 (L : Nat) (V : Mv) (b : Bool) (x1 : Int) (x2 : Int) (x3 : Int) (x4 : Int) (x5 : Int)  : nxs 2 46 119 [some (.inr (.inr 1)), some (.inl x1), some (.inl x2), some (.inl x3), some (.inl x4), some (.inl x5)] [] (M0 L V b) = some (true, 44, [some (.inr (.inr 1)), some (.inl x1), some (.inl x2), some (.inl x3), some (.inl (x4 + 1)), some (.inl x5)], [], M0 L V b) := by
  rfl

theorem B46_125 (L : Nat) (V : Mv) (b : Bool) (x1 : Int) (x2 : Int) (x3 : Int) (x4 : Int)  : nxs 1 46 125 [some (.inr (.inr 1)), some (.inl x1), some (.inl x2), some (.inl x3), some (.inl x4), none] [] (M0 L V b) = some (true, 127, [some (.inr (.inr 1)), some (.inl x1), some (.inl x2), some (.inl x3), some (.inl x4), none], [.inl (-9)], M0 L V b) := by
  rfl

-- 47: MendedOrNew.keep(I)I
theorem B47_0 (L : Nat) (V : Mv) (b : Bool) (x1 : Int)  : nxs 1 47 0 [some (.inr (.inr 1)), some (.inl x1)] [] (M0 L V b) = some (true, 1, [some (.inr (.inr 1)), some (.inl x1)], [.inl x1], M0 L V b) := by
  rfl

theorem B47_4 (L : Nat) (V : Mv) (b : Bool) (x1 : Int) (s0 : Int) (g0 : in32 s0) : nxs 1 47 4 [some (.inr (.inr 1)), some (.inl x1)] [.inl s0] (M0 L V b) = some (true, cond (!decide (s0 = 0)) 9 7, [some (.inr (.inr 1)), some (.inl x1)], [], M0 L V b) := by
  have f0 : r32 s0 = true := r32_of g0
  have hG : (r32 s0 && true) = true := an f0 rfl
  show some (r32 s0 && true, _) = _
  rw [hG]
  try rfl

theorem B47_7 (L : Nat) (V : Mv) (b : Bool) (x1 : Int)  : nxs 1 47 7 [some (.inr (.inr 1)), some (.inl x1)] [] (M0 L V b) = some (true, 8, [some (.inr (.inr 1)), some (.inl x1)], [.inl (-1)], M0 L V b) := by
  rfl

theorem B47_9 (L : Nat) (V : Mv) (b : Bool) (x1 : Int) (g0 : 0 ≤ x1 ∧ x1 < 2) : nxs 10 47 9 [some (.inr (.inr 1)), some (.inl x1)] [] (M0 L V b) = some (true, 27, [some (.inr (.inr 1)), some (.inl x1)], [.inr (.inr 69), .inr (.inr 62), .inr (.inr 12), .inr (.inr (72 + 14 * (x1).toNat))], M0 L V b) := by
  have f0 : gA (M0 L V b) 71 1 14 x1 = true := gA_71 L _ b g0
  have hG : (gA (M0 L V b) 71 1 14 x1 && true) = true := an f0 rfl
  show some (gA (M0 L V b) 71 1 14 x1 && true, _) = _
  rw [hG]
  try rfl

-- 48: MendedOrNew.isSlot(I)Z
theorem B48_0 (L : Nat) (V : Mv) (b : Bool) (x0 : Int) (g0 : in32 x0) : nxs 2 48 0 [some (.inl x0)] [] (M0 L V b) = some (true, cond (decide (x0 < 0)) 13 4, [some (.inl x0)], [], M0 L V b) := by
  have f0 : r32 x0 = true := r32_of g0
  have hG : (r32 x0 && true) = true := an f0 rfl
  show some (r32 x0 && true, _) = _
  rw [hG]
  try rfl

theorem B48_4 (L : Nat) (V : Mv) (b : Bool) (x0 : Int) (g0 : in32 x0) : nxs 3 48 4 [some (.inl x0)] [] (M0 L V b) = some (true, cond (decide (2 ≤ x0)) 13 9, [some (.inl x0)], [], M0 L V b) := by
  have f0 : (r32 x0 && r32 2) = true := rr32_of g0 (by decide)
  have hG : ((r32 x0 && r32 2) && true) = true := an f0 rfl
  show some ((r32 x0 && r32 2) && true, _) = _
  rw [hG]
  try rfl

theorem B48_9 (L : Nat) (V : Mv) (b : Bool) (x0 : Int)  : nxs 2 48 9 [some (.inl x0)] [] (M0 L V b) = some (true, 14, [some (.inl x0)], [.inl 1], M0 L V b) := by
  rfl

theorem B48_13 (L : Nat) (V : Mv) (b : Bool) (x0 : Int)  : nxs 1 48 13 [some (.inl x0)] [] (M0 L V b) = some (true, 14, [some (.inl x0)], [.inl 0], M0 L V b) := by
  rfl

-- 49: MendedOrNew.again(I)I
theorem B49_0 (L : Nat) (V : Mv) (b : Bool) (x1 : Int)  : nxs 1 49 0 [some (.inr (.inr 1)), some (.inl x1)] [] (M0 L V b) = some (true, 1, [some (.inr (.inr 1)), some (.inl x1)], [.inl x1], M0 L V b) := by
  rfl

theorem B49_4 (L : Nat) (V : Mv) (b : Bool) (x1 : Int) (s0 : Int) (g0 : in32 s0) : nxs 1 49 4 [some (.inr (.inr 1)), some (.inl x1)] [.inl s0] (M0 L V b) = some (true, cond (!decide (s0 = 0)) 9 7, [some (.inr (.inr 1)), some (.inl x1)], [], M0 L V b) := by
  have f0 : r32 s0 = true := r32_of g0
  have hG : (r32 s0 && true) = true := an f0 rfl
  show some (r32 s0 && true, _) = _
  rw [hG]
  try rfl

theorem B49_7 (L : Nat) (V : Mv) (b : Bool) (x1 : Int)  : nxs 1 49 7 [some (.inr (.inr 1)), some (.inl x1)] [] (M0 L V b) = some (true, 8, [some (.inr (.inr 1)), some (.inl x1)], [.inl (-1)], M0 L V b) := by
  rfl

theorem B49_9 (L : Nat) (V : Mv) (b : Bool) (x1 : Int) (g0 : 0 ≤ x1 ∧ x1 < 2) (g1 : in32 (V (72 + 14 * (x1).toNat) 0)) : nxs 6 49 9 [some (.inr (.inr 1)), some (.inl x1)] [] (M0 L V b) = some (true, cond (!decide (V (72 + 14 * (x1).toNat) 0 = 0)) 24 21, [some (.inr (.inr 1)), some (.inl x1)], [], M0 L V b) := by
  have f0 : gA (M0 L V b) 71 1 14 x1 = true := gA_71 L _ b g0
  have f1 : decide ((TT L (72 + 14 * (x1).toNat)).1 = 64 + 5) = true := cls_of (isS_T (k_71 g0))
  have f2 : r32 (V (72 + 14 * (x1).toNat) 0) = true := r32_of g1
  have hG : (gA (M0 L V b) 71 1 14 x1 && (decide ((TT L (72 + 14 * (x1).toNat)).1 = 64 + 5) && (r32 (V (72 + 14 * (x1).toNat) 0) && true))) = true := an f0 (an f1 (an f2 rfl))
  show some (gA (M0 L V b) 71 1 14 x1 && (decide ((TT L (72 + 14 * (x1).toNat)).1 = 64 + 5) && (r32 (V (72 + 14 * (x1).toNat) 0) && true)), _) = _
  rw [hG]
  try rfl

theorem B49_21 (L : Nat) (V : Mv) (b : Bool) (x1 : Int)  : nxs 1 49 21 [some (.inr (.inr 1)), some (.inl x1)] [] (M0 L V b) = some (true, 23, [some (.inr (.inr 1)), some (.inl x1)], [.inl (-3)], M0 L V b) := by
  rfl

theorem B49_24 (L : Nat) (V : Mv) (b : Bool) (x1 : Int) (g0 : 0 ≤ x1 ∧ x1 < 2) : nxs 10 49 24 [some (.inr (.inr 1)), some (.inl x1)] [] (M0 L V b) = some (true, 42, [some (.inr (.inr 1)), some (.inl x1)], [.inr (.inr 69), .inr (.inr 62), .inr (.inr 12), .inr (.inr (72 + 14 * (x1).toNat))], M0 L V b) := by
  have f0 : gA (M0 L V b) 71 1 14 x1 = true := gA_71 L _ b g0
  have hG : (gA (M0 L V b) 71 1 14 x1 && true) = true := an f0 rfl
  show some (gA (M0 L V b) 71 1 14 x1 && true, _) = _
  rw [hG]
  try rfl

-- 50: MendedOrNew.count(I)I
theorem B50_28 (L : Nat) (V : Mv) (b : Bool) (x1 : Int)  : nxs 3 50 28 [some (.inr (.inr 1)), some (.inl x1)] [] (M0 L V b) = some (true, 35, [some (.inr (.inr 1)), some (.inl x1)], [.inl (V 2 0)], M0 L V b) := by
  rfl

theorem B50_36 (L : Nat) (V : Mv) (b : Bool) (x1 : Int)  : nxs 3 50 36 [some (.inr (.inr 1)), some (.inl x1)] [] (M0 L V b) = some (true, 43, [some (.inr (.inr 1)), some (.inl x1)], [.inl (V 69 0)], M0 L V b) := by
  rfl

theorem B50_44 (L : Nat) (V : Mv) (b : Bool) (x1 : Int)  : nxs 1 50 44 [some (.inr (.inr 1)), some (.inl x1)] [] (M0 L V b) = some (true, 45, [some (.inr (.inr 1)), some (.inl x1)], [.inr (.inr 1)], M0 L V b) := by
  rfl

theorem B50_49 (L : Nat) (V : Mv) (b : Bool) (x1 : Int)  : nxs 1 50 49 [some (.inr (.inr 1)), some (.inl x1)] [] (M0 L V b) = some (true, 51, [some (.inr (.inr 1)), some (.inl x1)], [.inl (-2)], M0 L V b) := by
  rfl

-- 51: MendedOrNew.allMendings()I
theorem B51_0 (L : Nat) (V : Mv) (b : Bool)   : nxs 4 51 0 [some (.inr (.inr 1)), none, none] [] (M0 L V b) = some (true, 4, [some (.inr (.inr 1)), some (.inl 0), some (.inl 0)], [], M0 L V b) := by
  rfl

theorem B51_4 (L : Nat) (V : Mv) (b : Bool) (x1 : Int) (x2 : Int) (g0 : in32 x2) : nxs 3 51 4 [some (.inr (.inr 1)), some (.inl x1), some (.inl x2)] [] (M0 L V b) = some (true, cond (decide (3 ≤ x2)) 30 9, [some (.inr (.inr 1)), some (.inl x1), some (.inl x2)], [], M0 L V b) := by
  have f0 : (r32 x2 && r32 3) = true := rr32_of g0 (by decide)
  have hG : ((r32 x2 && r32 3) && true) = true := an f0 rfl
  show some ((r32 x2 && r32 3) && true, _) = _
  rw [hG]
  try rfl

theorem B51_9 (L : Nat) (V : Mv) (b : Bool) (x1 : Int) (x2 : Int) (g0 : 0 ≤ x2 ∧ x2 < 3) : nxs 5 51 9 [some (.inr (.inr 1)), some (.inl x1), some (.inl x2)] [] (M0 L V b) = some (true, 16, [some (.inr (.inr 1)), some (.inl x1), some (.inl x2)], [.inr (.inr (14 + 15 * (x2).toNat)), .inl x1], M0 L V b) := by
  have f0 : gA (M0 L V b) 11 3 15 x2 = true := gA_11 L _ b g0
  have hG : (gA (M0 L V b) 11 3 15 x2 && true) = true := an f0 rfl
  show some (gA (M0 L V b) 11 3 15 x2 && true, _) = _
  rw [hG]
  try rfl

theorem B51_22 (L : Nat) (V : Mv) (b : Bool) (x1 : Int) (x2 : Int) (s0 : Int) (s1 : Int)  : nxs 4 51 22 [some (.inr (.inr 1)), some (.inl x1), some (.inl x2)] [.inl s1, .inl s0] (M0 L V b) = some (true, 4, [some (.inr (.inr 1)), some (.inl (s0 + s1)), some (.inl (x2 + 1))], [], M0 L V b) := by
  rfl

theorem B51_30 (L : Nat) (V : Mv) (b : Bool) (x1 : Int) (x2 : Int)  : nxs 1 51 30 [some (.inr (.inr 1)), some (.inl x1), some (.inl x2)] [] (M0 L V b) = some (true, 31, [some (.inr (.inr 1)), some (.inl x1), some (.inl x2)], [.inl x1], M0 L V b) := by
  rfl

