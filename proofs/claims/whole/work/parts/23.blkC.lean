/-! BLOCKS, by program (gen5.py) -/
-- 131: MendedOrNewModel.write(IJ)I
theorem B131_0 (L : Nat) (V : Mv) (b : Bool) (x1 : Int) (x2 : Int) (g0 : in32 x1) : nxs 4 131 0 [some (.inr (.inr 120)), some (.inl x1), some (.inr (.inl x2)), none, none] [] (M0 L V b) = some (true, 6, [some (.inr (.inr 120)), some (.inl x1), some (.inr (.inl x2)), none, none], [.inr (.inl 8), .inr (.inl 1), .inr (.inl x1)], M0 L V b) := by
  have f0 : r32 x1 = true := r32_of g0
  have hG : (r32 x1 && true) = true := an f0 rfl
  show some (r32 x1 && true, _) = _
  rw [hG]
  try rfl

theorem B131_9 (L : Nat) (V : Mv) (b : Bool) (x1 : Int) (x2 : Int) (s0 : Int) (g0 : in32 s0) : nxs 1 131 9 [some (.inr (.inr 120)), some (.inl x1), some (.inr (.inl x2)), none, none] [.inl s0] (M0 L V b) = some (true, cond (!decide (s0 = 0)) 15 12, [some (.inr (.inr 120)), some (.inl x1), some (.inr (.inl x2)), none, none], [], M0 L V b) := by
  have f0 : r32 s0 = true := r32_of g0
  have hG : (r32 s0 && true) = true := an f0 rfl
  show some (r32 s0 && true, _) = _
  rw [hG]
  try rfl

theorem B131_12 (L : Nat) (V : Mv) (b : Bool) (x1 : Int) (x2 : Int)  : nxs 1 131 12 [some (.inr (.inr 120)), some (.inl x1), some (.inr (.inl x2)), none, none] [] (M0 L V b) = some (true, 14, [some (.inr (.inr 120)), some (.inl x1), some (.inr (.inl x2)), none, none], [.inl (-2)], M0 L V b) := by
  rfl

theorem B131_15 (L : Nat) (V : Mv) (b : Bool) (x1 : Int) (x2 : Int) (g0 : in32 ((V 120 10) + x1)) : nxs 6 131 15 [some (.inr (.inr 120)), some (.inl x1), some (.inr (.inl x2)), none, none] [] (M0 L V b) = some (true, cond (decide ((V 120 10) + x1 ≤ 64)) 29 26, [some (.inr (.inr 120)), some (.inl x1), some (.inr (.inl x2)), none, none], [], M0 L V b) := by
  have f0 : (r32 ((V 120 10) + x1) && r32 64) = true := rr32_of g0 (by decide)
  have hG : ((r32 ((V 120 10) + x1) && r32 64) && true) = true := an f0 rfl
  show some ((r32 ((V 120 10) + x1) && r32 64) && true, _) = _
  rw [hG]
  try rfl

theorem B131_26 (L : Nat) (V : Mv) (b : Bool) (x1 : Int) (x2 : Int)  : nxs 1 131 26 [some (.inr (.inr 120)), some (.inl x1), some (.inr (.inl x2)), none, none] [] (M0 L V b) = some (true, 28, [some (.inr (.inr 120)), some (.inl x1), some (.inr (.inl x2)), none, none], [.inl (-4)], M0 L V b) := by
  rfl

theorem B131_29 (L : Nat) (V : Mv) (b : Bool) (x1 : Int) (x2 : Int)  : nxs 4 131 29 [some (.inr (.inr 120)), some (.inl x1), some (.inr (.inl x2)), none, none] [] (M0 L V b) = some (true, 34, [some (.inr (.inr 120)), some (.inl x1), some (.inr (.inl x2)), none, some (.inl (x1 - 1))], [], M0 L V b) := by
  rfl

theorem B131_34 (L : Nat) (V : Mv) (b : Bool) (x1 : Int) (x2 : Int) (x4 : Int) (g0 : in32 x4) : nxs 2 131 34 [some (.inr (.inr 120)), some (.inl x1), some (.inr (.inl x2)), none, some (.inl x4)] [] (M0 L V b) = some (true, cond (decide (x4 < 0)) 76 39, [some (.inr (.inr 120)), some (.inl x1), some (.inr (.inl x2)), none, some (.inl x4)], [], M0 L V b) := by
  have f0 : r32 x4 = true := r32_of g0
  have hG : (r32 x4 && true) = true := an f0 rfl
  show some (r32 x4 && true, _) = _
  rw [hG]
  try rfl

theorem B131_39 (L : Nat) (V : Mv) (b : Bool) (x1 : Int) (x2 : Int) (x4 : Int) (g0 : 0 ≤ V 120 10 ∧ V 120 10 < 64) : nxs 21 131 39 [some (.inr (.inr 120)), some (.inl x1), some (.inr (.inl x2)), none, some (.inl x4)] [] (M0 L V b) = some (true, 34, [some (.inr (.inr 120)), some (.inl x1), some (.inr (.inl x2)), none, some (.inl (x4 + (-1)))], [], M0 L (uV (uV V 128 (V 120 10).toNat (oLand (oLshr x2 (8 * x4)) 255)) 120 10 (((uV V 128 (V 120 10).toNat (oLand (oLshr x2 (8 * x4)) 255)) 120 10) + 1)) b) := by
  have f0 : (gX (M0 L V b) 128 1 (V 120 10) && !Nat.beq 128 0) = true := gs_of (gx_of rfl g0) (by decide)
  have hG : ((gX (M0 L V b) 128 1 (V 120 10) && !Nat.beq 128 0) && true) = true := an f0 rfl
  show some ((gX (M0 L V b) 128 1 (V 120 10) && !Nat.beq 128 0) && true, _) = _
  rw [hG]
  try rfl

theorem B131_76 (L : Nat) (V : Mv) (b : Bool) (x1 : Int) (x2 : Int) (x4 : Int)  : nxs 2 131 76 [some (.inr (.inr 120)), some (.inl x1), some (.inr (.inl x2)), none, some (.inl x4)] [] (M0 L V b) = some (true, 80, [some (.inr (.inr 120)), some (.inl x1), some (.inr (.inl x2)), none, some (.inl x4)], [.inl (V 120 10)], M0 L V b) := by
  rfl

-- 132: MendedOrNewModel.in(JJJ)Z
theorem B132_0 (L : Nat) (V : Mv) (b : Bool) (x0 : Int) (x2 : Int) (x4 : Int) (g0 : in64 x0) (g1 : in64 x2) (g2 : in32 (cmpI x0 x2)) : nxs 4 132 0 [some (.inr (.inl x0)), none, some (.inr (.inl x2)), none, some (.inr (.inl x4)), none] [] (M0 L V b) = some (true, cond (decide (cmpI x0 x2 < 0)) 17 6, [some (.inr (.inl x0)), none, some (.inr (.inl x2)), none, some (.inr (.inl x4)), none], [], M0 L V b) := by
  have f0 : (r64 x0 && r64 x2) = true := rr64_of g0 g1
  have f1 : r32 (cmpI x0 x2) = true := r32_of g2
  have hG : ((r64 x0 && r64 x2) && (r32 (cmpI x0 x2) && true)) = true := an f0 (an f1 rfl)
  show some ((r64 x0 && r64 x2) && (r32 (cmpI x0 x2) && true), _) = _
  rw [hG]
  try rfl

theorem B132_6 (L : Nat) (V : Mv) (b : Bool) (x0 : Int) (x2 : Int) (x4 : Int) (g0 : in64 x0) (g1 : in64 x4) (g2 : in32 (cmpI x0 x4)) : nxs 4 132 6 [some (.inr (.inl x0)), none, some (.inr (.inl x2)), none, some (.inr (.inl x4)), none] [] (M0 L V b) = some (true, cond (decide (0 < cmpI x0 x4)) 17 13, [some (.inr (.inl x0)), none, some (.inr (.inl x2)), none, some (.inr (.inl x4)), none], [], M0 L V b) := by
  have f0 : (r64 x0 && r64 x4) = true := rr64_of g0 g1
  have f1 : r32 (cmpI x0 x4) = true := r32_of g2
  have hG : ((r64 x0 && r64 x4) && (r32 (cmpI x0 x4) && true)) = true := an f0 (an f1 rfl)
  show some ((r64 x0 && r64 x4) && (r32 (cmpI x0 x4) && true), _) = _
  rw [hG]
  try rfl

theorem B132_13 (L : Nat) (V : Mv) (b : Bool) (x0 : Int) (x2 : Int) (x4 : Int)  : nxs 2 132 13 [some (.inr (.inl x0)), none, some (.inr (.inl x2)), none, some (.inr (.inl x4)), none] [] (M0 L V b) = some (true, 18, [some (.inr (.inl x0)), none, some (.inr (.inl x2)), none, some (.inr (.inl x4)), none], [.inl 1], M0 L V b) := by
  rfl

theorem B132_17 (L : Nat) (V : Mv) (b : Bool) (x0 : Int) (x2 : Int) (x4 : Int)  : nxs 1 132 17 [some (.inr (.inl x0)), none, some (.inr (.inl x2)), none, some (.inr (.inl x4)), none] [] (M0 L V b) = some (true, 18, [some (.inr (.inl x0)), none, some (.inr (.inl x2)), none, some (.inr (.inl x4)), none], [.inl 0], M0 L V b) := by
  rfl

-- 133: MendedOrNewModel.wipe()I
theorem B133_0 (L : Nat) (V : Mv) (b : Bool)   : nxs 7 133 0 [some (.inr (.inr 120)), none] [] (M0 L V b) = some (true, 11, [some (.inr (.inr 120)), some (.inl (V 120 10))], [.inl (V 120 10)], M0 L (uV V 120 10 0) b) := by
  rfl

-- 134: MendedOrNewModel.fault()I
theorem B134_0 (L : Nat) (V : Mv) (b : Bool)   : nxs 1 134 0 [some (.inr (.inr 120))] [] (M0 L V b) = some (true, 1, [some (.inr (.inr 120))], [.inr (.inr 120)], M0 L V b) := by
  rfl

-- 135: MendedOrNewModel.readText()I
theorem B135_0 (L : Nat) (V : Mv) (b : Bool)   : nxs 1 135 0 [some (.inr (.inr 120))] [] (M0 L V b) = some (true, 1, [some (.inr (.inr 120))], [.inr (.inr 120)], M0 L V b) := by
  rfl

theorem B135_4 (L : Nat) (V : Mv) (b : Bool)  (g0 : in32 ((uV (uV V 120 11 0) 120 12 (-9)) 120 10)) : nxs 9 135 4 [some (.inr (.inr 120))] [] (M0 L V b) = some (true, cond (decide ((uV (uV V 120 11 0) 120 12 (-9)) 120 10 = 0)) 33 22, [some (.inr (.inr 120))], [], M0 L (uV (uV V 120 11 0) 120 12 (-9)) b) := by
  have f0 : r32 ((uV (uV V 120 11 0) 120 12 (-9)) 120 10) = true := r32_of g0
  have hG : (r32 ((uV (uV V 120 11 0) 120 12 (-9)) 120 10) && true) = true := an f0 rfl
  show some (r32 ((uV (uV V 120 11 0) 120 12 (-9)) 120 10) && true, _) = _
  rw [hG]
  try rfl

theorem B135_22 (L : Nat) (V : Mv) (b : Bool)  (g0 : in32 (V 128 (0 : Int).toNat)) : nxs 6 135 22 [some (.inr (.inr 120))] [] (M0 L V b) = some (true, cond (decide (V 128 (0 : Int).toNat = 78)) 35 33, [some (.inr (.inr 120))], [], M0 L V b) := by
  have f0 : gX (M0 L V b) 128 1 0 = true := gx_of rfl (by decide)
  have f1 : (r32 (V 128 (0 : Int).toNat) && r32 78) = true := rr32_of g0 (by decide)
  have hG : (gX (M0 L V b) 128 1 0 && ((r32 (V 128 (0 : Int).toNat) && r32 78) && true)) = true := an f0 (an f1 rfl)
  show some (gX (M0 L V b) 128 1 0 && ((r32 (V 128 (0 : Int).toNat) && r32 78) && true), _) = _
  rw [hG]
  try rfl

theorem B135_33 (L : Nat) (V : Mv) (b : Bool)   : nxs 1 135 33 [some (.inr (.inr 120))] [] (M0 L V b) = some (true, 34, [some (.inr (.inr 120))], [.inl 0], M0 L V b) := by
  rfl

theorem B135_35 (L : Nat) (V : Mv) (b : Bool)   : nxs 8 135 35 [some (.inr (.inr 120))] [] (M0 L V b) = some (true, 49, [some (.inr (.inr 120))], [.inl 508, .inr (.inr 120), .inl 3, .inr (.inr 121)], M0 L (uV V 120 11 1) b) := by
  rfl

theorem B135_52 (L : Nat) (V : Mv) (b : Bool) (s0 : Nat) (s1 : Int) (s2 : Int) (n_s0 : Nat) (t_s0 : TT L s0 = (1, n_s0)) (g0 : 0 ≤ s1 ∧ s1 < (n_s0 : Int)) (z_s0 : s0 ≠ 0) : nxs 1 135 52 [some (.inr (.inr 120))] [.inl s2, .inl s1, .inr (.inr s0)] (M0 L V b) = some (true, 53, [some (.inr (.inr 120))], [], M0 L (uV V s0 (s1).toNat s2) b) := by
  have f0 : (gX (M0 L V b) s0 1 s1 && !Nat.beq s0 0) = true := gs_of (gx_of (show aT _ _ = _ from t_s0) g0) z_s0
  have hG : ((gX (M0 L V b) s0 1 s1 && !Nat.beq s0 0) && true) = true := an f0 rfl
  show some ((gX (M0 L V b) s0 1 s1 && !Nat.beq s0 0) && true, _) = _
  rw [hG]
  try rfl

theorem B135_53 (L : Nat) (V : Mv) (b : Bool)  (g0 : in32 (V 120 12)) : nxs 4 135 53 [some (.inr (.inr 120))] [] (M0 L V b) = some (true, cond (!decide (V 120 12 = (-9))) 89 62, [some (.inr (.inr 120))], [], M0 L V b) := by
  have f0 : (r32 (V 120 12) && r32 (-9)) = true := rr32_of g0 (by decide)
  have hG : ((r32 (V 120 12) && r32 (-9)) && true) = true := an f0 rfl
  show some ((r32 (V 120 12) && r32 (-9)) && true, _) = _
  rw [hG]
  try rfl

theorem B135_62 (L : Nat) (V : Mv) (b : Bool)  (g0 : in32 (V 120 11)) (g1 : in32 (V 120 10)) : nxs 5 135 62 [some (.inr (.inr 120))] [] (M0 L V b) = some (true, cond (decide (V 120 10 ≤ V 120 11)) 89 73, [some (.inr (.inr 120))], [], M0 L V b) := by
  have f0 : (r32 (V 120 11) && r32 (V 120 10)) = true := rr32_of g0 g1
  have hG : ((r32 (V 120 11) && r32 (V 120 10)) && true) = true := an f0 rfl
  show some ((r32 (V 120 11) && r32 (V 120 10)) && true, _) = _
  rw [hG]
  try rfl

theorem B135_73 (L : Nat) (V : Mv) (b : Bool)  (g0 : 0 ≤ V 120 11 ∧ V 120 11 < 64) : nxs 6 135 73 [some (.inr (.inr 120))] [] (M0 L V b) = some (true, 83, [some (.inr (.inr 120))], [.inl (V 128 (V 120 11).toNat), .inr (.inr 120)], M0 L V b) := by
  have f0 : gX (M0 L V b) 128 1 (V 120 11) = true := gx_of rfl g0
  have hG : (gX (M0 L V b) 128 1 (V 120 11) && true) = true := an f0 rfl
  show some (gX (M0 L V b) 128 1 (V 120 11) && true, _) = _
  rw [hG]
  try rfl

theorem B135_86 (L : Nat) (V : Mv) (b : Bool)   : nxs 1 135 86 [some (.inr (.inr 120))] [] (M0 L V b) = some (true, 53, [some (.inr (.inr 120))], [], M0 L V b) := by
  rfl

theorem B135_89 (L : Nat) (V : Mv) (b : Bool)   : nxs 2 135 89 [some (.inr (.inr 120))] [] (M0 L V b) = some (true, 93, [some (.inr (.inr 120))], [.inl (V 120 12)], M0 L V b) := by
  rfl

-- 136: MendedOrNewModel.blank()V
theorem B136_0 (L : Nat) (V : Mv) (b : Bool)   : nxs 2 136 0 [some (.inr (.inr 120)), none] [] (M0 L V b) = some (true, 2, [some (.inr (.inr 120)), some (.inl 0)], [], M0 L V b) := by
  rfl

theorem B136_2 (L : Nat) (V : Mv) (b : Bool) (x1 : Int) (g0 : in32 x1) : nxs 3 136 2 [some (.inr (.inr 120)), some (.inl x1)] [] (M0 L V b) = some (true, cond (decide (64 ≤ x1)) 25 8, [some (.inr (.inr 120)), some (.inl x1)], [], M0 L V b) := by
  have f0 : (r32 x1 && r32 64) = true := rr32_of g0 (by decide)
  have hG : ((r32 x1 && r32 64) && true) = true := an f0 rfl
  show some ((r32 x1 && r32 64) && true, _) = _
  rw [hG]
  try rfl

theorem B136_8 (L : Nat) (V : Mv) (b : Bool) (x1 : Int) (g0 : 0 ≤ 192 + x1 ∧ 192 + x1 < 256) : nxs 9 136 8 [some (.inr (.inr 120)), some (.inl x1)] [] (M0 L V b) = some (true, 2, [some (.inr (.inr 120)), some (.inl (x1 + 1))], [], M0 L (uV V 123 (192 + x1).toNat 0) b) := by
  have f0 : (gX (M0 L V b) 123 1 (192 + x1) && !Nat.beq 123 0) = true := gs_of (gx_of rfl g0) (by decide)
  have hG : ((gX (M0 L V b) 123 1 (192 + x1) && !Nat.beq 123 0) && true) = true := an f0 rfl
  show some ((gX (M0 L V b) 123 1 (192 + x1) && !Nat.beq 123 0) && true, _) = _
  rw [hG]
  try rfl

theorem B136_25 (L : Nat) (V : Mv) (b : Bool) (x1 : Int)  : nxs 2 136 25 [some (.inr (.inr 120)), some (.inl x1)] [] (M0 L V b) = some (true, 27, [some (.inr (.inr 120)), some (.inl 0)], [], M0 L V b) := by
  rfl

theorem B136_27 (L : Nat) (V : Mv) (b : Bool) (x1 : Int) (g0 : in32 x1) : nxs 3 136 27 [some (.inr (.inr 120)), some (.inl x1)] [] (M0 L V b) = some (true, cond (decide (8 ≤ x1)) 59 33, [some (.inr (.inr 120)), some (.inl x1)], [], M0 L V b) := by
  have f0 : (r32 x1 && r32 8) = true := rr32_of g0 (by decide)
  have hG : ((r32 x1 && r32 8) && true) = true := an f0 rfl
  show some ((r32 x1 && r32 8) && true, _) = _
  rw [hG]
  try rfl

theorem B136_33 (L : Nat) (V : Mv) (b : Bool) (x1 : Int) (g0 : 0 ≤ 24 + x1 ∧ 24 + x1 < 32) : nxs 16 136 33 [some (.inr (.inr 120)), some (.inl x1)] [] (M0 L V b) = some (true, 27, [some (.inr (.inr 120)), some (.inl (x1 + 1))], [], M0 L (uV (uV V 124 (24 + x1).toNat 0) 125 (24 + x1).toNat 0) b) := by
  have f0 : (gX (M0 L V b) 124 1 (24 + x1) && !Nat.beq 124 0) = true := gs_of (gx_of rfl g0) (by decide)
  have f1 : (gX (M0 L (uV V 124 (24 + x1).toNat 0) b) 125 1 (24 + x1) && !Nat.beq 125 0) = true := gs_of (gx_of rfl g0) (by decide)
  have hG : ((gX (M0 L V b) 124 1 (24 + x1) && !Nat.beq 124 0) && ((gX (M0 L (uV V 124 (24 + x1).toNat 0) b) 125 1 (24 + x1) && !Nat.beq 125 0) && true)) = true := an f0 (an f1 rfl)
  show some ((gX (M0 L V b) 124 1 (24 + x1) && !Nat.beq 124 0) && ((gX (M0 L (uV V 124 (24 + x1).toNat 0) b) 125 1 (24 + x1) && !Nat.beq 125 0) && true), _) = _
  rw [hG]
  try rfl

theorem B136_59 (L : Nat) (V : Mv) (b : Bool) (x1 : Int)  : nxs 2 136 59 [some (.inr (.inr 120)), some (.inl x1)] [] (M0 L V b) = some (true, 61, [some (.inr (.inr 120)), some (.inl 0)], [], M0 L V b) := by
  rfl

theorem B136_61 (L : Nat) (V : Mv) (b : Bool) (x1 : Int) (g0 : in32 x1) : nxs 3 136 61 [some (.inr (.inr 120)), some (.inl x1)] [] (M0 L V b) = some (true, cond (decide (4 ≤ x1)) 93 66, [some (.inr (.inr 120)), some (.inl x1)], [], M0 L V b) := by
  have f0 : (r32 x1 && r32 4) = true := rr32_of g0 (by decide)
  have hG : ((r32 x1 && r32 4) && true) = true := an f0 rfl
  show some ((r32 x1 && r32 4) && true, _) = _
  rw [hG]
  try rfl

theorem B136_66 (L : Nat) (V : Mv) (b : Bool) (x1 : Int) (g0 : 0 ≤ 12 + x1 ∧ 12 + x1 < 16) : nxs 16 136 66 [some (.inr (.inr 120)), some (.inl x1)] [] (M0 L V b) = some (true, 61, [some (.inr (.inr 120)), some (.inl (x1 + 1))], [], M0 L (uV (uV V 126 (12 + x1).toNat (-9)) 127 (12 + x1).toNat 0) b) := by
  have f0 : (gX (M0 L V b) 126 1 (12 + x1) && !Nat.beq 126 0) = true := gs_of (gx_of rfl g0) (by decide)
  have f1 : (gX (M0 L (uV V 126 (12 + x1).toNat (-9)) b) 127 1 (12 + x1) && !Nat.beq 127 0) = true := gs_of (gx_of rfl g0) (by decide)
  have hG : ((gX (M0 L V b) 126 1 (12 + x1) && !Nat.beq 126 0) && ((gX (M0 L (uV V 126 (12 + x1).toNat (-9)) b) 127 1 (12 + x1) && !Nat.beq 127 0) && true)) = true := an f0 (an f1 rfl)
  show some ((gX (M0 L V b) 126 1 (12 + x1) && !Nat.beq 126 0) && ((gX (M0 L (uV V 126 (12 + x1).toNat (-9)) b) 127 1 (12 + x1) && !Nat.beq 127 0) && true), _) = _
  rw [hG]
  try rfl

theorem B136_93 (L : Nat) (V : Mv) (b : Bool) (x1 : Int)  : nxs 11 136 93 [some (.inr (.inr 120)), some (.inl x1)] [] (M0 L V b) = some (true, 111, [some (.inr (.inr 120)), some (.inl x1)], [], M0 L (uV (uV (uV V 122 (3 : Int).toNat (-9)) 120 7 0) 120 8 0) b) := by
  have f0 : (gX (M0 L V b) 122 1 3 && !Nat.beq 122 0) = true := gs_of (gx_of rfl (by decide)) (by decide)
  have hG : ((gX (M0 L V b) 122 1 3 && !Nat.beq 122 0) && true) = true := an f0 rfl
  show some ((gX (M0 L V b) 122 1 3 && !Nat.beq 122 0) && true, _) = _
  rw [hG]
  try rfl

-- 137: MendedOrNewModel.figure(I)I
theorem B137_0 (L : Nat) (V : Mv) (b : Bool) (x1 : Int) (g0 : in32 (V 120 12)) : nxs 4 137 0 [some (.inr (.inr 120)), some (.inl x1), none] [] (M0 L V b) = some (true, cond (!decide (V 120 12 = (-9))) 35 9, [some (.inr (.inr 120)), some (.inl x1), none], [], M0 L V b) := by
  have f0 : (r32 (V 120 12) && r32 (-9)) = true := rr32_of g0 (by decide)
  have hG : ((r32 (V 120 12) && r32 (-9)) && true) = true := an f0 rfl
  show some ((r32 (V 120 12) && r32 (-9)) && true, _) = _
  rw [hG]
  try rfl

theorem B137_9 (L : Nat) (V : Mv) (b : Bool) (x1 : Int) (g0 : in32 (V 120 11)) (g1 : in32 (V 120 10)) : nxs 5 137 9 [some (.inr (.inr 120)), some (.inl x1), none] [] (M0 L V b) = some (true, cond (decide (V 120 10 ≤ V 120 11)) 35 20, [some (.inr (.inr 120)), some (.inl x1), none], [], M0 L V b) := by
  have f0 : (r32 (V 120 11) && r32 (V 120 10)) = true := rr32_of g0 g1
  have hG : ((r32 (V 120 11) && r32 (V 120 10)) && true) = true := an f0 rfl
  show some ((r32 (V 120 11) && r32 (V 120 10)) && true, _) = _
  rw [hG]
  try rfl

theorem B137_20 (L : Nat) (V : Mv) (b : Bool) (x1 : Int) (g0 : 0 ≤ V 120 11 ∧ V 120 11 < 64) : nxs 8 137 20 [some (.inr (.inr 120)), some (.inl x1), none] [] (M0 L V b) = some (true, 36, [some (.inr (.inr 120)), some (.inl x1), none], [.inl ((V 128 (V 120 11).toNat) - 48)], M0 L V b) := by
  have f0 : gX (M0 L V b) 128 1 (V 120 11) = true := gx_of rfl g0
  have hG : (gX (M0 L V b) 128 1 (V 120 11) && true) = true := an f0 rfl
  show some (gX (M0 L V b) 128 1 (V 120 11) && true, _) = _
  rw [hG]
  try rfl

theorem B137_35 (L : Nat) (V : Mv) (b : Bool) (x1 : Int)  : nxs 1 137 35 [some (.inr (.inr 120)), some (.inl x1), none] [] (M0 L V b) = some (true, 36, [some (.inr (.inr 120)), some (.inl x1), none], [.inl (-1)], M0 L V b) := by
  rfl

theorem B137_36 (L : Nat) (V : Mv) (b : Bool) (x1 : Int) (s0 : Int) (g0 : in32 s0) : nxs 5 137 36 [some (.inr (.inr 120)), some (.inl x1), none] [.inl s0] (M0 L V b) = some (true, 43, [some (.inr (.inr 120)), some (.inl x1), some (.inl s0)], [.inr (.inl 9), .inr (.inl 0), .inr (.inl s0)], M0 L V b) := by
  have f0 : r32 s0 = true := r32_of g0
  have hG : (r32 s0 && true) = true := an f0 rfl
  show some (r32 s0 && true, _) = _
  rw [hG]
  try rfl

theorem B137_46 (L : Nat) (V : Mv) (b : Bool) (x1 : Int) (x2 : Int) (s0 : Int) (g0 : in32 s0) : nxs 1 137 46 [some (.inr (.inr 120)), some (.inl x1), some (.inl x2)] [.inl s0] (M0 L V b) = some (true, cond (decide (s0 = 0)) 57 49, [some (.inr (.inr 120)), some (.inl x1), some (.inl x2)], [], M0 L V b) := by
  have f0 : r32 s0 = true := r32_of g0
  have hG : (r32 s0 && true) = true := an f0 rfl
  show some (r32 s0 && true, _) = _
  rw [hG]
  try rfl

theorem B137_49 (L : Nat) (V : Mv) (b : Bool) (x1 : Int) (x2 : Int) (g0 : in32 (oAnd (oShr x1 x2) 1)) : nxs 6 137 49 [some (.inr (.inr 120)), some (.inl x1), some (.inl x2)] [] (M0 L V b) = some (true, cond (!decide (oAnd (oShr x1 x2) 1 = 0)) 63 57, [some (.inr (.inr 120)), some (.inl x1), some (.inl x2)], [], M0 L V b) := by
  have f0 : r32 (oAnd (oShr x1 x2) 1) = true := r32_of g0
  have hG : (r32 (oAnd (oShr x1 x2) 1) && true) = true := an f0 rfl
  show some (r32 (oAnd (oShr x1 x2) 1) && true, _) = _
  rw [hG]
  try rfl

theorem B137_57 (L : Nat) (V : Mv) (b : Bool) (x1 : Int) (x2 : Int)  : nxs 1 137 57 [some (.inr (.inr 120)), some (.inl x1), some (.inl x2)] [] (M0 L V b) = some (true, 58, [some (.inr (.inr 120)), some (.inl x1), some (.inl x2)], [.inr (.inr 120)], M0 L V b) := by
  rfl

theorem B137_61 (L : Nat) (V : Mv) (b : Bool) (x1 : Int) (x2 : Int)  : nxs 1 137 61 [some (.inr (.inr 120)), some (.inl x1), some (.inl x2)] [] (M0 L V b) = some (true, 62, [some (.inr (.inr 120)), some (.inl x1), some (.inl x2)], [.inl 0], M0 L V b) := by
  rfl

theorem B137_63 (L : Nat) (V : Mv) (b : Bool) (x1 : Int) (x2 : Int)  : nxs 7 137 63 [some (.inr (.inr 120)), some (.inl x1), some (.inl x2)] [] (M0 L V b) = some (true, 74, [some (.inr (.inr 120)), some (.inl x1), some (.inl x2)], [.inl x2], M0 L (uV V 120 11 ((V 120 11) + 1)) b) := by
  rfl

-- 138: MendedOrNewModel.fail()V
theorem B138_0 (L : Nat) (V : Mv) (b : Bool)  (g0 : in32 (V 120 12)) : nxs 5 138 0 [some (.inr (.inr 120))] [] (M0 L V b) = some (true, cond (!decide (V 120 12 = (-9))) 17 10, [some (.inr (.inr 120))], [.inr (.inr 120)], M0 L V b) := by
  have f0 : (r32 (V 120 12) && r32 (-9)) = true := rr32_of g0 (by decide)
  have hG : ((r32 (V 120 12) && r32 (-9)) && true) = true := an f0 rfl
  show some ((r32 (V 120 12) && r32 (-9)) && true, _) = _
  rw [hG]
  try rfl

theorem B138_10 (L : Nat) (V : Mv) (b : Bool)   : nxs 3 138 10 [some (.inr (.inr 120))] [.inr (.inr 120)] (M0 L V b) = some (true, 21, [some (.inr (.inr 120))], [.inl (V 120 11), .inr (.inr 120)], M0 L V b) := by
  rfl

theorem B138_17 (L : Nat) (V : Mv) (b : Bool)   : nxs 2 138 17 [some (.inr (.inr 120))] [.inr (.inr 120)] (M0 L V b) = some (true, 21, [some (.inr (.inr 120))], [.inl (V 120 12), .inr (.inr 120)], M0 L V b) := by
  rfl

theorem B138_21 (L : Nat) (V : Mv) (b : Bool) (s1 : Int)  : nxs 1 138 21 [some (.inr (.inr 120))] [.inl s1, .inr (.inr 120)] (M0 L V b) = some (true, 24, [some (.inr (.inr 120))], [], M0 L (uV V 120 12 s1) b) := by
  rfl

-- 139: MendedOrNewModel.readPart(I)V
theorem B139_0 (L : Nat) (V : Mv) (b : Bool) (x1 : Int) (g0 : in32 x1) : nxs 12 139 0 [some (.inr (.inr 120)), some (.inl x1), none, none, none, none] [] (M0 L V b) = some (true, cond (!decide (x1 = 83)) 110 17, [some (.inr (.inr 120)), some (.inl x1), some (.inl ((oShl 1 (V 121 (3 : Int).toNat)) - 1)), none, none, none], [], M0 L V b) := by
  have f0 : gX (M0 L V b) 121 1 3 = true := gx_of rfl (by decide)
  have f1 : (r32 x1 && r32 83) = true := rr32_of g0 (by decide)
  have hG : (gX (M0 L V b) 121 1 3 && ((r32 x1 && r32 83) && true)) = true := an f0 (an f1 rfl)
  show some (gX (M0 L V b) 121 1 3 && ((r32 x1 && r32 83) && true), _) = _
  rw [hG]
  try rfl

theorem B139_17 (L : Nat) (V : Mv) (b : Bool) (x1 : Int) (x2 : Int)  : nxs 1 139 17 [some (.inr (.inr 120)), some (.inl x1), some (.inl x2), none, none, none] [] (M0 L V b) = some (true, 18, [some (.inr (.inr 120)), some (.inl x1), some (.inl x2), none, none, none], [.inr (.inr 120)], M0 L V b) := by
  rfl

theorem B139_21 (L : Nat) (V : Mv) (b : Bool) (x1 : Int) (x2 : Int) (s0 : Int) (g0 : in32 s0) : nxs 1 139 21 [some (.inr (.inr 120)), some (.inl x1), some (.inl x2), none, none, none] [.inl s0] (M0 L V b) = some (true, cond (decide (s0 = 0)) 110 24, [some (.inr (.inr 120)), some (.inl x1), some (.inl x2), none, none, none], [], M0 L V b) := by
  have f0 : r32 s0 = true := r32_of g0
  have hG : (r32 s0 && true) = true := an f0 rfl
  show some (r32 s0 && true, _) = _
  rw [hG]
  try rfl

theorem B139_24 (L : Nat) (V : Mv) (b : Bool) (x1 : Int) (x2 : Int)  : nxs 8 139 24 [some (.inr (.inr 120)), some (.inl x1), some (.inl x2), none, none, none] [] (M0 L V b) = some (true, 36, [some (.inr (.inr 120)), some (.inl x1), some (.inl x2), none, none, none], [.inr (.inr 120), .inr (.inr 120)], M0 L (uV V 120 11 ((V 120 11) + 1)) b) := by
  rfl

theorem B139_42 (L : Nat) (V : Mv) (b : Bool) (x1 : Int) (x2 : Int) (s0 : Int)  : nxs 4 139 42 [some (.inr (.inr 120)), some (.inl x1), some (.inl x2), none, none, none] [.inl s0] (M0 L V b) = some (true, 46, [some (.inr (.inr 120)), some (.inl x1), some (.inl x2), some (.inl s0), none, none], [.inl s0, .inr (.inr 120), .inr (.inr 120)], M0 L V b) := by
  rfl

theorem B139_52 (L : Nat) (V : Mv) (b : Bool) (x1 : Int) (x2 : Int) (x3 : Int) (s0 : Int)  : nxs 7 139 52 [some (.inr (.inr 120)), some (.inl x1), some (.inl x2), some (.inl x3), none, none] [.inl s0] (M0 L V b) = some (true, 61, [some (.inr (.inr 120)), some (.inl x1), some (.inl x2), some (.inl x3), some (.inl s0), none], [.inl x3, .inl 3, .inr (.inr 120), .inl 11, .inl 1, .inr (.inr 120)], M0 L V b) := by
  rfl

theorem B139_64 (L : Nat) (V : Mv) (b : Bool) (x1 : Int) (x2 : Int) (x3 : Int) (x4 : Int) (s1 : Int) (s2 : Int) (s3 : Int)  : nxs 4 139 64 [some (.inr (.inr 120)), some (.inl x1), some (.inl x2), some (.inl x3), some (.inl x4), none] [.inl s3, .inl s2, .inl s1, .inr (.inr 120)] (M0 L V b) = some (true, 68, [some (.inr (.inr 120)), some (.inl x1), some (.inl x2), some (.inl x3), some (.inl x4), none], [.inl ((oShl s1 (s2 - s3)) - 2), .inr (.inr 120)], M0 L V b) := by
  rfl

theorem B139_71 (L : Nat) (V : Mv) (b : Bool) (x1 : Int) (x2 : Int) (x3 : Int) (x4 : Int) (s0 : Int) (g0 : 0 ≤ (192 + (8 * x3)) + x4 ∧ (192 + (8 * x3)) + x4 < 256) (g1 : in32 (V 120 12)) : nxs 16 139 71 [some (.inr (.inr 120)), some (.inl x1), some (.inl x2), some (.inl x3), some (.inl x4), none] [.inl s0] (M0 L V b) = some (true, cond (!decide (V 120 12 = (-9))) 104 99, [some (.inr (.inr 120)), some (.inl x1), some (.inl x2), some (.inl x3), some (.inl x4), some (.inl s0)], [.inl (V 123 ((192 + (8 * x3)) + x4).toNat), .inl ((192 + (8 * x3)) + x4), .inr (.inr 123)], M0 L V b) := by
  have f0 : gX (M0 L V b) 123 1 ((192 + (8 * x3)) + x4) = true := gx_of rfl g0
  have f1 : (r32 (V 120 12) && r32 (-9)) = true := rr32_of g1 (by decide)
  have hG : (gX (M0 L V b) 123 1 ((192 + (8 * x3)) + x4) && ((r32 (V 120 12) && r32 (-9)) && true)) = true := an f0 (an f1 rfl)
  show some (gX (M0 L V b) 123 1 ((192 + (8 * x3)) + x4) && ((r32 (V 120 12) && r32 (-9)) && true), _) = _
  rw [hG]
  try rfl

theorem B139_99 (L : Nat) (V : Mv) (b : Bool) (x1 : Int) (x2 : Int) (x3 : Int) (x4 : Int) (x5 : Int) (s0 : Nat) (s1 : Int) (s2 : Int) (n_s0 : Nat) (t_s0 : TT L s0 = (1, n_s0)) : nxs 2 139 99 [some (.inr (.inr 120)), some (.inl x1), some (.inl x2), some (.inl x3), some (.inl x4), some (.inl x5)] [.inl s2, .inl s1, .inr (.inr s0)] (M0 L V b) = some (true, 105, [some (.inr (.inr 120)), some (.inl x1), some (.inl x2), some (.inl x3), some (.inl x4), some (.inl x5)], [.inl x5, .inl s2, .inl s1, .inr (.inr s0)], M0 L V b) := by
  rfl

theorem B139_104 (L : Nat) (V : Mv) (b : Bool) (x1 : Int) (x2 : Int) (x3 : Int) (x4 : Int) (x5 : Int) (s0 : Nat) (s1 : Int) (s2 : Int) (n_s0 : Nat) (t_s0 : TT L s0 = (1, n_s0)) : nxs 1 139 104 [some (.inr (.inr 120)), some (.inl x1), some (.inl x2), some (.inl x3), some (.inl x4), some (.inl x5)] [.inl s2, .inl s1, .inr (.inr s0)] (M0 L V b) = some (true, 105, [some (.inr (.inr 120)), some (.inl x1), some (.inl x2), some (.inl x3), some (.inl x4), some (.inl x5)], [.inl 0, .inl s2, .inl s1, .inr (.inr s0)], M0 L V b) := by
  rfl

theorem B139_105 (L : Nat) (V : Mv) (b : Bool) (x1 : Int) (x2 : Int) (x3 : Int) (x4 : Int) (x5 : Int) (s0 : Nat) (s1 : Int) (s2 : Int) (s3 : Int) (n_s0 : Nat) (t_s0 : TT L s0 = (1, n_s0)) (g0 : 0 ≤ s1 ∧ s1 < (n_s0 : Int)) (z_s0 : s0 ≠ 0) : nxs 3 139 105 [some (.inr (.inr 120)), some (.inl x1), some (.inl x2), some (.inl x3), some (.inl x4), some (.inl x5)] [.inl s3, .inl s2, .inl s1, .inr (.inr s0)] (M0 L V b) = some (true, 394, [some (.inr (.inr 120)), some (.inl x1), some (.inl x2), some (.inl x3), some (.inl x4), some (.inl x5)], [], M0 L (uV V s0 (s1).toNat (s2 + s3)) b) := by
  have f0 : (gX (M0 L V b) s0 1 s1 && !Nat.beq s0 0) = true := gs_of (gx_of (show aT _ _ = _ from t_s0) g0) z_s0
  have hG : ((gX (M0 L V b) s0 1 s1 && !Nat.beq s0 0) && true) = true := an f0 rfl
  show some ((gX (M0 L V b) s0 1 s1 && !Nat.beq s0 0) && true, _) = _
  rw [hG]
  try rfl

theorem B139_110 (L : Nat) (V : Mv) (b : Bool) (x1 : Int) (x2 : Int) (g0 : in32 x1) : nxs 3 139 110 [some (.inr (.inr 120)), some (.inl x1), some (.inl x2), none, none, none] [] (M0 L V b) = some (true, cond (!decide (x1 = 67)) 193 116, [some (.inr (.inr 120)), some (.inl x1), some (.inl x2), none, none, none], [], M0 L V b) := by
  have f0 : (r32 x1 && r32 67) = true := rr32_of g0 (by decide)
  have hG : ((r32 x1 && r32 67) && true) = true := an f0 rfl
  show some ((r32 x1 && r32 67) && true, _) = _
  rw [hG]
  try rfl

theorem B139_116 (L : Nat) (V : Mv) (b : Bool) (x1 : Int) (x2 : Int) (g0 : in32 (V 120 7)) (g1 : in32 x2) : nxs 4 139 116 [some (.inr (.inr 120)), some (.inl x1), some (.inl x2), none, none, none] [] (M0 L V b) = some (true, cond (decide (V 120 7 = x2)) 193 124, [some (.inr (.inr 120)), some (.inl x1), some (.inl x2), none, none, none], [], M0 L V b) := by
  have f0 : (r32 (V 120 7) && r32 x2) = true := rr32_of g0 g1
  have hG : ((r32 (V 120 7) && r32 x2) && true) = true := an f0 rfl
  show some ((r32 (V 120 7) && r32 x2) && true, _) = _
  rw [hG]
  try rfl

theorem B139_124 (L : Nat) (V : Mv) (b : Bool) (x1 : Int) (x2 : Int)  : nxs 13 139 124 [some (.inr (.inr 120)), some (.inl x1), some (.inl x2), none, none, none] [] (M0 L V b) = some (true, 143, [some (.inr (.inr 120)), some (.inl x1), some (.inl x2), none, none, none], [.inl (oAnd x2 (oXor ((uV V 120 11 ((V 120 11) + 1)) 120 7) (-1))), .inr (.inr 120)], M0 L (uV V 120 11 ((V 120 11) + 1)) b) := by
  rfl

theorem B139_146 (L : Nat) (V : Mv) (b : Bool) (x1 : Int) (x2 : Int) (s0 : Int)  : nxs 3 139 146 [some (.inr (.inr 120)), some (.inl x1), some (.inl x2), none, none, none] [.inl s0] (M0 L V b) = some (true, 151, [some (.inr (.inr 120)), some (.inl x1), some (.inl x2), some (.inl s0), none, none], [.inl 1023, .inr (.inr 120)], M0 L V b) := by
  rfl

theorem B139_154 (L : Nat) (V : Mv) (b : Bool) (x1 : Int) (x2 : Int) (x3 : Int) (s0 : Int)  : nxs 11 139 154 [some (.inr (.inr 120)), some (.inl x1), some (.inl x2), some (.inl x3), none, none] [.inl s0] (M0 L V b) = some (true, 173, [some (.inr (.inr 120)), some (.inl x1), some (.inl x2), some (.inl x3), some (.inl s0), none], [.inl 1023, .inr (.inr 120), .inl (10 * s0), .inl (24 + x3), .inr (.inr 124)], M0 L V b) := by
  rfl

theorem B139_176 (L : Nat) (V : Mv) (b : Bool) (x1 : Int) (x2 : Int) (x3 : Int) (x4 : Int) (s0 : Nat) (s1 : Int) (s2 : Int) (s3 : Int) (n_s0 : Nat) (t_s0 : TT L s0 = (1, n_s0)) (g0 : 0 ≤ s1 ∧ s1 < (n_s0 : Int)) (z_s0 : s0 ≠ 0) : nxs 11 139 176 [some (.inr (.inr 120)), some (.inl x1), some (.inl x2), some (.inl x3), some (.inl x4), none] [.inl s3, .inl s2, .inl s1, .inr (.inr s0)] (M0 L V b) = some (true, 394, [some (.inr (.inr 120)), some (.inl x1), some (.inl x2), some (.inl x3), some (.inl x4), none], [], M0 L (uV (uV V s0 (s1).toNat (s2 + s3)) 120 7 (oOr ((uV V s0 (s1).toNat (s2 + s3)) 120 7) (oShl 1 x3))) b) := by
  have f0 : (gX (M0 L V b) s0 1 s1 && !Nat.beq s0 0) = true := gs_of (gx_of (show aT _ _ = _ from t_s0) g0) z_s0
  have hG : ((gX (M0 L V b) s0 1 s1 && !Nat.beq s0 0) && true) = true := an f0 rfl
  show some ((gX (M0 L V b) s0 1 s1 && !Nat.beq s0 0) && true, _) = _
  rw [hG]
  try rfl

theorem B139_193 (L : Nat) (V : Mv) (b : Bool) (x1 : Int) (x2 : Int) (g0 : in32 x1) : nxs 3 139 193 [some (.inr (.inr 120)), some (.inl x1), some (.inl x2), none, none, none] [] (M0 L V b) = some (true, cond (!decide (x1 = 75)) 261 199, [some (.inr (.inr 120)), some (.inl x1), some (.inl x2), none, none, none], [], M0 L V b) := by
  have f0 : (r32 x1 && r32 75) = true := rr32_of g0 (by decide)
  have hG : ((r32 x1 && r32 75) && true) = true := an f0 rfl
  show some ((r32 x1 && r32 75) && true, _) = _
  rw [hG]
  try rfl

theorem B139_199 (L : Nat) (V : Mv) (b : Bool) (x1 : Int) (x2 : Int) (g0 : in32 (V 120 8)) (g1 : in32 x2) : nxs 4 139 199 [some (.inr (.inr 120)), some (.inl x1), some (.inl x2), none, none, none] [] (M0 L V b) = some (true, cond (decide (V 120 8 = x2)) 261 207, [some (.inr (.inr 120)), some (.inl x1), some (.inl x2), none, none, none], [], M0 L V b) := by
  have f0 : (r32 (V 120 8) && r32 x2) = true := rr32_of g0 g1
  have hG : ((r32 (V 120 8) && r32 x2) && true) = true := an f0 rfl
  show some ((r32 (V 120 8) && r32 x2) && true, _) = _
  rw [hG]
  try rfl

theorem B139_207 (L : Nat) (V : Mv) (b : Bool) (x1 : Int) (x2 : Int)  : nxs 13 139 207 [some (.inr (.inr 120)), some (.inl x1), some (.inl x2), none, none, none] [] (M0 L V b) = some (true, 226, [some (.inr (.inr 120)), some (.inl x1), some (.inl x2), none, none, none], [.inl (oAnd x2 (oXor ((uV V 120 11 ((V 120 11) + 1)) 120 8) (-1))), .inr (.inr 120)], M0 L (uV V 120 11 ((V 120 11) + 1)) b) := by
  rfl

theorem B139_229 (L : Nat) (V : Mv) (b : Bool) (x1 : Int) (x2 : Int) (s0 : Int)  : nxs 8 139 229 [some (.inr (.inr 120)), some (.inl x1), some (.inl x2), none, none, none] [.inl s0] (M0 L V b) = some (true, 242, [some (.inr (.inr 120)), some (.inl x1), some (.inl x2), some (.inl s0), none, none], [.inl 1022, .inr (.inr 120), .inl (24 + s0), .inr (.inr 125)], M0 L V b) := by
  rfl

theorem B139_245 (L : Nat) (V : Mv) (b : Bool) (x1 : Int) (x2 : Int) (x3 : Int) (s0 : Nat) (s1 : Int) (s2 : Int) (n_s0 : Nat) (t_s0 : TT L s0 = (1, n_s0)) (g0 : 0 ≤ s1 ∧ s1 < (n_s0 : Int)) (z_s0 : s0 ≠ 0) : nxs 10 139 245 [some (.inr (.inr 120)), some (.inl x1), some (.inl x2), some (.inl x3), none, none] [.inl s2, .inl s1, .inr (.inr s0)] (M0 L V b) = some (true, 394, [some (.inr (.inr 120)), some (.inl x1), some (.inl x2), some (.inl x3), none, none], [], M0 L (uV (uV V s0 (s1).toNat s2) 120 8 (oOr ((uV V s0 (s1).toNat s2) 120 8) (oShl 1 x3))) b) := by
  have f0 : (gX (M0 L V b) s0 1 s1 && !Nat.beq s0 0) = true := gs_of (gx_of (show aT _ _ = _ from t_s0) g0) z_s0
  have hG : ((gX (M0 L V b) s0 1 s1 && !Nat.beq s0 0) && true) = true := an f0 rfl
  show some ((gX (M0 L V b) s0 1 s1 && !Nat.beq s0 0) && true, _) = _
  rw [hG]
  try rfl

theorem B139_261 (L : Nat) (V : Mv) (b : Bool) (x1 : Int) (x2 : Int) (g0 : in32 x1) : nxs 3 139 261 [some (.inr (.inr 120)), some (.inl x1), some (.inl x2), none, none, none] [] (M0 L V b) = some (true, cond (!decide (x1 = 77)) 347 267, [some (.inr (.inr 120)), some (.inl x1), some (.inl x2), none, none, none], [], M0 L V b) := by
  have f0 : (r32 x1 && r32 77) = true := rr32_of g0 (by decide)
  have hG : ((r32 x1 && r32 77) && true) = true := an f0 rfl
  show some ((r32 x1 && r32 77) && true, _) = _
  rw [hG]
  try rfl

theorem B139_267 (L : Nat) (V : Mv) (b : Bool) (x1 : Int) (x2 : Int)  : nxs 1 139 267 [some (.inr (.inr 120)), some (.inl x1), some (.inl x2), none, none, none] [] (M0 L V b) = some (true, 268, [some (.inr (.inr 120)), some (.inl x1), some (.inl x2), none, none, none], [.inr (.inr 120)], M0 L V b) := by
  rfl

theorem B139_271 (L : Nat) (V : Mv) (b : Bool) (x1 : Int) (x2 : Int) (s0 : Int) (g0 : in32 s0) : nxs 1 139 271 [some (.inr (.inr 120)), some (.inl x1), some (.inl x2), none, none, none] [.inl s0] (M0 L V b) = some (true, cond (decide (s0 = 0)) 347 274, [some (.inr (.inr 120)), some (.inl x1), some (.inl x2), none, none, none], [], M0 L V b) := by
  have f0 : r32 s0 = true := r32_of g0
  have hG : (r32 s0 && true) = true := an f0 rfl
  show some (r32 s0 && true, _) = _
  rw [hG]
  try rfl

theorem B139_274 (L : Nat) (V : Mv) (b : Bool) (x1 : Int) (x2 : Int)  : nxs 8 139 274 [some (.inr (.inr 120)), some (.inl x1), some (.inl x2), none, none, none] [] (M0 L V b) = some (true, 286, [some (.inr (.inr 120)), some (.inl x1), some (.inl x2), none, none, none], [.inr (.inr 120), .inr (.inr 120)], M0 L (uV V 120 11 ((V 120 11) + 1)) b) := by
  rfl

theorem B139_292 (L : Nat) (V : Mv) (b : Bool) (x1 : Int) (x2 : Int) (s0 : Int)  : nxs 5 139 292 [some (.inr (.inr 120)), some (.inl x1), some (.inl x2), none, none, none] [.inl s0] (M0 L V b) = some (true, 297, [some (.inr (.inr 120)), some (.inl x1), some (.inl x2), some (.inl s0), none, none], [.inl (oShr x2 1), .inr (.inr 120)], M0 L V b) := by
  rfl

theorem B139_300 (L : Nat) (V : Mv) (b : Bool) (x1 : Int) (x2 : Int) (x3 : Int) (s0 : Int)  : nxs 3 139 300 [some (.inr (.inr 120)), some (.inl x1), some (.inl x2), some (.inl x3), none, none] [.inl s0] (M0 L V b) = some (true, 306, [some (.inr (.inr 120)), some (.inl x1), some (.inl x2), some (.inl x3), some (.inl s0), none], [.inl 1023, .inr (.inr 120)], M0 L V b) := by
  rfl

theorem B139_309 (L : Nat) (V : Mv) (b : Bool) (x1 : Int) (x2 : Int) (x3 : Int) (x4 : Int) (s0 : Int)  : nxs 11 139 309 [some (.inr (.inr 120)), some (.inl x1), some (.inl x2), some (.inl x3), some (.inl x4), none] [.inl s0] (M0 L V b) = some (true, 328, [some (.inr (.inr 120)), some (.inl x1), some (.inl x2), some (.inl x3), some (.inl x4), some (.inl s0)], [.inl 1023, .inr (.inr 120), .inl (10 * s0), .inl (12 + x3), .inr (.inr 127)], M0 L V b) := by
  rfl

theorem B139_331 (L : Nat) (V : Mv) (b : Bool) (x1 : Int) (x2 : Int) (x3 : Int) (x4 : Int) (x5 : Int) (s0 : Nat) (s1 : Int) (s2 : Int) (s3 : Int) (n_s0 : Nat) (t_s0 : TT L s0 = (1, n_s0)) (g0 : 0 ≤ s1 ∧ s1 < (n_s0 : Int)) (z_s0 : s0 ≠ 0) (g1 : 0 ≤ 12 + x3 ∧ 12 + x3 < 16) : nxs 10 139 331 [some (.inr (.inr 120)), some (.inl x1), some (.inl x2), some (.inl x3), some (.inl x4), some (.inl x5)] [.inl s3, .inl s2, .inl s1, .inr (.inr s0)] (M0 L V b) = some (true, 394, [some (.inr (.inr 120)), some (.inl x1), some (.inl x2), some (.inl x3), some (.inl x4), some (.inl x5)], [], M0 L (uV (uV V s0 (s1).toNat (s2 + s3)) 126 (12 + x3).toNat x4) b) := by
  have f0 : (gX (M0 L V b) s0 1 s1 && !Nat.beq s0 0) = true := gs_of (gx_of (show aT _ _ = _ from t_s0) g0) z_s0
  have f1 : (gX (M0 L (uV V s0 (s1).toNat (s2 + s3)) b) 126 1 (12 + x3) && !Nat.beq 126 0) = true := gs_of (gx_of rfl g1) (by decide)
  have hG : ((gX (M0 L V b) s0 1 s1 && !Nat.beq s0 0) && ((gX (M0 L (uV V s0 (s1).toNat (s2 + s3)) b) 126 1 (12 + x3) && !Nat.beq 126 0) && true)) = true := an f0 (an f1 rfl)
  show some ((gX (M0 L V b) s0 1 s1 && !Nat.beq s0 0) && ((gX (M0 L (uV V s0 (s1).toNat (s2 + s3)) b) 126 1 (12 + x3) && !Nat.beq 126 0) && true), _) = _
  rw [hG]
  try rfl

theorem B139_347 (L : Nat) (V : Mv) (b : Bool) (x1 : Int) (x2 : Int) (g0 : in32 x1) : nxs 3 139 347 [some (.inr (.inr 120)), some (.inl x1), some (.inl x2), none, none, none] [] (M0 L V b) = some (true, cond (!decide (x1 = 76)) 390 353, [some (.inr (.inr 120)), some (.inl x1), some (.inl x2), none, none, none], [], M0 L V b) := by
  have f0 : (r32 x1 && r32 76) = true := rr32_of g0 (by decide)
  have hG : ((r32 x1 && r32 76) && true) = true := an f0 rfl
  show some ((r32 x1 && r32 76) && true, _) = _
  rw [hG]
  try rfl

theorem B139_353 (L : Nat) (V : Mv) (b : Bool) (x1 : Int) (x2 : Int) (g0 : in32 (V 122 (3 : Int).toNat)) : nxs 6 139 353 [some (.inr (.inr 120)), some (.inl x1), some (.inl x2), none, none, none] [] (M0 L V b) = some (true, cond (!decide (V 122 (3 : Int).toNat = (-9))) 390 364, [some (.inr (.inr 120)), some (.inl x1), some (.inl x2), none, none, none], [], M0 L V b) := by
  have f0 : gX (M0 L V b) 122 1 3 = true := gx_of rfl (by decide)
  have f1 : (r32 (V 122 (3 : Int).toNat) && r32 (-9)) = true := rr32_of g0 (by decide)
  have hG : (gX (M0 L V b) 122 1 3 && ((r32 (V 122 (3 : Int).toNat) && r32 (-9)) && true)) = true := an f0 (an f1 rfl)
  show some (gX (M0 L V b) 122 1 3 && ((r32 (V 122 (3 : Int).toNat) && r32 (-9)) && true), _) = _
  rw [hG]
  try rfl

theorem B139_364 (L : Nat) (V : Mv) (b : Bool) (x1 : Int) (x2 : Int)  : nxs 11 139 364 [some (.inr (.inr 120)), some (.inl x1), some (.inl x2), none, none, none] [] (M0 L V b) = some (true, 383, [some (.inr (.inr 120)), some (.inl x1), some (.inl x2), none, none, none], [.inl 1023, .inr (.inr 120), .inl 3, .inr (.inr 122)], M0 L (uV V 120 11 ((V 120 11) + 1)) b) := by
  rfl

theorem B139_386 (L : Nat) (V : Mv) (b : Bool) (x1 : Int) (x2 : Int) (s0 : Nat) (s1 : Int) (s2 : Int) (n_s0 : Nat) (t_s0 : TT L s0 = (1, n_s0)) (g0 : 0 ≤ s1 ∧ s1 < (n_s0 : Int)) (z_s0 : s0 ≠ 0) : nxs 2 139 386 [some (.inr (.inr 120)), some (.inl x1), some (.inl x2), none, none, none] [.inl s2, .inl s1, .inr (.inr s0)] (M0 L V b) = some (true, 394, [some (.inr (.inr 120)), some (.inl x1), some (.inl x2), none, none, none], [], M0 L (uV V s0 (s1).toNat s2) b) := by
  have f0 : (gX (M0 L V b) s0 1 s1 && !Nat.beq s0 0) = true := gs_of (gx_of (show aT _ _ = _ from t_s0) g0) z_s0
  have hG : ((gX (M0 L V b) s0 1 s1 && !Nat.beq s0 0) && true) = true := an f0 rfl
  show some ((gX (M0 L V b) s0 1 s1 && !Nat.beq s0 0) && true, _) = _
  rw [hG]
  try rfl

theorem B139_390 (L : Nat) (V : Mv) (b : Bool) (x1 : Int) (x2 : Int)  : nxs 1 139 390 [some (.inr (.inr 120)), some (.inl x1), some (.inl x2), none, none, none] [] (M0 L V b) = some (true, 391, [some (.inr (.inr 120)), some (.inl x1), some (.inl x2), none, none, none], [.inr (.inr 120)], M0 L V b) := by
  rfl

-- 140: MendedOrNewModel.openWears()I
theorem B140_0 (L : Nat) (V : Mv) (b : Bool)   : nxs 4 140 0 [some (.inr (.inr 120)), none, none] [] (M0 L V b) = some (true, 4, [some (.inr (.inr 120)), some (.inl 0), some (.inl 0)], [], M0 L V b) := by
  rfl

theorem B140_4 (L : Nat) (V : Mv) (b : Bool) (x1 : Int) (x2 : Int) (g0 : in32 (x2 + 1)) (g1 : in32 (V 121 (3 : Int).toNat)) : nxs 8 140 4 [some (.inr (.inr 120)), some (.inl x1), some (.inl x2)] [] (M0 L V b) = some (true, cond (decide (V 121 (3 : Int).toNat ≤ x2 + 1)) 40 16, [some (.inr (.inr 120)), some (.inl x1), some (.inl x2)], [], M0 L V b) := by
  have f0 : gX (M0 L V b) 121 1 3 = true := gx_of rfl (by decide)
  have f1 : (r32 (x2 + 1) && r32 (V 121 (3 : Int).toNat)) = true := rr32_of g0 g1
  have hG : (gX (M0 L V b) 121 1 3 && ((r32 (x2 + 1) && r32 (V 121 (3 : Int).toNat)) && true)) = true := an f0 (an f1 rfl)
  show some (gX (M0 L V b) 121 1 3 && ((r32 (x2 + 1) && r32 (V 121 (3 : Int).toNat)) && true), _) = _
  rw [hG]
  try rfl

theorem B140_16 (L : Nat) (V : Mv) (b : Bool) (x1 : Int) (x2 : Int)  : nxs 3 140 16 [some (.inr (.inr 120)), some (.inl x1), some (.inl x2)] [] (M0 L V b) = some (true, 19, [some (.inr (.inr 120)), some (.inl x1), some (.inl x2)], [.inl x2, .inr (.inr 120), .inl x1], M0 L V b) := by
  rfl

theorem B140_22 (L : Nat) (V : Mv) (b : Bool) (x1 : Int) (x2 : Int) (s0 : Int) (s1 : Int) (g0 : in32 s1) : nxs 1 140 22 [some (.inr (.inr 120)), some (.inl x1), some (.inl x2)] [.inl s1, .inl s0] (M0 L V b) = some (true, cond (decide (s1 = 0)) 31 25, [some (.inr (.inr 120)), some (.inl x1), some (.inl x2)], [.inl s0], M0 L V b) := by
  have f0 : r32 s1 = true := r32_of g0
  have hG : (r32 s1 && true) = true := an f0 rfl
  show some (r32 s1 && true, _) = _
  rw [hG]
  try rfl

theorem B140_25 (L : Nat) (V : Mv) (b : Bool) (x1 : Int) (x2 : Int) (s0 : Int)  : nxs 4 140 25 [some (.inr (.inr 120)), some (.inl x1), some (.inl x2)] [.inl s0] (M0 L V b) = some (true, 32, [some (.inr (.inr 120)), some (.inl x1), some (.inl x2)], [.inl (oShl 1 x2), .inl s0], M0 L V b) := by
  rfl

theorem B140_31 (L : Nat) (V : Mv) (b : Bool) (x1 : Int) (x2 : Int) (s0 : Int)  : nxs 1 140 31 [some (.inr (.inr 120)), some (.inl x1), some (.inl x2)] [.inl s0] (M0 L V b) = some (true, 32, [some (.inr (.inr 120)), some (.inl x1), some (.inl x2)], [.inl 0, .inl s0], M0 L V b) := by
  rfl

theorem B140_32 (L : Nat) (V : Mv) (b : Bool) (x1 : Int) (x2 : Int) (s0 : Int) (s1 : Int)  : nxs 4 140 32 [some (.inr (.inr 120)), some (.inl x1), some (.inl x2)] [.inl s1, .inl s0] (M0 L V b) = some (true, 4, [some (.inr (.inr 120)), some (.inl (oOr s0 s1)), some (.inl (x2 + 1))], [], M0 L V b) := by
  rfl

theorem B140_40 (L : Nat) (V : Mv) (b : Bool) (x1 : Int) (x2 : Int)  : nxs 1 140 40 [some (.inr (.inr 120)), some (.inl x1), some (.inl x2)] [] (M0 L V b) = some (true, 41, [some (.inr (.inr 120)), some (.inl x1), some (.inl x2)], [.inl x1], M0 L V b) := by
  rfl

-- 141: MendedOrNewModel.openFrom(I)I
theorem B141_0 (L : Nat) (V : Mv) (b : Bool) (x1 : Int)  : nxs 6 141 0 [some (.inr (.inr 120)), some (.inl x1), none, none] [] (M0 L V b) = some (true, 6, [some (.inr (.inr 120)), some (.inl x1), some (.inl 0), some (.inl (x1 + 1))], [], M0 L V b) := by
  rfl

theorem B141_6 (L : Nat) (V : Mv) (b : Bool) (x1 : Int) (x2 : Int) (x3 : Int) (g0 : in32 x3) (g1 : in32 (V 121 (3 : Int).toNat)) : nxs 6 141 6 [some (.inr (.inr 120)), some (.inl x1), some (.inl x2), some (.inl x3)] [] (M0 L V b) = some (true, cond (decide (V 121 (3 : Int).toNat ≤ x3)) 61 16, [some (.inr (.inr 120)), some (.inl x1), some (.inl x2), some (.inl x3)], [], M0 L V b) := by
  have f0 : gX (M0 L V b) 121 1 3 = true := gx_of rfl (by decide)
  have f1 : (r32 x3 && r32 (V 121 (3 : Int).toNat)) = true := rr32_of g0 g1
  have hG : (gX (M0 L V b) 121 1 3 && ((r32 x3 && r32 (V 121 (3 : Int).toNat)) && true)) = true := an f0 (an f1 rfl)
  show some (gX (M0 L V b) 121 1 3 && ((r32 x3 && r32 (V 121 (3 : Int).toNat)) && true), _) = _
  rw [hG]
  try rfl

theorem B141_16 (L : Nat) (V : Mv) (b : Bool) (x1 : Int) (x2 : Int) (x3 : Int)  : nxs 3 141 16 [some (.inr (.inr 120)), some (.inl x1), some (.inl x2), some (.inl x3)] [] (M0 L V b) = some (true, 19, [some (.inr (.inr 120)), some (.inl x1), some (.inl x2), some (.inl x3)], [.inl x1, .inl 3, .inr (.inr 120)], M0 L V b) := by
  rfl

theorem B141_22 (L : Nat) (V : Mv) (b : Bool) (x1 : Int) (x2 : Int) (x3 : Int) (s0 : Int) (g0 : in32 s0) : nxs 2 141 22 [some (.inr (.inr 120)), some (.inl x1), some (.inl x2), some (.inl x3)] [.inl s0] (M0 L V b) = some (true, cond (decide (10 ≤ s0)) 61 27, [some (.inr (.inr 120)), some (.inl x1), some (.inl x2), some (.inl x3)], [], M0 L V b) := by
  have f0 : (r32 s0 && r32 10) = true := rr32_of g0 (by decide)
  have hG : ((r32 s0 && r32 10) && true) = true := an f0 rfl
  show some ((r32 s0 && r32 10) && true, _) = _
  rw [hG]
  try rfl

theorem B141_27 (L : Nat) (V : Mv) (b : Bool) (x1 : Int) (x2 : Int) (x3 : Int) (g0 : 0 ≤ (192 + (8 * x1)) + x3 ∧ (192 + (8 * x1)) + x3 < 256) (g1 : in32 (V 123 ((192 + (8 * x1)) + x3).toNat)) : nxs 12 141 27 [some (.inr (.inr 120)), some (.inl x1), some (.inl x2), some (.inl x3)] [] (M0 L V b) = some (true, cond (!decide (V 123 ((192 + (8 * x1)) + x3).toNat = 0)) 52 46, [some (.inr (.inr 120)), some (.inl x1), some (.inl x2), some (.inl x3)], [.inl x2], M0 L V b) := by
  have f0 : gX (M0 L V b) 123 1 ((192 + (8 * x1)) + x3) = true := gx_of rfl g0
  have f1 : r32 (V 123 ((192 + (8 * x1)) + x3).toNat) = true := r32_of g1
  have hG : (gX (M0 L V b) 123 1 ((192 + (8 * x1)) + x3) && (r32 (V 123 ((192 + (8 * x1)) + x3).toNat) && true)) = true := an f0 (an f1 rfl)
  show some (gX (M0 L V b) 123 1 ((192 + (8 * x1)) + x3) && (r32 (V 123 ((192 + (8 * x1)) + x3).toNat) && true), _) = _
  rw [hG]
  try rfl

theorem B141_46 (L : Nat) (V : Mv) (b : Bool) (x1 : Int) (x2 : Int) (x3 : Int) (s0 : Int)  : nxs 4 141 46 [some (.inr (.inr 120)), some (.inl x1), some (.inl x2), some (.inl x3)] [.inl s0] (M0 L V b) = some (true, 53, [some (.inr (.inr 120)), some (.inl x1), some (.inl x2), some (.inl x3)], [.inl (oShl 1 x3), .inl s0], M0 L V b) := by
  rfl

theorem B141_52 (L : Nat) (V : Mv) (b : Bool) (x1 : Int) (x2 : Int) (x3 : Int) (s0 : Int)  : nxs 1 141 52 [some (.inr (.inr 120)), some (.inl x1), some (.inl x2), some (.inl x3)] [.inl s0] (M0 L V b) = some (true, 53, [some (.inr (.inr 120)), some (.inl x1), some (.inl x2), some (.inl x3)], [.inl 0, .inl s0], M0 L V b) := by
  rfl

theorem B141_53 (L : Nat) (V : Mv) (b : Bool) (x1 : Int) (x2 : Int) (x3 : Int) (s0 : Int) (s1 : Int)  : nxs 4 141 53 [some (.inr (.inr 120)), some (.inl x1), some (.inl x2), some (.inl x3)] [.inl s1, .inl s0] (M0 L V b) = some (true, 6, [some (.inr (.inr 120)), some (.inl x1), some (.inl (oOr s0 s1)), some (.inl (x3 + 1))], [], M0 L V b) := by
  rfl

theorem B141_61 (L : Nat) (V : Mv) (b : Bool) (x1 : Int) (x2 : Int) (x3 : Int)  : nxs 1 141 61 [some (.inr (.inr 120)), some (.inl x1), some (.inl x2), some (.inl x3)] [] (M0 L V b) = some (true, 62, [some (.inr (.inr 120)), some (.inl x1), some (.inl x2), some (.inl x3)], [.inl x2], M0 L V b) := by
  rfl

-- 142: MendedOrNewModel.leaves(II)I
theorem B142_0 (L : Nat) (V : Mv) (b : Bool) (x1 : Int) (x2 : Int)  : nxs 4 142 0 [some (.inr (.inr 120)), some (.inl x1), some (.inl x2), none, none] [] (M0 L V b) = some (true, 5, [some (.inr (.inr 120)), some (.inl x1), some (.inl x2), some (.inl 0), some (.inl 0)], [], M0 L V b) := by
  rfl

theorem B142_5 (L : Nat) (V : Mv) (b : Bool) (x1 : Int) (x2 : Int) (x3 : Int) (x4 : Int) (g0 : in32 x4) : nxs 3 142 5 [some (.inr (.inr 120)), some (.inl x1), some (.inl x2), some (.inl x3), some (.inl x4)] [] (M0 L V b) = some (true, cond (decide (8 ≤ x4)) 38 12, [some (.inr (.inr 120)), some (.inl x1), some (.inl x2), some (.inl x3), some (.inl x4)], [], M0 L V b) := by
  have f0 : (r32 x4 && r32 8) = true := rr32_of g0 (by decide)
  have hG : ((r32 x4 && r32 8) && true) = true := an f0 rfl
  show some ((r32 x4 && r32 8) && true, _) = _
  rw [hG]
  try rfl

theorem B142_12 (L : Nat) (V : Mv) (b : Bool) (x1 : Int) (x2 : Int) (x3 : Int) (x4 : Int) (g0 : 0 ≤ ((64 * x1) + (8 * x2)) + x4 ∧ ((64 * x1) + (8 * x2)) + x4 < 256) : nxs 17 142 12 [some (.inr (.inr 120)), some (.inl x1), some (.inl x2), some (.inl x3), some (.inl x4)] [] (M0 L V b) = some (true, 5, [some (.inr (.inr 120)), some (.inl x1), some (.inl x2), some (.inl (x3 + (V 123 (((64 * x1) + (8 * x2)) + x4).toNat))), some (.inl (x4 + 1))], [], M0 L V b) := by
  have f0 : gX (M0 L V b) 123 1 (((64 * x1) + (8 * x2)) + x4) = true := gx_of rfl g0
  have hG : (gX (M0 L V b) 123 1 (((64 * x1) + (8 * x2)) + x4) && true) = true := an f0 rfl
  show some (gX (M0 L V b) 123 1 (((64 * x1) + (8 * x2)) + x4) && true, _) = _
  rw [hG]
  try rfl

theorem B142_38 (L : Nat) (V : Mv) (b : Bool) (x1 : Int) (x2 : Int) (x3 : Int) (x4 : Int)  : nxs 1 142 38 [some (.inr (.inr 120)), some (.inl x1), some (.inl x2), some (.inl x3), some (.inl x4)] [] (M0 L V b) = some (true, 39, [some (.inr (.inr 120)), some (.inl x1), some (.inl x2), some (.inl x3), some (.inl x4)], [.inl x3], M0 L V b) := by
  rfl

-- 143: MendedOrNewModel.openMendings()I
theorem B143_0 (L : Nat) (V : Mv) (b : Bool)   : nxs 4 143 0 [some (.inr (.inr 120)), none, none] [] (M0 L V b) = some (true, 4, [some (.inr (.inr 120)), some (.inl 0), some (.inl 0)], [], M0 L V b) := by
  rfl

theorem B143_4 (L : Nat) (V : Mv) (b : Bool) (x1 : Int) (x2 : Int) (g0 : in32 x2) : nxs 3 143 4 [some (.inr (.inr 120)), some (.inl x1), some (.inl x2)] [] (M0 L V b) = some (true, cond (decide (4 ≤ x2)) 39 9, [some (.inr (.inr 120)), some (.inl x1), some (.inl x2)], [], M0 L V b) := by
  have f0 : (r32 x2 && r32 4) = true := rr32_of g0 (by decide)
  have hG : ((r32 x2 && r32 4) && true) = true := an f0 rfl
  show some ((r32 x2 && r32 4) && true, _) = _
  rw [hG]
  try rfl

theorem B143_9 (L : Nat) (V : Mv) (b : Bool) (x1 : Int) (x2 : Int) (g0 : 0 ≤ 12 + x2 ∧ 12 + x2 < 16) (g1 : in32 (V 126 (12 + x2).toNat)) : nxs 9 143 9 [some (.inr (.inr 120)), some (.inl x1), some (.inl x2)] [] (M0 L V b) = some (true, cond (!decide (V 126 (12 + x2).toNat = (-9))) 30 24, [some (.inr (.inr 120)), some (.inl x1), some (.inl x2)], [.inl x1], M0 L V b) := by
  have f0 : gX (M0 L V b) 126 1 (12 + x2) = true := gx_of rfl g0
  have f1 : (r32 (V 126 (12 + x2).toNat) && r32 (-9)) = true := rr32_of g1 (by decide)
  have hG : (gX (M0 L V b) 126 1 (12 + x2) && ((r32 (V 126 (12 + x2).toNat) && r32 (-9)) && true)) = true := an f0 (an f1 rfl)
  show some (gX (M0 L V b) 126 1 (12 + x2) && ((r32 (V 126 (12 + x2).toNat) && r32 (-9)) && true), _) = _
  rw [hG]
  try rfl

theorem B143_24 (L : Nat) (V : Mv) (b : Bool) (x1 : Int) (x2 : Int) (s0 : Int)  : nxs 4 143 24 [some (.inr (.inr 120)), some (.inl x1), some (.inl x2)] [.inl s0] (M0 L V b) = some (true, 31, [some (.inr (.inr 120)), some (.inl x1), some (.inl x2)], [.inl (oShl 1 x2), .inl s0], M0 L V b) := by
  rfl

theorem B143_30 (L : Nat) (V : Mv) (b : Bool) (x1 : Int) (x2 : Int) (s0 : Int)  : nxs 1 143 30 [some (.inr (.inr 120)), some (.inl x1), some (.inl x2)] [.inl s0] (M0 L V b) = some (true, 31, [some (.inr (.inr 120)), some (.inl x1), some (.inl x2)], [.inl 0, .inl s0], M0 L V b) := by
  rfl

theorem B143_31 (L : Nat) (V : Mv) (b : Bool) (x1 : Int) (x2 : Int) (s0 : Int) (s1 : Int)  : nxs 4 143 31 [some (.inr (.inr 120)), some (.inl x1), some (.inl x2)] [.inl s1, .inl s0] (M0 L V b) = some (true, 4, [some (.inr (.inr 120)), some (.inl (oOr s0 s1)), some (.inl (x2 + 1))], [], M0 L V b) := by
  rfl

theorem B143_39 (L : Nat) (V : Mv) (b : Bool) (x1 : Int) (x2 : Int)  : nxs 1 143 39 [some (.inr (.inr 120)), some (.inl x1), some (.inl x2)] [] (M0 L V b) = some (true, 40, [some (.inr (.inr 120)), some (.inl x1), some (.inl x2)], [.inl x1], M0 L V b) := by
  rfl

-- 144: MendedOrNewModel.make(I)I
theorem B144_0 (L : Nat) (V : Mv) (b : Bool) (x1 : Int)  : nxs 1 144 0 [some (.inr (.inr 120)), some (.inl x1), none] [] (M0 L V b) = some (true, 1, [some (.inr (.inr 120)), some (.inl x1), none], [.inl x1], M0 L V b) := by
  rfl

theorem B144_4 (L : Nat) (V : Mv) (b : Bool) (x1 : Int) (s0 : Int) (g0 : in32 s0) : nxs 1 144 4 [some (.inr (.inr 120)), some (.inl x1), none] [.inl s0] (M0 L V b) = some (true, cond (!decide (s0 = 0)) 9 7, [some (.inr (.inr 120)), some (.inl x1), none], [], M0 L V b) := by
  have f0 : r32 s0 = true := r32_of g0
  have hG : (r32 s0 && true) = true := an f0 rfl
  show some (r32 s0 && true, _) = _
  rw [hG]
  try rfl

theorem B144_7 (L : Nat) (V : Mv) (b : Bool) (x1 : Int)  : nxs 1 144 7 [some (.inr (.inr 120)), some (.inl x1), none] [] (M0 L V b) = some (true, 8, [some (.inr (.inr 120)), some (.inl x1), none], [.inl (-1)], M0 L V b) := by
  rfl

theorem B144_9 (L : Nat) (V : Mv) (b : Bool) (x1 : Int)  : nxs 1 144 9 [some (.inr (.inr 120)), some (.inl x1), none] [] (M0 L V b) = some (true, 10, [some (.inr (.inr 120)), some (.inl x1), none], [.inr (.inr 120)], M0 L V b) := by
  rfl

theorem B144_13 (L : Nat) (V : Mv) (b : Bool) (x1 : Int) (s0 : Int) (g0 : in32 s0) : nxs 2 144 13 [some (.inr (.inr 120)), some (.inl x1), none] [.inl s0] (M0 L V b) = some (true, cond (decide (s0 = (-9))) 21 18, [some (.inr (.inr 120)), some (.inl x1), none], [], M0 L V b) := by
  have f0 : (r32 s0 && r32 (-9)) = true := rr32_of g0 (by decide)
  have hG : ((r32 s0 && r32 (-9)) && true) = true := an f0 rfl
  show some ((r32 s0 && r32 (-9)) && true, _) = _
  rw [hG]
  try rfl

theorem B144_18 (L : Nat) (V : Mv) (b : Bool) (x1 : Int)  : nxs 1 144 18 [some (.inr (.inr 120)), some (.inl x1), none] [] (M0 L V b) = some (true, 20, [some (.inr (.inr 120)), some (.inl x1), none], [.inl (-3)], M0 L V b) := by
  rfl

theorem B144_21 (L : Nat) (V : Mv) (b : Bool) (x1 : Int) (g0 : 0 ≤ x1 ∧ x1 < 4) : nxs 18 144 21 [some (.inr (.inr 120)), some (.inl x1), none] [] (M0 L V b) = some (true, 47, [some (.inr (.inr 120)), some (.inl x1), some (.inl 0)], [], M0 L (uV (uV V 121 (x1).toNat (V 121 (3 : Int).toNat)) 122 (x1).toNat ((uV V 121 (x1).toNat (V 121 (3 : Int).toNat)) 122 (3 : Int).toNat)) b) := by
  have f0 : gX (M0 L V b) 121 1 3 = true := gx_of rfl (by decide)
  have f1 : (gX (M0 L V b) 121 1 x1 && !Nat.beq 121 0) = true := gs_of (gx_of rfl g0) (by decide)
  have f2 : gX (M0 L (uV V 121 (x1).toNat (V 121 (3 : Int).toNat)) b) 122 1 3 = true := gx_of rfl (by decide)
  have f3 : (gX (M0 L (uV V 121 (x1).toNat (V 121 (3 : Int).toNat)) b) 122 1 x1 && !Nat.beq 122 0) = true := gs_of (gx_of rfl g0) (by decide)
  have hG : (gX (M0 L V b) 121 1 3 && ((gX (M0 L V b) 121 1 x1 && !Nat.beq 121 0) && (gX (M0 L (uV V 121 (x1).toNat (V 121 (3 : Int).toNat)) b) 122 1 3 && ((gX (M0 L (uV V 121 (x1).toNat (V 121 (3 : Int).toNat)) b) 122 1 x1 && !Nat.beq 122 0) && true)))) = true := an f0 (an f1 (an f2 (an f3 rfl)))
  show some (gX (M0 L V b) 121 1 3 && ((gX (M0 L V b) 121 1 x1 && !Nat.beq 121 0) && (gX (M0 L (uV V 121 (x1).toNat (V 121 (3 : Int).toNat)) b) 122 1 3 && ((gX (M0 L (uV V 121 (x1).toNat (V 121 (3 : Int).toNat)) b) 122 1 x1 && !Nat.beq 122 0) && true))), _) = _
  rw [hG]
  try rfl

theorem B144_47 (L : Nat) (V : Mv) (b : Bool) (x1 : Int) (x2 : Int) (g0 : in32 x2) : nxs 3 144 47 [some (.inr (.inr 120)), some (.inl x1), some (.inl x2)] [] (M0 L V b) = some (true, cond (decide (64 ≤ x2)) 80 53, [some (.inr (.inr 120)), some (.inl x1), some (.inl x2)], [], M0 L V b) := by
  have f0 : (r32 x2 && r32 64) = true := rr32_of g0 (by decide)
  have hG : ((r32 x2 && r32 64) && true) = true := an f0 rfl
  show some ((r32 x2 && r32 64) && true, _) = _
  rw [hG]
  try rfl

theorem B144_53 (L : Nat) (V : Mv) (b : Bool) (x1 : Int) (x2 : Int) (g0 : 0 ≤ 192 + x2 ∧ 192 + x2 < 256) (g1 : 0 ≤ (64 * x1) + x2 ∧ (64 * x1) + x2 < 256) : nxs 16 144 53 [some (.inr (.inr 120)), some (.inl x1), some (.inl x2)] [] (M0 L V b) = some (true, 47, [some (.inr (.inr 120)), some (.inl x1), some (.inl (x2 + 1))], [], M0 L (uV V 123 ((64 * x1) + x2).toNat (V 123 (192 + x2).toNat)) b) := by
  have f0 : gX (M0 L V b) 123 1 (192 + x2) = true := gx_of rfl g0
  have f1 : (gX (M0 L V b) 123 1 ((64 * x1) + x2) && !Nat.beq 123 0) = true := gs_of (gx_of rfl g1) (by decide)
  have hG : (gX (M0 L V b) 123 1 (192 + x2) && ((gX (M0 L V b) 123 1 ((64 * x1) + x2) && !Nat.beq 123 0) && true)) = true := an f0 (an f1 rfl)
  show some (gX (M0 L V b) 123 1 (192 + x2) && ((gX (M0 L V b) 123 1 ((64 * x1) + x2) && !Nat.beq 123 0) && true), _) = _
  rw [hG]
  try rfl

theorem B144_80 (L : Nat) (V : Mv) (b : Bool) (x1 : Int) (x2 : Int)  : nxs 2 144 80 [some (.inr (.inr 120)), some (.inl x1), some (.inl x2)] [] (M0 L V b) = some (true, 82, [some (.inr (.inr 120)), some (.inl x1), some (.inl 0)], [], M0 L V b) := by
  rfl

theorem B144_82 (L : Nat) (V : Mv) (b : Bool) (x1 : Int) (x2 : Int) (g0 : in32 x2) : nxs 3 144 82 [some (.inr (.inr 120)), some (.inl x1), some (.inl x2)] [] (M0 L V b) = some (true, cond (decide (8 ≤ x2)) 154 88, [some (.inr (.inr 120)), some (.inl x1), some (.inl x2)], [], M0 L V b) := by
  have f0 : (r32 x2 && r32 8) = true := rr32_of g0 (by decide)
  have hG : ((r32 x2 && r32 8) && true) = true := an f0 rfl
  show some ((r32 x2 && r32 8) && true, _) = _
  rw [hG]
  try rfl

theorem B144_88 (L : Nat) (V : Mv) (b : Bool) (x1 : Int) (x2 : Int) (g0 : 0 ≤ 24 + x2 ∧ 24 + x2 < 32) (g1 : 0 ≤ (8 * x1) + x2 ∧ (8 * x1) + x2 < 32) (g2 : in32 x2) : nxs 37 144 88 [some (.inr (.inr 120)), some (.inl x1), some (.inl x2)] [] (M0 L V b) = some (true, cond (!decide (x2 = 0)) 146 142, [some (.inr (.inr 120)), some (.inl x1), some (.inl x2)], [.inl ((8 * x1) + x2), .inr (.inr 130)], M0 L (uV (uV V 124 ((8 * x1) + x2).toNat (V 124 (24 + x2).toNat)) 125 ((8 * x1) + x2).toNat ((uV V 124 ((8 * x1) + x2).toNat (V 124 (24 + x2).toNat)) 125 (24 + x2).toNat)) b) := by
  have f0 : gX (M0 L V b) 124 1 (24 + x2) = true := gx_of rfl g0
  have f1 : (gX (M0 L V b) 124 1 ((8 * x1) + x2) && !Nat.beq 124 0) = true := gs_of (gx_of rfl g1) (by decide)
  have f2 : gX (M0 L (uV V 124 ((8 * x1) + x2).toNat (V 124 (24 + x2).toNat)) b) 125 1 (24 + x2) = true := gx_of rfl g0
  have f3 : (gX (M0 L (uV V 124 ((8 * x1) + x2).toNat (V 124 (24 + x2).toNat)) b) 125 1 ((8 * x1) + x2) && !Nat.beq 125 0) = true := gs_of (gx_of rfl g1) (by decide)
  have f4 : r32 x2 = true := r32_of g2
  have hG : (gX (M0 L V b) 124 1 (24 + x2) && ((gX (M0 L V b) 124 1 ((8 * x1) + x2) && !Nat.beq 124 0) && (gX (M0 L (uV V 124 ((8 * x1) + x2).toNat (V 124 (24 + x2).toNat)) b) 125 1 (24 + x2) && ((gX (M0 L (uV V 124 ((8 * x1) + x2).toNat (V 124 (24 + x2).toNat)) b) 125 1 ((8 * x1) + x2) && !Nat.beq 125 0) && (r32 x2 && true))))) = true := an f0 (an f1 (an f2 (an f3 (an f4 rfl))))
  show some (gX (M0 L V b) 124 1 (24 + x2) && ((gX (M0 L V b) 124 1 ((8 * x1) + x2) && !Nat.beq 124 0) && (gX (M0 L (uV V 124 ((8 * x1) + x2).toNat (V 124 (24 + x2).toNat)) b) 125 1 (24 + x2) && ((gX (M0 L (uV V 124 ((8 * x1) + x2).toNat (V 124 (24 + x2).toNat)) b) 125 1 ((8 * x1) + x2) && !Nat.beq 125 0) && (r32 x2 && true)))), _) = _
  rw [hG]
  try rfl

theorem B144_142 (L : Nat) (V : Mv) (b : Bool) (x1 : Int) (x2 : Int) (s1 : Int)  : nxs 2 144 142 [some (.inr (.inr 120)), some (.inl x1), some (.inl x2)] [.inl s1, .inr (.inr 119)] (M0 L V b) = some (true, 147, [some (.inr (.inr 120)), some (.inl x1), some (.inl x2)], [.inr (.inl 1), .inl s1, .inr (.inr 119)], M0 L V b) := by
  rfl

theorem B144_146 (L : Nat) (V : Mv) (b : Bool) (x1 : Int) (x2 : Int) (s1 : Int)  : nxs 1 144 146 [some (.inr (.inr 120)), some (.inl x1), some (.inl x2)] [.inl s1, .inr (.inr 119)] (M0 L V b) = some (true, 147, [some (.inr (.inr 120)), some (.inl x1), some (.inl x2)], [.inr (.inl 0), .inl s1, .inr (.inr 119)], M0 L V b) := by
  rfl

theorem B144_147 (L : Nat) (V : Mv) (b : Bool) (x1 : Int) (x2 : Int) (s1 : Int) (s2 : Int) (g0 : 0 ≤ s1 ∧ s1 < 8) : nxs 3 144 147 [some (.inr (.inr 120)), some (.inl x1), some (.inl x2)] [.inr (.inl s2), .inl s1, .inr (.inr 119)] (M0 L V b) = some (true, 82, [some (.inr (.inr 120)), some (.inl x1), some (.inl (x2 + 1))], [], M0 L (uV V 119 (s1).toNat s2) b) := by
  have f0 : (gX (M0 L V b) 119 2 s1 && !Nat.beq 119 0) = true := gs_of (gx_of rfl g0) (by decide)
  have hG : ((gX (M0 L V b) 119 2 s1 && !Nat.beq 119 0) && true) = true := an f0 rfl
  show some ((gX (M0 L V b) 119 2 s1 && !Nat.beq 119 0) && true, _) = _
  rw [hG]
  try rfl

theorem B144_154 (L : Nat) (V : Mv) (b : Bool) (x1 : Int) (x2 : Int)  : nxs 2 144 154 [some (.inr (.inr 120)), some (.inl x1), some (.inl x2)] [] (M0 L V b) = some (true, 156, [some (.inr (.inr 120)), some (.inl x1), some (.inl 0)], [], M0 L V b) := by
  rfl

theorem B144_156 (L : Nat) (V : Mv) (b : Bool) (x1 : Int) (x2 : Int) (g0 : in32 x2) : nxs 3 144 156 [some (.inr (.inr 120)), some (.inl x1), some (.inl x2)] [] (M0 L V b) = some (true, cond (decide (4 ≤ x2)) 205 161, [some (.inr (.inr 120)), some (.inl x1), some (.inl x2)], [], M0 L V b) := by
  have f0 : (r32 x2 && r32 4) = true := rr32_of g0 (by decide)
  have hG : ((r32 x2 && r32 4) && true) = true := an f0 rfl
  show some ((r32 x2 && r32 4) && true, _) = _
  rw [hG]
  try rfl

theorem B144_161 (L : Nat) (V : Mv) (b : Bool) (x1 : Int) (x2 : Int) (g0 : 0 ≤ 12 + x2 ∧ 12 + x2 < 16) (g1 : 0 ≤ (4 * x1) + x2 ∧ (4 * x1) + x2 < 16) : nxs 30 144 161 [some (.inr (.inr 120)), some (.inl x1), some (.inl x2)] [] (M0 L V b) = some (true, 156, [some (.inr (.inr 120)), some (.inl x1), some (.inl (x2 + 1))], [], M0 L (uV (uV V 126 ((4 * x1) + x2).toNat (V 126 (12 + x2).toNat)) 127 ((4 * x1) + x2).toNat ((uV V 126 ((4 * x1) + x2).toNat (V 126 (12 + x2).toNat)) 127 (12 + x2).toNat)) b) := by
  have f0 : gX (M0 L V b) 126 1 (12 + x2) = true := gx_of rfl g0
  have f1 : (gX (M0 L V b) 126 1 ((4 * x1) + x2) && !Nat.beq 126 0) = true := gs_of (gx_of rfl g1) (by decide)
  have f2 : gX (M0 L (uV V 126 ((4 * x1) + x2).toNat (V 126 (12 + x2).toNat)) b) 127 1 (12 + x2) = true := gx_of rfl g0
  have f3 : (gX (M0 L (uV V 126 ((4 * x1) + x2).toNat (V 126 (12 + x2).toNat)) b) 127 1 ((4 * x1) + x2) && !Nat.beq 127 0) = true := gs_of (gx_of rfl g1) (by decide)
  have hG : (gX (M0 L V b) 126 1 (12 + x2) && ((gX (M0 L V b) 126 1 ((4 * x1) + x2) && !Nat.beq 126 0) && (gX (M0 L (uV V 126 ((4 * x1) + x2).toNat (V 126 (12 + x2).toNat)) b) 127 1 (12 + x2) && ((gX (M0 L (uV V 126 ((4 * x1) + x2).toNat (V 126 (12 + x2).toNat)) b) 127 1 ((4 * x1) + x2) && !Nat.beq 127 0) && true)))) = true := an f0 (an f1 (an f2 (an f3 rfl)))
  show some (gX (M0 L V b) 126 1 (12 + x2) && ((gX (M0 L V b) 126 1 ((4 * x1) + x2) && !Nat.beq 126 0) && (gX (M0 L (uV V 126 ((4 * x1) + x2).toNat (V 126 (12 + x2).toNat)) b) 127 1 (12 + x2) && ((gX (M0 L (uV V 126 ((4 * x1) + x2).toNat (V 126 (12 + x2).toNat)) b) 127 1 ((4 * x1) + x2) && !Nat.beq 127 0) && true))), _) = _
  rw [hG]
  try rfl

theorem B144_205 (L : Nat) (V : Mv) (b : Bool) (x1 : Int) (x2 : Int) (g0 : 0 ≤ x1 ∧ x1 < 3) (g1 : 0 ≤ x1 ∧ x1 < 4) : nxs 12 144 205 [some (.inr (.inr 120)), some (.inl x1), some (.inl x2)] [] (M0 L V b) = some (true, 221, [some (.inr (.inr 120)), some (.inl x1), some (.inl x2)], [.inl ((uV V 129 (x1).toNat ((V 129 (x1).toNat) + 1)) 121 (x1).toNat)], M0 L (uV V 129 (x1).toNat ((V 129 (x1).toNat) + 1)) b) := by
  have f0 : gX (M0 L V b) 129 1 x1 = true := gx_of rfl g0
  have f1 : (gX (M0 L V b) 129 1 x1 && !Nat.beq 129 0) = true := gs_of (gx_of rfl g0) (by decide)
  have f2 : gX (M0 L (uV V 129 (x1).toNat ((V 129 (x1).toNat) + 1)) b) 121 1 x1 = true := gx_of rfl g1
  have hG : (gX (M0 L V b) 129 1 x1 && ((gX (M0 L V b) 129 1 x1 && !Nat.beq 129 0) && (gX (M0 L (uV V 129 (x1).toNat ((V 129 (x1).toNat) + 1)) b) 121 1 x1 && true))) = true := an f0 (an f1 (an f2 rfl))
  show some (gX (M0 L V b) 129 1 x1 && ((gX (M0 L V b) 129 1 x1 && !Nat.beq 129 0) && (gX (M0 L (uV V 129 (x1).toNat ((V 129 (x1).toNat) + 1)) b) 121 1 x1 && true)), _) = _
  rw [hG]
  try rfl

-- 145: MendedOrNewModel.isMachine(I)Z
theorem B145_0 (L : Nat) (V : Mv) (b : Bool) (x0 : Int) (g0 : in32 x0) : nxs 4 145 0 [some (.inl x0)] [] (M0 L V b) = some (true, 6, [some (.inl x0)], [.inr (.inl 2), .inr (.inl 0), .inr (.inl x0)], M0 L V b) := by
  have f0 : r32 x0 = true := r32_of g0
  have hG : (r32 x0 && true) = true := an f0 rfl
  show some (r32 x0 && true, _) = _
  rw [hG]
  try rfl

-- 146: MendedOrNewModel.about(II)I
theorem B146_0 (L : Nat) (V : Mv) (b : Bool) (x1 : Int) (x2 : Int)  : nxs 1 146 0 [some (.inr (.inr 120)), some (.inl x1), some (.inl x2)] [] (M0 L V b) = some (true, 1, [some (.inr (.inr 120)), some (.inl x1), some (.inl x2)], [.inl x1], M0 L V b) := by
  rfl

theorem B146_4 (L : Nat) (V : Mv) (b : Bool) (x1 : Int) (x2 : Int) (s0 : Int) (g0 : in32 s0) : nxs 1 146 4 [some (.inr (.inr 120)), some (.inl x1), some (.inl x2)] [.inl s0] (M0 L V b) = some (true, cond (!decide (s0 = 0)) 9 7, [some (.inr (.inr 120)), some (.inl x1), some (.inl x2)], [], M0 L V b) := by
  have f0 : r32 s0 = true := r32_of g0
  have hG : (r32 s0 && true) = true := an f0 rfl
  show some (r32 s0 && true, _) = _
  rw [hG]
  try rfl

theorem B146_7 (L : Nat) (V : Mv) (b : Bool) (x1 : Int) (x2 : Int)  : nxs 1 146 7 [some (.inr (.inr 120)), some (.inl x1), some (.inl x2)] [] (M0 L V b) = some (true, 8, [some (.inr (.inr 120)), some (.inl x1), some (.inl x2)], [.inl (-1)], M0 L V b) := by
  rfl

theorem B146_9 (L : Nat) (V : Mv) (b : Bool) (x1 : Int) (x2 : Int) (g0 : in32 x2) : nxs 2 146 9 [some (.inr (.inr 120)), some (.inl x1), some (.inl x2)] [] (M0 L V b) = some (true, cond (!decide (x2 = 0)) 22 13, [some (.inr (.inr 120)), some (.inl x1), some (.inl x2)], [], M0 L V b) := by
  have f0 : r32 x2 = true := r32_of g0
  have hG : (r32 x2 && true) = true := an f0 rfl
  show some (r32 x2 && true, _) = _
  rw [hG]
  try rfl

theorem B146_13 (L : Nat) (V : Mv) (b : Bool) (x1 : Int) (x2 : Int) (g0 : 0 ≤ x1 ∧ x1 < 4) : nxs 5 146 13 [some (.inr (.inr 120)), some (.inl x1), some (.inl x2)] [] (M0 L V b) = some (true, 51, [some (.inr (.inr 120)), some (.inl x1), some (.inl x2)], [.inl (V 121 (x1).toNat)], M0 L V b) := by
  have f0 : gX (M0 L V b) 121 1 x1 = true := gx_of rfl g0
  have hG : (gX (M0 L V b) 121 1 x1 && true) = true := an f0 rfl
  show some (gX (M0 L V b) 121 1 x1 && true, _) = _
  rw [hG]
  try rfl

theorem B146_22 (L : Nat) (V : Mv) (b : Bool) (x1 : Int) (x2 : Int) (g0 : in32 x2) : nxs 3 146 22 [some (.inr (.inr 120)), some (.inl x1), some (.inl x2)] [] (M0 L V b) = some (true, cond (!decide (x2 = 1)) 36 27, [some (.inr (.inr 120)), some (.inl x1), some (.inl x2)], [], M0 L V b) := by
  have f0 : (r32 x2 && r32 1) = true := rr32_of g0 (by decide)
  have hG : ((r32 x2 && r32 1) && true) = true := an f0 rfl
  show some ((r32 x2 && r32 1) && true, _) = _
  rw [hG]
  try rfl

theorem B146_27 (L : Nat) (V : Mv) (b : Bool) (x1 : Int) (x2 : Int) (g0 : 0 ≤ x1 ∧ x1 < 4) : nxs 5 146 27 [some (.inr (.inr 120)), some (.inl x1), some (.inl x2)] [] (M0 L V b) = some (true, 51, [some (.inr (.inr 120)), some (.inl x1), some (.inl x2)], [.inl (V 122 (x1).toNat)], M0 L V b) := by
  have f0 : gX (M0 L V b) 122 1 x1 = true := gx_of rfl g0
  have hG : (gX (M0 L V b) 122 1 x1 && true) = true := an f0 rfl
  show some (gX (M0 L V b) 122 1 x1 && true, _) = _
  rw [hG]
  try rfl

theorem B146_36 (L : Nat) (V : Mv) (b : Bool) (x1 : Int) (x2 : Int) (g0 : in32 x2) : nxs 3 146 36 [some (.inr (.inr 120)), some (.inl x1), some (.inl x2)] [] (M0 L V b) = some (true, cond (!decide (x2 = 2)) 49 41, [some (.inr (.inr 120)), some (.inl x1), some (.inl x2)], [], M0 L V b) := by
  have f0 : (r32 x2 && r32 2) = true := rr32_of g0 (by decide)
  have hG : ((r32 x2 && r32 2) && true) = true := an f0 rfl
  show some ((r32 x2 && r32 2) && true, _) = _
  rw [hG]
  try rfl

theorem B146_41 (L : Nat) (V : Mv) (b : Bool) (x1 : Int) (x2 : Int)  : nxs 2 146 41 [some (.inr (.inr 120)), some (.inl x1), some (.inl x2)] [] (M0 L V b) = some (true, 43, [some (.inr (.inr 120)), some (.inl x1), some (.inl x2)], [.inl x1, .inr (.inr 120)], M0 L V b) := by
  rfl

theorem B146_46 (L : Nat) (V : Mv) (b : Bool) (x1 : Int) (x2 : Int) (s0 : Int)  : nxs 1 146 46 [some (.inr (.inr 120)), some (.inl x1), some (.inl x2)] [.inl s0] (M0 L V b) = some (true, 51, [some (.inr (.inr 120)), some (.inl x1), some (.inl x2)], [.inl s0], M0 L V b) := by
  rfl

theorem B146_49 (L : Nat) (V : Mv) (b : Bool) (x1 : Int) (x2 : Int)  : nxs 1 146 49 [some (.inr (.inr 120)), some (.inl x1), some (.inl x2)] [] (M0 L V b) = some (true, 51, [some (.inr (.inr 120)), some (.inl x1), some (.inl x2)], [.inl (-2)], M0 L V b) := by
  rfl

-- 147: MendedOrNewModel.mendings(I)I
theorem B147_0 (L : Nat) (V : Mv) (b : Bool) (x1 : Int)  : nxs 4 147 0 [some (.inr (.inr 120)), some (.inl x1), none, none] [] (M0 L V b) = some (true, 4, [some (.inr (.inr 120)), some (.inl x1), some (.inl 0), some (.inl 0)], [], M0 L V b) := by
  rfl

theorem B147_4 (L : Nat) (V : Mv) (b : Bool) (x1 : Int) (x2 : Int) (x3 : Int) (g0 : in32 x3) : nxs 3 147 4 [some (.inr (.inr 120)), some (.inl x1), some (.inl x2), some (.inl x3)] [] (M0 L V b) = some (true, cond (decide (4 ≤ x3)) 40 9, [some (.inr (.inr 120)), some (.inl x1), some (.inl x2), some (.inl x3)], [], M0 L V b) := by
  have f0 : (r32 x3 && r32 4) = true := rr32_of g0 (by decide)
  have hG : ((r32 x3 && r32 4) && true) = true := an f0 rfl
  show some ((r32 x3 && r32 4) && true, _) = _
  rw [hG]
  try rfl

theorem B147_9 (L : Nat) (V : Mv) (b : Bool) (x1 : Int) (x2 : Int) (x3 : Int) (g0 : 0 ≤ (4 * x1) + x3 ∧ (4 * x1) + x3 < 16) (g1 : in32 (V 126 ((4 * x1) + x3).toNat)) : nxs 11 147 9 [some (.inr (.inr 120)), some (.inl x1), some (.inl x2), some (.inl x3)] [] (M0 L V b) = some (true, cond (decide (V 126 ((4 * x1) + x3).toNat = (-9))) 31 25, [some (.inr (.inr 120)), some (.inl x1), some (.inl x2), some (.inl x3)], [.inl x2], M0 L V b) := by
  have f0 : gX (M0 L V b) 126 1 ((4 * x1) + x3) = true := gx_of rfl g0
  have f1 : (r32 (V 126 ((4 * x1) + x3).toNat) && r32 (-9)) = true := rr32_of g1 (by decide)
  have hG : (gX (M0 L V b) 126 1 ((4 * x1) + x3) && ((r32 (V 126 ((4 * x1) + x3).toNat) && r32 (-9)) && true)) = true := an f0 (an f1 rfl)
  show some (gX (M0 L V b) 126 1 ((4 * x1) + x3) && ((r32 (V 126 ((4 * x1) + x3).toNat) && r32 (-9)) && true), _) = _
  rw [hG]
  try rfl

theorem B147_25 (L : Nat) (V : Mv) (b : Bool) (x1 : Int) (x2 : Int) (x3 : Int) (s0 : Int)  : nxs 4 147 25 [some (.inr (.inr 120)), some (.inl x1), some (.inl x2), some (.inl x3)] [.inl s0] (M0 L V b) = some (true, 32, [some (.inr (.inr 120)), some (.inl x1), some (.inl x2), some (.inl x3)], [.inl (oShl 1 x3), .inl s0], M0 L V b) := by
  rfl

theorem B147_31 (L : Nat) (V : Mv) (b : Bool) (x1 : Int) (x2 : Int) (x3 : Int) (s0 : Int)  : nxs 1 147 31 [some (.inr (.inr 120)), some (.inl x1), some (.inl x2), some (.inl x3)] [.inl s0] (M0 L V b) = some (true, 32, [some (.inr (.inr 120)), some (.inl x1), some (.inl x2), some (.inl x3)], [.inl 0, .inl s0], M0 L V b) := by
  rfl

theorem B147_32 (L : Nat) (V : Mv) (b : Bool) (x1 : Int) (x2 : Int) (x3 : Int) (s0 : Int) (s1 : Int)  : nxs 4 147 32 [some (.inr (.inr 120)), some (.inl x1), some (.inl x2), some (.inl x3)] [.inl s1, .inl s0] (M0 L V b) = some (true, 4, [some (.inr (.inr 120)), some (.inl x1), some (.inl (oOr s0 s1)), some (.inl (x3 + 1))], [], M0 L V b) := by
  rfl

theorem B147_40 (L : Nat) (V : Mv) (b : Bool) (x1 : Int) (x2 : Int) (x3 : Int)  : nxs 1 147 40 [some (.inr (.inr 120)), some (.inl x1), some (.inl x2), some (.inl x3)] [] (M0 L V b) = some (true, 41, [some (.inr (.inr 120)), some (.inl x1), some (.inl x2), some (.inl x3)], [.inl x2], M0 L V b) := by
  rfl

-- 148: MendedOrNewModel.worn(III)I
theorem B148_0 (L : Nat) (V : Mv) (b : Bool) (x1 : Int) (x2 : Int) (x3 : Int)  : nxs 3 148 0 [some (.inr (.inr 120)), some (.inl x1), some (.inl x2), some (.inl x3)] [] (M0 L V b) = some (true, 3, [some (.inr (.inr 120)), some (.inl x1), some (.inl x2), some (.inl x3)], [.inl x2, .inl x1, .inr (.inr 120)], M0 L V b) := by
  rfl

theorem B148_6 (L : Nat) (V : Mv) (b : Bool) (x1 : Int) (x2 : Int) (x3 : Int) (s0 : Int) (g0 : in32 s0) : nxs 1 148 6 [some (.inr (.inr 120)), some (.inl x1), some (.inl x2), some (.inl x3)] [.inl s0] (M0 L V b) = some (true, cond (!decide (s0 = 0)) 11 9, [some (.inr (.inr 120)), some (.inl x1), some (.inl x2), some (.inl x3)], [], M0 L V b) := by
  have f0 : r32 s0 = true := r32_of g0
  have hG : (r32 s0 && true) = true := an f0 rfl
  show some (r32 s0 && true, _) = _
  rw [hG]
  try rfl

theorem B148_9 (L : Nat) (V : Mv) (b : Bool) (x1 : Int) (x2 : Int) (x3 : Int)  : nxs 1 148 9 [some (.inr (.inr 120)), some (.inl x1), some (.inl x2), some (.inl x3)] [] (M0 L V b) = some (true, 10, [some (.inr (.inr 120)), some (.inl x1), some (.inl x2), some (.inl x3)], [.inl (-1)], M0 L V b) := by
  rfl

theorem B148_11 (L : Nat) (V : Mv) (b : Bool) (x1 : Int) (x2 : Int) (x3 : Int) (g0 : in32 x3) : nxs 2 148 11 [some (.inr (.inr 120)), some (.inl x1), some (.inl x2), some (.inl x3)] [] (M0 L V b) = some (true, cond (!decide (x3 = 0)) 29 15, [some (.inr (.inr 120)), some (.inl x1), some (.inl x2), some (.inl x3)], [], M0 L V b) := by
  have f0 : r32 x3 = true := r32_of g0
  have hG : (r32 x3 && true) = true := an f0 rfl
  show some (r32 x3 && true, _) = _
  rw [hG]
  try rfl

theorem B148_15 (L : Nat) (V : Mv) (b : Bool) (x1 : Int) (x2 : Int) (x3 : Int) (g0 : 0 ≤ (8 * x1) + x2 ∧ (8 * x1) + x2 < 32) : nxs 9 148 15 [some (.inr (.inr 120)), some (.inl x1), some (.inl x2), some (.inl x3)] [] (M0 L V b) = some (true, 64, [some (.inr (.inr 120)), some (.inl x1), some (.inl x2), some (.inl x3)], [.inl (V 124 ((8 * x1) + x2).toNat)], M0 L V b) := by
  have f0 : gX (M0 L V b) 124 1 ((8 * x1) + x2) = true := gx_of rfl g0
  have hG : (gX (M0 L V b) 124 1 ((8 * x1) + x2) && true) = true := an f0 rfl
  show some (gX (M0 L V b) 124 1 ((8 * x1) + x2) && true, _) = _
  rw [hG]
  try rfl

theorem B148_29 (L : Nat) (V : Mv) (b : Bool) (x1 : Int) (x2 : Int) (x3 : Int) (g0 : in32 x3) : nxs 3 148 29 [some (.inr (.inr 120)), some (.inl x1), some (.inl x2), some (.inl x3)] [] (M0 L V b) = some (true, cond (!decide (x3 = 1)) 48 34, [some (.inr (.inr 120)), some (.inl x1), some (.inl x2), some (.inl x3)], [], M0 L V b) := by
  have f0 : (r32 x3 && r32 1) = true := rr32_of g0 (by decide)
  have hG : ((r32 x3 && r32 1) && true) = true := an f0 rfl
  show some ((r32 x3 && r32 1) && true, _) = _
  rw [hG]
  try rfl

theorem B148_34 (L : Nat) (V : Mv) (b : Bool) (x1 : Int) (x2 : Int) (x3 : Int) (g0 : 0 ≤ (8 * x1) + x2 ∧ (8 * x1) + x2 < 32) : nxs 9 148 34 [some (.inr (.inr 120)), some (.inl x1), some (.inl x2), some (.inl x3)] [] (M0 L V b) = some (true, 64, [some (.inr (.inr 120)), some (.inl x1), some (.inl x2), some (.inl x3)], [.inl (V 125 ((8 * x1) + x2).toNat)], M0 L V b) := by
  have f0 : gX (M0 L V b) 125 1 ((8 * x1) + x2) = true := gx_of rfl g0
  have hG : (gX (M0 L V b) 125 1 ((8 * x1) + x2) && true) = true := an f0 rfl
  show some (gX (M0 L V b) 125 1 ((8 * x1) + x2) && true, _) = _
  rw [hG]
  try rfl

theorem B148_48 (L : Nat) (V : Mv) (b : Bool) (x1 : Int) (x2 : Int) (x3 : Int) (g0 : in32 x3) : nxs 3 148 48 [some (.inr (.inr 120)), some (.inl x1), some (.inl x2), some (.inl x3)] [] (M0 L V b) = some (true, cond (!decide (x3 = 2)) 62 53, [some (.inr (.inr 120)), some (.inl x1), some (.inl x2), some (.inl x3)], [], M0 L V b) := by
  have f0 : (r32 x3 && r32 2) = true := rr32_of g0 (by decide)
  have hG : ((r32 x3 && r32 2) && true) = true := an f0 rfl
  show some ((r32 x3 && r32 2) && true, _) = _
  rw [hG]
  try rfl

theorem B148_53 (L : Nat) (V : Mv) (b : Bool) (x1 : Int) (x2 : Int) (x3 : Int)  : nxs 3 148 53 [some (.inr (.inr 120)), some (.inl x1), some (.inl x2), some (.inl x3)] [] (M0 L V b) = some (true, 56, [some (.inr (.inr 120)), some (.inl x1), some (.inl x2), some (.inl x3)], [.inl x2, .inl x1, .inr (.inr 120)], M0 L V b) := by
  rfl

theorem B148_59 (L : Nat) (V : Mv) (b : Bool) (x1 : Int) (x2 : Int) (x3 : Int) (s0 : Int)  : nxs 1 148 59 [some (.inr (.inr 120)), some (.inl x1), some (.inl x2), some (.inl x3)] [.inl s0] (M0 L V b) = some (true, 64, [some (.inr (.inr 120)), some (.inl x1), some (.inl x2), some (.inl x3)], [.inl s0], M0 L V b) := by
  rfl

theorem B148_62 (L : Nat) (V : Mv) (b : Bool) (x1 : Int) (x2 : Int) (x3 : Int)  : nxs 1 148 62 [some (.inr (.inr 120)), some (.inl x1), some (.inl x2), some (.inl x3)] [] (M0 L V b) = some (true, 64, [some (.inr (.inr 120)), some (.inl x1), some (.inl x2), some (.inl x3)], [.inl (-2)], M0 L V b) := by
  rfl

-- 149: MendedOrNewModel.isWear(II)Z
theorem B149_0 (L : Nat) (V : Mv) (b : Bool) (x1 : Int) (x2 : Int)  : nxs 1 149 0 [some (.inr (.inr 120)), some (.inl x1), some (.inl x2)] [] (M0 L V b) = some (true, 1, [some (.inr (.inr 120)), some (.inl x1), some (.inl x2)], [.inl x1], M0 L V b) := by
  rfl

theorem B149_4 (L : Nat) (V : Mv) (b : Bool) (x1 : Int) (x2 : Int) (s0 : Int) (g0 : in32 s0) : nxs 1 149 4 [some (.inr (.inr 120)), some (.inl x1), some (.inl x2)] [.inl s0] (M0 L V b) = some (true, cond (decide (s0 = 0)) 29 7, [some (.inr (.inr 120)), some (.inl x1), some (.inl x2)], [], M0 L V b) := by
  have f0 : r32 s0 = true := r32_of g0
  have hG : (r32 s0 && true) = true := an f0 rfl
  show some (r32 s0 && true, _) = _
  rw [hG]
  try rfl

theorem B149_7 (L : Nat) (V : Mv) (b : Bool) (x1 : Int) (x2 : Int) (g0 : in32 x2) (g1 : 0 ≤ x1 ∧ x1 < 4) (g2 : in32 ((V 121 (x1).toNat) - 1)) : nxs 10 149 7 [some (.inr (.inr 120)), some (.inl x1), some (.inl x2)] [] (M0 L V b) = some (true, 19, [some (.inr (.inr 120)), some (.inl x1), some (.inl x2)], [.inr (.inl ((V 121 (x1).toNat) - 1)), .inr (.inl 0), .inr (.inl x2)], M0 L V b) := by
  have f0 : r32 x2 = true := r32_of g0
  have f1 : gX (M0 L V b) 121 1 x1 = true := gx_of rfl g1
  have f2 : r32 ((V 121 (x1).toNat) - 1) = true := r32_of g2
  have hG : (r32 x2 && (gX (M0 L V b) 121 1 x1 && (r32 ((V 121 (x1).toNat) - 1) && true))) = true := an f0 (an f1 (an f2 rfl))
  show some (r32 x2 && (gX (M0 L V b) 121 1 x1 && (r32 ((V 121 (x1).toNat) - 1) && true)), _) = _
  rw [hG]
  try rfl

theorem B149_22 (L : Nat) (V : Mv) (b : Bool) (x1 : Int) (x2 : Int) (s0 : Int) (g0 : in32 s0) : nxs 1 149 22 [some (.inr (.inr 120)), some (.inl x1), some (.inl x2)] [.inl s0] (M0 L V b) = some (true, cond (decide (s0 = 0)) 29 25, [some (.inr (.inr 120)), some (.inl x1), some (.inl x2)], [], M0 L V b) := by
  have f0 : r32 s0 = true := r32_of g0
  have hG : (r32 s0 && true) = true := an f0 rfl
  show some (r32 s0 && true, _) = _
  rw [hG]
  try rfl

theorem B149_25 (L : Nat) (V : Mv) (b : Bool) (x1 : Int) (x2 : Int)  : nxs 2 149 25 [some (.inr (.inr 120)), some (.inl x1), some (.inl x2)] [] (M0 L V b) = some (true, 30, [some (.inr (.inr 120)), some (.inl x1), some (.inl x2)], [.inl 1], M0 L V b) := by
  rfl

theorem B149_29 (L : Nat) (V : Mv) (b : Bool) (x1 : Int) (x2 : Int)  : nxs 1 149 29 [some (.inr (.inr 120)), some (.inl x1), some (.inl x2)] [] (M0 L V b) = some (true, 30, [some (.inr (.inr 120)), some (.inl x1), some (.inl x2)], [.inl 0], M0 L V b) := by
  rfl

-- 150: MendedOrNewModel.goes(III)I
theorem B150_0 (L : Nat) (V : Mv) (b : Bool) (x1 : Int) (x2 : Int) (x3 : Int)  : nxs 3 150 0 [some (.inr (.inr 120)), some (.inl x1), some (.inl x2), some (.inl x3)] [] (M0 L V b) = some (true, 3, [some (.inr (.inr 120)), some (.inl x1), some (.inl x2), some (.inl x3)], [.inl x2, .inl x1, .inr (.inr 120)], M0 L V b) := by
  rfl

theorem B150_6 (L : Nat) (V : Mv) (b : Bool) (x1 : Int) (x2 : Int) (x3 : Int) (s0 : Int) (g0 : in32 s0) : nxs 1 150 6 [some (.inr (.inr 120)), some (.inl x1), some (.inl x2), some (.inl x3)] [.inl s0] (M0 L V b) = some (true, cond (decide (s0 = 0)) 28 9, [some (.inr (.inr 120)), some (.inl x1), some (.inl x2), some (.inl x3)], [], M0 L V b) := by
  have f0 : r32 s0 = true := r32_of g0
  have hG : (r32 s0 && true) = true := an f0 rfl
  show some (r32 s0 && true, _) = _
  rw [hG]
  try rfl

theorem B150_9 (L : Nat) (V : Mv) (b : Bool) (x1 : Int) (x2 : Int) (x3 : Int)  : nxs 3 150 9 [some (.inr (.inr 120)), some (.inl x1), some (.inl x2), some (.inl x3)] [] (M0 L V b) = some (true, 12, [some (.inr (.inr 120)), some (.inl x1), some (.inl x2), some (.inl x3)], [.inl x3, .inl x1, .inr (.inr 120)], M0 L V b) := by
  rfl

theorem B150_15 (L : Nat) (V : Mv) (b : Bool) (x1 : Int) (x2 : Int) (x3 : Int) (s0 : Int) (g0 : in32 s0) : nxs 1 150 15 [some (.inr (.inr 120)), some (.inl x1), some (.inl x2), some (.inl x3)] [.inl s0] (M0 L V b) = some (true, cond (decide (s0 = 0)) 28 18, [some (.inr (.inr 120)), some (.inl x1), some (.inl x2), some (.inl x3)], [], M0 L V b) := by
  have f0 : r32 s0 = true := r32_of g0
  have hG : (r32 s0 && true) = true := an f0 rfl
  show some (r32 s0 && true, _) = _
  rw [hG]
  try rfl

theorem B150_18 (L : Nat) (V : Mv) (b : Bool) (x1 : Int) (x2 : Int) (x3 : Int)  : nxs 4 150 18 [some (.inr (.inr 120)), some (.inl x1), some (.inl x2), some (.inl x3)] [] (M0 L V b) = some (true, 22, [some (.inr (.inr 120)), some (.inl x1), some (.inl x2), some (.inl x3)], [.inl x3, .inl x2, .inl x1, .inr (.inr 120)], M0 L V b) := by
  rfl

theorem B150_25 (L : Nat) (V : Mv) (b : Bool) (x1 : Int) (x2 : Int) (x3 : Int) (s0 : Int)  : nxs 1 150 25 [some (.inr (.inr 120)), some (.inl x1), some (.inl x2), some (.inl x3)] [.inl s0] (M0 L V b) = some (true, 29, [some (.inr (.inr 120)), some (.inl x1), some (.inl x2), some (.inl x3)], [.inl s0], M0 L V b) := by
  rfl

theorem B150_28 (L : Nat) (V : Mv) (b : Bool) (x1 : Int) (x2 : Int) (x3 : Int)  : nxs 1 150 28 [some (.inr (.inr 120)), some (.inl x1), some (.inl x2), some (.inl x3)] [] (M0 L V b) = some (true, 29, [some (.inr (.inr 120)), some (.inl x1), some (.inl x2), some (.inl x3)], [.inl (-1)], M0 L V b) := by
  rfl

-- 151: MendedOrNewModel.goesOf(III)I
theorem B151_0 (L : Nat) (V : Mv) (b : Bool) (x1 : Int) (x2 : Int) (x3 : Int) (g0 : in32 x2) (g1 : in32 x3) : nxs 3 151 0 [some (.inr (.inr 120)), some (.inl x1), some (.inl x2), some (.inl x3)] [] (M0 L V b) = some (true, cond (!decide (x2 = x3)) 17 5, [some (.inr (.inr 120)), some (.inl x1), some (.inl x2), some (.inl x3)], [], M0 L V b) := by
  have f0 : (r32 x2 && r32 x3) = true := rr32_of g0 g1
  have hG : ((r32 x2 && r32 x3) && true) = true := an f0 rfl
  show some ((r32 x2 && r32 x3) && true, _) = _
  rw [hG]
  try rfl

theorem B151_5 (L : Nat) (V : Mv) (b : Bool) (x1 : Int) (x2 : Int) (x3 : Int)  : nxs 4 151 5 [some (.inr (.inr 120)), some (.inl x1), some (.inl x2), some (.inl x3)] [] (M0 L V b) = some (true, 10, [some (.inr (.inr 120)), some (.inl x1), some (.inl x2), some (.inl x3)], [.inl x2, .inl x1, .inr (.inr 120), .inl 10], M0 L V b) := by
  rfl

theorem B151_13 (L : Nat) (V : Mv) (b : Bool) (x1 : Int) (x2 : Int) (x3 : Int) (s0 : Int) (s1 : Int)  : nxs 2 151 13 [some (.inr (.inr 120)), some (.inl x1), some (.inl x2), some (.inl x3)] [.inl s1, .inl s0] (M0 L V b) = some (true, 33, [some (.inr (.inr 120)), some (.inl x1), some (.inl x2), some (.inl x3)], [.inl (s0 - s1)], M0 L V b) := by
  rfl

theorem B151_17 (L : Nat) (V : Mv) (b : Bool) (x1 : Int) (x2 : Int) (x3 : Int) (g0 : 0 ≤ ((64 * x1) + (8 * x2)) + x3 ∧ ((64 * x1) + (8 * x2)) + x3 < 256) : nxs 12 151 17 [some (.inr (.inr 120)), some (.inl x1), some (.inl x2), some (.inl x3)] [] (M0 L V b) = some (true, 33, [some (.inr (.inr 120)), some (.inl x1), some (.inl x2), some (.inl x3)], [.inl (V 123 (((64 * x1) + (8 * x2)) + x3).toNat)], M0 L V b) := by
  have f0 : gX (M0 L V b) 123 1 (((64 * x1) + (8 * x2)) + x3) = true := gx_of rfl g0
  have hG : (gX (M0 L V b) 123 1 (((64 * x1) + (8 * x2)) + x3) && true) = true := an f0 rfl
  show some (gX (M0 L V b) 123 1 (((64 * x1) + (8 * x2)) + x3) && true, _) = _
  rw [hG]
  try rfl

-- 152: MendedOrNewModel.mending(III)I
theorem B152_0 (L : Nat) (V : Mv) (b : Bool) (x1 : Int) (x2 : Int) (x3 : Int)  : nxs 3 152 0 [some (.inr (.inr 120)), some (.inl x1), some (.inl x2), some (.inl x3)] [] (M0 L V b) = some (true, 3, [some (.inr (.inr 120)), some (.inl x1), some (.inl x2), some (.inl x3)], [.inl x2, .inl x1, .inr (.inr 120)], M0 L V b) := by
  rfl

theorem B152_6 (L : Nat) (V : Mv) (b : Bool) (x1 : Int) (x2 : Int) (x3 : Int) (s0 : Int) (g0 : in32 s0) : nxs 1 152 6 [some (.inr (.inr 120)), some (.inl x1), some (.inl x2), some (.inl x3)] [.inl s0] (M0 L V b) = some (true, cond (!decide (s0 = 0)) 11 9, [some (.inr (.inr 120)), some (.inl x1), some (.inl x2), some (.inl x3)], [], M0 L V b) := by
  have f0 : r32 s0 = true := r32_of g0
  have hG : (r32 s0 && true) = true := an f0 rfl
  show some (r32 s0 && true, _) = _
  rw [hG]
  try rfl

theorem B152_9 (L : Nat) (V : Mv) (b : Bool) (x1 : Int) (x2 : Int) (x3 : Int)  : nxs 1 152 9 [some (.inr (.inr 120)), some (.inl x1), some (.inl x2), some (.inl x3)] [] (M0 L V b) = some (true, 10, [some (.inr (.inr 120)), some (.inl x1), some (.inl x2), some (.inl x3)], [.inl (-1)], M0 L V b) := by
  rfl

theorem B152_11 (L : Nat) (V : Mv) (b : Bool) (x1 : Int) (x2 : Int) (x3 : Int) (g0 : in32 x3) : nxs 2 152 11 [some (.inr (.inr 120)), some (.inl x1), some (.inl x2), some (.inl x3)] [] (M0 L V b) = some (true, cond (!decide (x3 = 0)) 28 15, [some (.inr (.inr 120)), some (.inl x1), some (.inl x2), some (.inl x3)], [], M0 L V b) := by
  have f0 : r32 x3 = true := r32_of g0
  have hG : (r32 x3 && true) = true := an f0 rfl
  show some (r32 x3 && true, _) = _
  rw [hG]
  try rfl

theorem B152_15 (L : Nat) (V : Mv) (b : Bool) (x1 : Int) (x2 : Int) (x3 : Int) (g0 : 0 ≤ (4 * x1) + x2 ∧ (4 * x1) + x2 < 16) : nxs 9 152 15 [some (.inr (.inr 120)), some (.inl x1), some (.inl x2), some (.inl x3)] [] (M0 L V b) = some (true, 48, [some (.inr (.inr 120)), some (.inl x1), some (.inl x2), some (.inl x3)], [.inl (V 127 ((4 * x1) + x2).toNat)], M0 L V b) := by
  have f0 : gX (M0 L V b) 127 1 ((4 * x1) + x2) = true := gx_of rfl g0
  have hG : (gX (M0 L V b) 127 1 ((4 * x1) + x2) && true) = true := an f0 rfl
  show some (gX (M0 L V b) 127 1 ((4 * x1) + x2) && true, _) = _
  rw [hG]
  try rfl

theorem B152_28 (L : Nat) (V : Mv) (b : Bool) (x1 : Int) (x2 : Int) (x3 : Int) (g0 : in32 x3) : nxs 3 152 28 [some (.inr (.inr 120)), some (.inl x1), some (.inl x2), some (.inl x3)] [] (M0 L V b) = some (true, cond (!decide (x3 = 1)) 46 33, [some (.inr (.inr 120)), some (.inl x1), some (.inl x2), some (.inl x3)], [], M0 L V b) := by
  have f0 : (r32 x3 && r32 1) = true := rr32_of g0 (by decide)
  have hG : ((r32 x3 && r32 1) && true) = true := an f0 rfl
  show some ((r32 x3 && r32 1) && true, _) = _
  rw [hG]
  try rfl

theorem B152_33 (L : Nat) (V : Mv) (b : Bool) (x1 : Int) (x2 : Int) (x3 : Int) (g0 : 0 ≤ (4 * x1) + x2 ∧ (4 * x1) + x2 < 16) : nxs 9 152 33 [some (.inr (.inr 120)), some (.inl x1), some (.inl x2), some (.inl x3)] [] (M0 L V b) = some (true, 48, [some (.inr (.inr 120)), some (.inl x1), some (.inl x2), some (.inl x3)], [.inl (V 126 ((4 * x1) + x2).toNat)], M0 L V b) := by
  have f0 : gX (M0 L V b) 126 1 ((4 * x1) + x2) = true := gx_of rfl g0
  have hG : (gX (M0 L V b) 126 1 ((4 * x1) + x2) && true) = true := an f0 rfl
  show some (gX (M0 L V b) 126 1 ((4 * x1) + x2) && true, _) = _
  rw [hG]
  try rfl

theorem B152_46 (L : Nat) (V : Mv) (b : Bool) (x1 : Int) (x2 : Int) (x3 : Int)  : nxs 1 152 46 [some (.inr (.inr 120)), some (.inl x1), some (.inl x2), some (.inl x3)] [] (M0 L V b) = some (true, 48, [some (.inr (.inr 120)), some (.inl x1), some (.inl x2), some (.inl x3)], [.inl (-2)], M0 L V b) := by
  rfl

-- 153: MendedOrNewModel.isMending(II)Z
theorem B153_0 (L : Nat) (V : Mv) (b : Bool) (x1 : Int) (x2 : Int)  : nxs 1 153 0 [some (.inr (.inr 120)), some (.inl x1), some (.inl x2)] [] (M0 L V b) = some (true, 1, [some (.inr (.inr 120)), some (.inl x1), some (.inl x2)], [.inl x1], M0 L V b) := by
  rfl

theorem B153_4 (L : Nat) (V : Mv) (b : Bool) (x1 : Int) (x2 : Int) (s0 : Int) (g0 : in32 s0) : nxs 1 153 4 [some (.inr (.inr 120)), some (.inl x1), some (.inl x2)] [.inl s0] (M0 L V b) = some (true, cond (decide (s0 = 0)) 38 7, [some (.inr (.inr 120)), some (.inl x1), some (.inl x2)], [], M0 L V b) := by
  have f0 : r32 s0 = true := r32_of g0
  have hG : (r32 s0 && true) = true := an f0 rfl
  show some (r32 s0 && true, _) = _
  rw [hG]
  try rfl

theorem B153_7 (L : Nat) (V : Mv) (b : Bool) (x1 : Int) (x2 : Int) (g0 : in32 x2) : nxs 4 153 7 [some (.inr (.inr 120)), some (.inl x1), some (.inl x2)] [] (M0 L V b) = some (true, 13, [some (.inr (.inr 120)), some (.inl x1), some (.inl x2)], [.inr (.inl 3), .inr (.inl 0), .inr (.inl x2)], M0 L V b) := by
  have f0 : r32 x2 = true := r32_of g0
  have hG : (r32 x2 && true) = true := an f0 rfl
  show some (r32 x2 && true, _) = _
  rw [hG]
  try rfl

theorem B153_16 (L : Nat) (V : Mv) (b : Bool) (x1 : Int) (x2 : Int) (s0 : Int) (g0 : in32 s0) : nxs 1 153 16 [some (.inr (.inr 120)), some (.inl x1), some (.inl x2)] [.inl s0] (M0 L V b) = some (true, cond (decide (s0 = 0)) 38 19, [some (.inr (.inr 120)), some (.inl x1), some (.inl x2)], [], M0 L V b) := by
  have f0 : r32 s0 = true := r32_of g0
  have hG : (r32 s0 && true) = true := an f0 rfl
  show some (r32 s0 && true, _) = _
  rw [hG]
  try rfl

theorem B153_19 (L : Nat) (V : Mv) (b : Bool) (x1 : Int) (x2 : Int) (g0 : 0 ≤ (4 * x1) + x2 ∧ (4 * x1) + x2 < 16) (g1 : in32 (V 126 ((4 * x1) + x2).toNat)) : nxs 10 153 19 [some (.inr (.inr 120)), some (.inl x1), some (.inl x2)] [] (M0 L V b) = some (true, cond (decide (V 126 ((4 * x1) + x2).toNat = (-9))) 38 34, [some (.inr (.inr 120)), some (.inl x1), some (.inl x2)], [], M0 L V b) := by
  have f0 : gX (M0 L V b) 126 1 ((4 * x1) + x2) = true := gx_of rfl g0
  have f1 : (r32 (V 126 ((4 * x1) + x2).toNat) && r32 (-9)) = true := rr32_of g1 (by decide)
  have hG : (gX (M0 L V b) 126 1 ((4 * x1) + x2) && ((r32 (V 126 ((4 * x1) + x2).toNat) && r32 (-9)) && true)) = true := an f0 (an f1 rfl)
  show some (gX (M0 L V b) 126 1 ((4 * x1) + x2) && ((r32 (V 126 ((4 * x1) + x2).toNat) && r32 (-9)) && true), _) = _
  rw [hG]
  try rfl

theorem B153_34 (L : Nat) (V : Mv) (b : Bool) (x1 : Int) (x2 : Int)  : nxs 2 153 34 [some (.inr (.inr 120)), some (.inl x1), some (.inl x2)] [] (M0 L V b) = some (true, 39, [some (.inr (.inr 120)), some (.inl x1), some (.inl x2)], [.inl 1], M0 L V b) := by
  rfl

theorem B153_38 (L : Nat) (V : Mv) (b : Bool) (x1 : Int) (x2 : Int)  : nxs 1 153 38 [some (.inr (.inr 120)), some (.inl x1), some (.inl x2)] [] (M0 L V b) = some (true, 39, [some (.inr (.inr 120)), some (.inl x1), some (.inl x2)], [.inl 0], M0 L V b) := by
  rfl

-- 154: MendedOrNewModel.day(I)I
theorem B154_0 (L : Nat) (V : Mv) (b : Bool) (x1 : Int)  : nxs 1 154 0 [some (.inr (.inr 120)), some (.inl x1), none] [] (M0 L V b) = some (true, 1, [some (.inr (.inr 120)), some (.inl x1), none], [.inl x1], M0 L V b) := by
  rfl

theorem B154_4 (L : Nat) (V : Mv) (b : Bool) (x1 : Int) (s0 : Int) (g0 : in32 s0) : nxs 1 154 4 [some (.inr (.inr 120)), some (.inl x1), none] [.inl s0] (M0 L V b) = some (true, cond (!decide (s0 = 0)) 9 7, [some (.inr (.inr 120)), some (.inl x1), none], [], M0 L V b) := by
  have f0 : r32 s0 = true := r32_of g0
  have hG : (r32 s0 && true) = true := an f0 rfl
  show some (r32 s0 && true, _) = _
  rw [hG]
  try rfl

theorem B154_7 (L : Nat) (V : Mv) (b : Bool) (x1 : Int)  : nxs 1 154 7 [some (.inr (.inr 120)), some (.inl x1), none] [] (M0 L V b) = some (true, 8, [some (.inr (.inr 120)), some (.inl x1), none], [.inl (-1)], M0 L V b) := by
  rfl

theorem B154_9 (L : Nat) (V : Mv) (b : Bool) (x1 : Int)  : nxs 2 154 9 [some (.inr (.inr 120)), some (.inl x1), none] [] (M0 L V b) = some (true, 11, [some (.inr (.inr 120)), some (.inl x1), none], [.inl x1, .inr (.inr 120)], M0 L V b) := by
  rfl

theorem B154_14 (L : Nat) (V : Mv) (b : Bool) (x1 : Int)  : nxs 2 154 14 [some (.inr (.inr 120)), some (.inl x1), none] [] (M0 L V b) = some (true, 16, [some (.inr (.inr 120)), some (.inl x1), none], [.inl x1, .inr (.inr 120)], M0 L V b) := by
  rfl

theorem B154_19 (L : Nat) (V : Mv) (b : Bool) (x1 : Int) (s0 : Int) (g0 : in32 s0) : nxs 4 154 19 [some (.inr (.inr 120)), some (.inl x1), none] [.inl s0] (M0 L V b) = some (true, cond (!decide (s0 = 1)) 30 25, [some (.inr (.inr 120)), some (.inl x1), some (.inl s0)], [], M0 L V b) := by
  have f0 : (r32 s0 && r32 1) = true := rr32_of g0 (by decide)
  have hG : ((r32 s0 && r32 1) && true) = true := an f0 rfl
  show some ((r32 s0 && r32 1) && true, _) = _
  rw [hG]
  try rfl

theorem B154_25 (L : Nat) (V : Mv) (b : Bool) (x1 : Int) (x2 : Int)  : nxs 2 154 25 [some (.inr (.inr 120)), some (.inl x1), some (.inl x2)] [] (M0 L V b) = some (true, 27, [some (.inr (.inr 120)), some (.inl x1), some (.inl x2)], [.inl x1, .inr (.inr 120)], M0 L V b) := by
  rfl

theorem B154_30 (L : Nat) (V : Mv) (b : Bool) (x1 : Int) (x2 : Int)  : nxs 1 154 30 [some (.inr (.inr 120)), some (.inl x1), some (.inl x2)] [] (M0 L V b) = some (true, 31, [some (.inr (.inr 120)), some (.inl x1), some (.inl x2)], [.inl x2], M0 L V b) := by
  rfl

-- 155: MendedOrNewModel.takeThought(I)V
theorem B155_0 (L : Nat) (V : Mv) (b : Bool) (x1 : Int)  : nxs 2 155 0 [some (.inr (.inr 120)), some (.inl x1), none] [] (M0 L V b) = some (true, 2, [some (.inr (.inr 120)), some (.inl x1), some (.inl 0)], [], M0 L V b) := by
  rfl

theorem B155_2 (L : Nat) (V : Mv) (b : Bool) (x1 : Int) (x2 : Int) (g0 : in32 x2) : nxs 3 155 2 [some (.inr (.inr 120)), some (.inl x1), some (.inl x2)] [] (M0 L V b) = some (true, cond (decide (8 ≤ x2)) 31 8, [some (.inr (.inr 120)), some (.inl x1), some (.inl x2)], [], M0 L V b) := by
  have f0 : (r32 x2 && r32 8) = true := rr32_of g0 (by decide)
  have hG : ((r32 x2 && r32 8) && true) = true := an f0 rfl
  show some ((r32 x2 && r32 8) && true, _) = _
  rw [hG]
  try rfl

theorem B155_8 (L : Nat) (V : Mv) (b : Bool) (x1 : Int) (x2 : Int) (g0 : 0 ≤ (8 * x1) + x2 ∧ (8 * x1) + x2 < 24) (g1 : 0 ≤ x2 ∧ x2 < 8) : nxs 14 155 8 [some (.inr (.inr 120)), some (.inl x1), some (.inl x2)] [] (M0 L V b) = some (true, 2, [some (.inr (.inr 120)), some (.inl x1), some (.inl (x2 + 1))], [], M0 L (uV V 131 (x2).toNat (V 130 ((8 * x1) + x2).toNat)) b) := by
  have f0 : gX (M0 L V b) 130 2 ((8 * x1) + x2) = true := gx_of rfl g0
  have f1 : (gX (M0 L V b) 131 2 x2 && !Nat.beq 131 0) = true := gs_of (gx_of rfl g1) (by decide)
  have hG : (gX (M0 L V b) 130 2 ((8 * x1) + x2) && ((gX (M0 L V b) 131 2 x2 && !Nat.beq 131 0) && true)) = true := an f0 (an f1 rfl)
  show some (gX (M0 L V b) 130 2 ((8 * x1) + x2) && ((gX (M0 L V b) 131 2 x2 && !Nat.beq 131 0) && true), _) = _
  rw [hG]
  try rfl

-- 156: MendedOrNewModel.tryDay(I)I
theorem B156_0 (L : Nat) (V : Mv) (b : Bool) (x1 : Int)  : nxs 2 156 0 [some (.inr (.inr 120)), some (.inl x1), none, none] [] (M0 L V b) = some (true, 2, [some (.inr (.inr 120)), some (.inl x1), some (.inl 0), none], [], M0 L V b) := by
  rfl

theorem B156_2 (L : Nat) (V : Mv) (b : Bool) (x1 : Int) (x2 : Int) (g0 : in32 x2) : nxs 3 156 2 [some (.inr (.inr 120)), some (.inl x1), some (.inl x2), none] [] (M0 L V b) = some (true, cond (decide (8 ≤ x2)) 21 8, [some (.inr (.inr 120)), some (.inl x1), some (.inl x2), none], [], M0 L V b) := by
  have f0 : (r32 x2 && r32 8) = true := rr32_of g0 (by decide)
  have hG : ((r32 x2 && r32 8) && true) = true := an f0 rfl
  show some ((r32 x2 && r32 8) && true, _) = _
  rw [hG]
  try rfl

theorem B156_8 (L : Nat) (V : Mv) (b : Bool) (x1 : Int) (x2 : Int) (g0 : 0 ≤ x2 ∧ x2 < 8) : nxs 7 156 8 [some (.inr (.inr 120)), some (.inl x1), some (.inl x2), none] [] (M0 L V b) = some (true, 2, [some (.inr (.inr 120)), some (.inl x1), some (.inl (x2 + 1)), none], [], M0 L (uV V 132 (x2).toNat 0) b) := by
  have f0 : (gX (M0 L V b) 132 2 x2 && !Nat.beq 132 0) = true := gs_of (gx_of rfl g0) (by decide)
  have hG : ((gX (M0 L V b) 132 2 x2 && !Nat.beq 132 0) && true) = true := an f0 rfl
  show some ((gX (M0 L V b) 132 2 x2 && !Nat.beq 132 0) && true, _) = _
  rw [hG]
  try rfl

theorem B156_21 (L : Nat) (V : Mv) (b : Bool) (x1 : Int) (x2 : Int)  : nxs 2 156 21 [some (.inr (.inr 120)), some (.inl x1), some (.inl x2), none] [] (M0 L V b) = some (true, 23, [some (.inr (.inr 120)), some (.inl x1), some (.inl 0), none], [], M0 L V b) := by
  rfl

theorem B156_23 (L : Nat) (V : Mv) (b : Bool) (x1 : Int) (x2 : Int) (g0 : 0 ≤ x1 ∧ x1 < 4) (g1 : in32 x2) (g2 : in32 (V 121 (x1).toNat)) : nxs 6 156 23 [some (.inr (.inr 120)), some (.inl x1), some (.inl x2), none] [] (M0 L V b) = some (true, cond (decide (V 121 (x1).toNat ≤ x2)) 81 33, [some (.inr (.inr 120)), some (.inl x1), some (.inl x2), none], [], M0 L V b) := by
  have f0 : gX (M0 L V b) 121 1 x1 = true := gx_of rfl g0
  have f1 : (r32 x2 && r32 (V 121 (x1).toNat)) = true := rr32_of g1 g2
  have hG : (gX (M0 L V b) 121 1 x1 && ((r32 x2 && r32 (V 121 (x1).toNat)) && true)) = true := an f0 (an f1 rfl)
  show some (gX (M0 L V b) 121 1 x1 && ((r32 x2 && r32 (V 121 (x1).toNat)) && true), _) = _
  rw [hG]
  try rfl

theorem B156_33 (L : Nat) (V : Mv) (b : Bool) (x1 : Int) (x2 : Int)  : nxs 2 156 33 [some (.inr (.inr 120)), some (.inl x1), some (.inl x2), none] [] (M0 L V b) = some (true, 35, [some (.inr (.inr 120)), some (.inl x1), some (.inl x2), some (.inl x2)], [], M0 L V b) := by
  rfl

theorem B156_35 (L : Nat) (V : Mv) (b : Bool) (x1 : Int) (x2 : Int) (x3 : Int) (g0 : 0 ≤ x1 ∧ x1 < 4) (g1 : in32 x3) (g2 : in32 (V 121 (x1).toNat)) : nxs 6 156 35 [some (.inr (.inr 120)), some (.inl x1), some (.inl x2), some (.inl x3)] [] (M0 L V b) = some (true, cond (decide (V 121 (x1).toNat ≤ x3)) 75 45, [some (.inr (.inr 120)), some (.inl x1), some (.inl x2), some (.inl x3)], [], M0 L V b) := by
  have f0 : gX (M0 L V b) 121 1 x1 = true := gx_of rfl g0
  have f1 : (r32 x3 && r32 (V 121 (x1).toNat)) = true := rr32_of g1 g2
  have hG : (gX (M0 L V b) 121 1 x1 && ((r32 x3 && r32 (V 121 (x1).toNat)) && true)) = true := an f0 (an f1 rfl)
  show some (gX (M0 L V b) 121 1 x1 && ((r32 x3 && r32 (V 121 (x1).toNat)) && true), _) = _
  rw [hG]
  try rfl

theorem B156_45 (L : Nat) (V : Mv) (b : Bool) (x1 : Int) (x2 : Int) (x3 : Int) (g0 : 0 ≤ x3 ∧ x3 < 8) (g1 : 0 ≤ x2 ∧ x2 < 8) : nxs 13 156 45 [some (.inr (.inr 120)), some (.inl x1), some (.inl x2), some (.inl x3)] [] (M0 L V b) = some (true, 62, [some (.inr (.inr 120)), some (.inl x1), some (.inl x2), some (.inl x3)], [.inl x3, .inl x2, .inl x1, .inr (.inr 120), .inr (.inl (V 131 (x2).toNat)), .inr (.inl (V 132 (x3).toNat)), .inl x3, .inr (.inr 132)], M0 L V b) := by
  have f0 : gX (M0 L V b) 132 2 x3 = true := gx_of rfl g0
  have f1 : gX (M0 L V b) 131 2 x2 = true := gx_of rfl g1
  have hG : (gX (M0 L V b) 132 2 x3 && (gX (M0 L V b) 131 2 x2 && true)) = true := an f0 (an f1 rfl)
  show some (gX (M0 L V b) 132 2 x3 && (gX (M0 L V b) 131 2 x2 && true), _) = _
  rw [hG]
  try rfl

theorem B156_65 (L : Nat) (V : Mv) (b : Bool) (x1 : Int) (x2 : Int) (x3 : Int) (s1 : Int) (s2 : Int) (s3 : Int) (s4 : Int) (g0 : in32 s4) (g1 : 0 ≤ s1 ∧ s1 < 8) : nxs 6 156 65 [some (.inr (.inr 120)), some (.inl x1), some (.inl x2), some (.inl x3)] [.inl s4, .inr (.inl s3), .inr (.inl s2), .inl s1, .inr (.inr 119)] (M0 L V b) = some (true, 35, [some (.inr (.inr 120)), some (.inl x1), some (.inl x2), some (.inl (x3 + 1))], [], M0 L (uV V 119 (s1).toNat (s2 + (s3 * s4))) b) := by
  have f0 : r32 s4 = true := r32_of g0
  have f1 : (gX (M0 L V b) 119 2 s1 && !Nat.beq 119 0) = true := gs_of (gx_of rfl g1) (by decide)
  have hG : (r32 s4 && ((gX (M0 L V b) 119 2 s1 && !Nat.beq 119 0) && true)) = true := an f0 (an f1 rfl)
  show some (r32 s4 && ((gX (M0 L V b) 119 2 s1 && !Nat.beq 119 0) && true), _) = _
  rw [hG]
  try rfl

theorem B156_75 (L : Nat) (V : Mv) (b : Bool) (x1 : Int) (x2 : Int) (x3 : Int)  : nxs 2 156 75 [some (.inr (.inr 120)), some (.inl x1), some (.inl x2), some (.inl x3)] [] (M0 L V b) = some (true, 23, [some (.inr (.inr 120)), some (.inl x1), some (.inl (x2 + 1)), some (.inl x3)], [], M0 L V b) := by
  rfl

theorem B156_81 (L : Nat) (V : Mv) (b : Bool) (x1 : Int) (x2 : Int)  : nxs 2 156 81 [some (.inr (.inr 120)), some (.inl x1), some (.inl x2), none] [] (M0 L V b) = some (true, 83, [some (.inr (.inr 120)), some (.inl x1), some (.inl 0), none], [], M0 L V b) := by
  rfl

theorem B156_83 (L : Nat) (V : Mv) (b : Bool) (x1 : Int) (x2 : Int) (g0 : in32 x2) : nxs 3 156 83 [some (.inr (.inr 120)), some (.inl x1), some (.inl x2), none] [] (M0 L V b) = some (true, cond (decide (8 ≤ x2)) 107 89, [some (.inr (.inr 120)), some (.inl x1), some (.inl x2), none], [], M0 L V b) := by
  have f0 : (r32 x2 && r32 8) = true := rr32_of g0 (by decide)
  have hG : ((r32 x2 && r32 8) && true) = true := an f0 rfl
  show some ((r32 x2 && r32 8) && true, _) = _
  rw [hG]
  try rfl

theorem B156_89 (L : Nat) (V : Mv) (b : Bool) (x1 : Int) (x2 : Int) (g0 : 0 ≤ x2 ∧ x2 < 8) : nxs 10 156 89 [some (.inr (.inr 120)), some (.inl x1), some (.inl x2), none] [] (M0 L V b) = some (true, 83, [some (.inr (.inr 120)), some (.inl x1), some (.inl (x2 + 1)), none], [], M0 L (uV V 131 (x2).toNat (V 132 (x2).toNat)) b) := by
  have f0 : gX (M0 L V b) 132 2 x2 = true := gx_of rfl g0
  have f1 : (gX (M0 L V b) 131 2 x2 && !Nat.beq 131 0) = true := gs_of (gx_of rfl g0) (by decide)
  have hG : (gX (M0 L V b) 132 2 x2 && ((gX (M0 L V b) 131 2 x2 && !Nat.beq 131 0) && true)) = true := an f0 (an f1 rfl)
  show some (gX (M0 L V b) 132 2 x2 && ((gX (M0 L V b) 131 2 x2 && !Nat.beq 131 0) && true), _) = _
  rw [hG]
  try rfl

theorem B156_107 (L : Nat) (V : Mv) (b : Bool) (x1 : Int) (x2 : Int)  : nxs 1 156 107 [some (.inr (.inr 120)), some (.inl x1), some (.inl x2), none] [] (M0 L V b) = some (true, 108, [some (.inr (.inr 120)), some (.inl x1), some (.inl x2), none], [.inr (.inr 120)], M0 L V b) := by
  rfl

-- 157: MendedOrNewModel.settle()I
theorem B157_0 (L : Nat) (V : Mv) (b : Bool)   : nxs 4 157 0 [some (.inr (.inr 120)), none, none, none, none] [] (M0 L V b) = some (true, 4, [some (.inr (.inr 120)), some (.inr (.inl 0)), none, some (.inl 0), none], [], M0 L V b) := by
  rfl

theorem B157_4 (L : Nat) (V : Mv) (b : Bool) (x1 : Int) (x3 : Int) (g0 : in32 x3) : nxs 3 157 4 [some (.inr (.inr 120)), some (.inr (.inl x1)), none, some (.inl x3), none] [] (M0 L V b) = some (true, cond (decide (8 ≤ x3)) 27 10, [some (.inr (.inr 120)), some (.inr (.inl x1)), none, some (.inl x3), none], [], M0 L V b) := by
  have f0 : (r32 x3 && r32 8) = true := rr32_of g0 (by decide)
  have hG : ((r32 x3 && r32 8) && true) = true := an f0 rfl
  show some ((r32 x3 && r32 8) && true, _) = _
  rw [hG]
  try rfl

theorem B157_10 (L : Nat) (V : Mv) (b : Bool) (x1 : Int) (x3 : Int) (g0 : 0 ≤ x3 ∧ x3 < 8) : nxs 5 157 10 [some (.inr (.inr 120)), some (.inr (.inl x1)), none, some (.inl x3), none] [] (M0 L V b) = some (true, 17, [some (.inr (.inr 120)), some (.inr (.inl x1)), none, some (.inl x3), none], [.inr (.inl x1), .inr (.inl (V 131 (x3).toNat))], M0 L V b) := by
  have f0 : gX (M0 L V b) 131 2 x3 = true := gx_of rfl g0
  have hG : (gX (M0 L V b) 131 2 x3 && true) = true := an f0 rfl
  show some (gX (M0 L V b) 131 2 x3 && true, _) = _
  rw [hG]
  try rfl

theorem B157_20 (L : Nat) (V : Mv) (b : Bool) (x1 : Int) (x3 : Int) (s0 : Int)  : nxs 3 157 20 [some (.inr (.inr 120)), some (.inr (.inl x1)), none, some (.inl x3), none] [.inr (.inl s0)] (M0 L V b) = some (true, 4, [some (.inr (.inr 120)), some (.inr (.inl s0)), none, some (.inl (x3 + 1)), none], [], M0 L V b) := by
  rfl

theorem B157_27 (L : Nat) (V : Mv) (b : Bool) (x1 : Int) (x3 : Int) (g0 : in64 x1) (g1 : in32 (cmpI x1 0)) : nxs 4 157 27 [some (.inr (.inr 120)), some (.inr (.inl x1)), none, some (.inl x3), none] [] (M0 L V b) = some (true, cond (!decide (cmpI x1 0 = 0)) 36 33, [some (.inr (.inr 120)), some (.inr (.inl x1)), none, some (.inl x3), none], [], M0 L V b) := by
  have f0 : (r64 x1 && r64 0) = true := rr64_of g0 (by decide)
  have f1 : r32 (cmpI x1 0) = true := r32_of g1
  have hG : ((r64 x1 && r64 0) && (r32 (cmpI x1 0) && true)) = true := an f0 (an f1 rfl)
  show some ((r64 x1 && r64 0) && (r32 (cmpI x1 0) && true), _) = _
  rw [hG]
  try rfl

theorem B157_33 (L : Nat) (V : Mv) (b : Bool) (x1 : Int) (x3 : Int)  : nxs 1 157 33 [some (.inr (.inr 120)), some (.inr (.inl x1)), none, some (.inl x3), none] [] (M0 L V b) = some (true, 35, [some (.inr (.inr 120)), some (.inr (.inl x1)), none, some (.inl x3), none], [.inl (-3)], M0 L V b) := by
  rfl

theorem B157_36 (L : Nat) (V : Mv) (b : Bool) (x1 : Int) (x3 : Int)  : nxs 4 157 36 [some (.inr (.inr 120)), some (.inr (.inl x1)), none, some (.inl x3), none] [] (M0 L V b) = some (true, 41, [some (.inr (.inr 120)), some (.inr (.inl x1)), none, some (.inl 0), some (.inl 0)], [], M0 L V b) := by
  rfl

theorem B157_41 (L : Nat) (V : Mv) (b : Bool) (x1 : Int) (x3 : Int) (x4 : Int) (g0 : in32 x4) : nxs 3 157 41 [some (.inr (.inr 120)), some (.inr (.inl x1)), none, some (.inl x3), some (.inl x4)] [] (M0 L V b) = some (true, cond (decide (8 ≤ x4)) 89 48, [some (.inr (.inr 120)), some (.inr (.inl x1)), none, some (.inl x3), some (.inl x4)], [], M0 L V b) := by
  have f0 : (r32 x4 && r32 8) = true := rr32_of g0 (by decide)
  have hG : ((r32 x4 && r32 8) && true) = true := an f0 rfl
  show some ((r32 x4 && r32 8) && true, _) = _
  rw [hG]
  try rfl

theorem B157_48 (L : Nat) (V : Mv) (b : Bool) (x1 : Int) (x3 : Int) (x4 : Int) (g0 : 0 ≤ x4 ∧ x4 < 8) (g1 : in64 (V 131 (x4).toNat)) (g2 : in64 x1) (g3 : ¬ x1 = 0) (g4 : in32 x3) : nxs 10 157 48 [some (.inr (.inr 120)), some (.inr (.inl x1)), none, some (.inl x3), some (.inl x4)] [] (M0 L V b) = some (true, cond (!decide (x3 = 0)) 77 63, [some (.inr (.inr 120)), some (.inr (.inl x1)), none, some (.inl x3), some (.inl x4)], [], M0 L (uV V 131 (x4).toNat (Int.tdiv (V 131 (x4).toNat) x1)) b) := by
  have f0 : gX (M0 L V b) 131 2 x4 = true := gx_of rfl g0
  have f1 : gL (V 131 (x4).toNat) x1 = true := gL_of g1 g2 g3
  have f2 : (gX (M0 L V b) 131 2 x4 && !Nat.beq 131 0) = true := gs_of (gx_of rfl g0) (by decide)
  have f3 : r32 x3 = true := r32_of g4
  have hG : (gX (M0 L V b) 131 2 x4 && (gL (V 131 (x4).toNat) x1 && ((gX (M0 L V b) 131 2 x4 && !Nat.beq 131 0) && (r32 x3 && true)))) = true := an f0 (an f1 (an f2 (an f3 rfl)))
  show some (gX (M0 L V b) 131 2 x4 && (gL (V 131 (x4).toNat) x1 && ((gX (M0 L V b) 131 2 x4 && !Nat.beq 131 0) && (r32 x3 && true))), _) = _
  rw [hG]
  try rfl

theorem B157_63 (L : Nat) (V : Mv) (b : Bool) (x1 : Int) (x3 : Int) (x4 : Int) (g0 : 0 ≤ x4 ∧ x4 < 8) (g1 : in64 (V 131 (x4).toNat)) (g2 : in32 (cmpI (V 131 (x4).toNat) 1000000000000000)) : nxs 7 157 63 [some (.inr (.inr 120)), some (.inr (.inl x1)), none, some (.inl x3), some (.inl x4)] [] (M0 L V b) = some (true, cond (decide (cmpI (V 131 (x4).toNat) 1000000000000000 ≤ 0)) 81 77, [some (.inr (.inr 120)), some (.inr (.inl x1)), none, some (.inl x3), some (.inl x4)], [], M0 L V b) := by
  have f0 : gX (M0 L V b) 131 2 x4 = true := gx_of rfl g0
  have f1 : (r64 (V 131 (x4).toNat) && r64 1000000000000000) = true := rr64_of g1 (by decide)
  have f2 : r32 (cmpI (V 131 (x4).toNat) 1000000000000000) = true := r32_of g2
  have hG : (gX (M0 L V b) 131 2 x4 && ((r64 (V 131 (x4).toNat) && r64 1000000000000000) && (r32 (cmpI (V 131 (x4).toNat) 1000000000000000) && true))) = true := an f0 (an f1 (an f2 rfl))
  show some (gX (M0 L V b) 131 2 x4 && ((r64 (V 131 (x4).toNat) && r64 1000000000000000) && (r32 (cmpI (V 131 (x4).toNat) 1000000000000000) && true)), _) = _
  rw [hG]
  try rfl

theorem B157_77 (L : Nat) (V : Mv) (b : Bool) (x1 : Int) (x3 : Int) (x4 : Int)  : nxs 2 157 77 [some (.inr (.inr 120)), some (.inr (.inl x1)), none, some (.inl x3), some (.inl x4)] [] (M0 L V b) = some (true, 82, [some (.inr (.inr 120)), some (.inr (.inl x1)), none, some (.inl x3), some (.inl x4)], [.inl 1], M0 L V b) := by
  rfl

theorem B157_81 (L : Nat) (V : Mv) (b : Bool) (x1 : Int) (x3 : Int) (x4 : Int)  : nxs 1 157 81 [some (.inr (.inr 120)), some (.inr (.inl x1)), none, some (.inl x3), some (.inl x4)] [] (M0 L V b) = some (true, 82, [some (.inr (.inr 120)), some (.inr (.inl x1)), none, some (.inl x3), some (.inl x4)], [.inl 0], M0 L V b) := by
  rfl

theorem B157_82 (L : Nat) (V : Mv) (b : Bool) (x1 : Int) (x3 : Int) (x4 : Int) (s0 : Int)  : nxs 3 157 82 [some (.inr (.inr 120)), some (.inr (.inl x1)), none, some (.inl x3), some (.inl x4)] [.inl s0] (M0 L V b) = some (true, 41, [some (.inr (.inr 120)), some (.inr (.inl x1)), none, some (.inl s0), some (.inl (x4 + 1))], [], M0 L V b) := by
  rfl

theorem B157_89 (L : Nat) (V : Mv) (b : Bool) (x1 : Int) (x3 : Int) (x4 : Int) (g0 : in32 x3) : nxs 2 157 89 [some (.inr (.inr 120)), some (.inr (.inl x1)), none, some (.inl x3), some (.inl x4)] [] (M0 L V b) = some (true, cond (decide (x3 = 0)) 98 93, [some (.inr (.inr 120)), some (.inr (.inl x1)), none, some (.inl x3), some (.inl x4)], [], M0 L V b) := by
  have f0 : r32 x3 = true := r32_of g0
  have hG : (r32 x3 && true) = true := an f0 rfl
  show some (r32 x3 && true, _) = _
  rw [hG]
  try rfl

theorem B157_93 (L : Nat) (V : Mv) (b : Bool) (x1 : Int) (x3 : Int) (x4 : Int)  : nxs 2 157 93 [some (.inr (.inr 120)), some (.inr (.inl x1)), none, some (.inl x3), some (.inl x4)] [] (M0 L V b) = some (true, 99, [some (.inr (.inr 120)), some (.inr (.inl x1)), none, some (.inl x3), some (.inl x4)], [.inl (-4)], M0 L V b) := by
  rfl

theorem B157_98 (L : Nat) (V : Mv) (b : Bool) (x1 : Int) (x3 : Int) (x4 : Int)  : nxs 1 157 98 [some (.inr (.inr 120)), some (.inr (.inl x1)), none, some (.inl x3), some (.inl x4)] [] (M0 L V b) = some (true, 99, [some (.inr (.inr 120)), some (.inr (.inl x1)), none, some (.inl x3), some (.inl x4)], [.inl 1], M0 L V b) := by
  rfl

-- 158: MendedOrNewModel.common(JJ)J
theorem B158_0 (L : Nat) (V : Mv) (b : Bool) (x0 : Int) (x2 : Int)  : nxs 4 158 0 [some (.inr (.inl x0)), none, some (.inr (.inl x2)), none, none, none, none, none, none, none] [] (M0 L V b) = some (true, 6, [some (.inr (.inl x0)), none, some (.inr (.inl x2)), none, some (.inr (.inl x0)), none, some (.inr (.inl x2)), none, none, none], [], M0 L V b) := by
  rfl

theorem B158_6 (L : Nat) (V : Mv) (b : Bool) (x0 : Int) (x2 : Int) (x4 : Int) (x6 : Int) (g0 : in64 x6) (g1 : in32 (cmpI x6 0)) : nxs 4 158 6 [some (.inr (.inl x0)), none, some (.inr (.inl x2)), none, some (.inr (.inl x4)), none, some (.inr (.inl x6)), none, none, none] [] (M0 L V b) = some (true, cond (decide (cmpI x6 0 = 0)) 31 13, [some (.inr (.inl x0)), none, some (.inr (.inl x2)), none, some (.inr (.inl x4)), none, some (.inr (.inl x6)), none, none, none], [], M0 L V b) := by
  have f0 : (r64 x6 && r64 0) = true := rr64_of g0 (by decide)
  have f1 : r32 (cmpI x6 0) = true := r32_of g1
  have hG : ((r64 x6 && r64 0) && (r32 (cmpI x6 0) && true)) = true := an f0 (an f1 rfl)
  show some ((r64 x6 && r64 0) && (r32 (cmpI x6 0) && true), _) = _
  rw [hG]
  try rfl

theorem B158_13 (L : Nat) (V : Mv) (b : Bool) (x0 : Int) (x2 : Int) (x4 : Int) (x6 : Int) (g0 : in64 x4) (g1 : in64 x6) (g2 : ¬ x6 = 0) : nxs 9 158 13 [some (.inr (.inl x0)), none, some (.inr (.inl x2)), none, some (.inr (.inl x4)), none, some (.inr (.inl x6)), none, none, none] [] (M0 L V b) = some (true, 6, [some (.inr (.inl x0)), none, some (.inr (.inl x2)), none, some (.inr (.inl x6)), none, some (.inr (.inl (Int.tmod x4 x6))), none, some (.inr (.inl (Int.tmod x4 x6))), none], [], M0 L V b) := by
  have f0 : gL x4 x6 = true := gL_of g0 g1 g2
  have hG : (gL x4 x6 && true) = true := an f0 rfl
  show some (gL x4 x6 && true, _) = _
  rw [hG]
  try rfl

theorem B158_31 (L : Nat) (V : Mv) (b : Bool) (x0 : Int) (x2 : Int) (x4 : Int) (x6 : Int)  : nxs 1 158 31 [some (.inr (.inl x0)), none, some (.inr (.inl x2)), none, some (.inr (.inl x4)), none, some (.inr (.inl x6)), none, none, none] [] (M0 L V b) = some (true, 33, [some (.inr (.inl x0)), none, some (.inr (.inl x2)), none, some (.inr (.inl x4)), none, some (.inr (.inl x6)), none, none, none], [.inr (.inl x4)], M0 L V b) := by
  rfl

-- 159: MendedOrNewModel.putThought(I)V
theorem B159_0 (L : Nat) (V : Mv) (b : Bool) (x1 : Int)  : nxs 2 159 0 [some (.inr (.inr 120)), some (.inl x1), none] [] (M0 L V b) = some (true, 2, [some (.inr (.inr 120)), some (.inl x1), some (.inl 0)], [], M0 L V b) := by
  rfl

theorem B159_2 (L : Nat) (V : Mv) (b : Bool) (x1 : Int) (x2 : Int) (g0 : in32 x2) : nxs 3 159 2 [some (.inr (.inr 120)), some (.inl x1), some (.inl x2)] [] (M0 L V b) = some (true, cond (decide (8 ≤ x2)) 31 8, [some (.inr (.inr 120)), some (.inl x1), some (.inl x2)], [], M0 L V b) := by
  have f0 : (r32 x2 && r32 8) = true := rr32_of g0 (by decide)
  have hG : ((r32 x2 && r32 8) && true) = true := an f0 rfl
  show some ((r32 x2 && r32 8) && true, _) = _
  rw [hG]
  try rfl

theorem B159_8 (L : Nat) (V : Mv) (b : Bool) (x1 : Int) (x2 : Int) (g0 : 0 ≤ x2 ∧ x2 < 8) (g1 : 0 ≤ (8 * x1) + x2 ∧ (8 * x1) + x2 < 24) : nxs 14 159 8 [some (.inr (.inr 120)), some (.inl x1), some (.inl x2)] [] (M0 L V b) = some (true, 2, [some (.inr (.inr 120)), some (.inl x1), some (.inl (x2 + 1))], [], M0 L (uV V 130 ((8 * x1) + x2).toNat (V 131 (x2).toNat)) b) := by
  have f0 : gX (M0 L V b) 131 2 x2 = true := gx_of rfl g0
  have f1 : (gX (M0 L V b) 130 2 ((8 * x1) + x2) && !Nat.beq 130 0) = true := gs_of (gx_of rfl g1) (by decide)
  have hG : (gX (M0 L V b) 131 2 x2 && ((gX (M0 L V b) 130 2 ((8 * x1) + x2) && !Nat.beq 130 0) && true)) = true := an f0 (an f1 rfl)
  show some (gX (M0 L V b) 131 2 x2 && ((gX (M0 L V b) 130 2 ((8 * x1) + x2) && !Nat.beq 130 0) && true), _) = _
  rw [hG]
  try rfl

-- 160: MendedOrNewModel.hear(IZ)I
theorem B160_0 (L : Nat) (V : Mv) (b : Bool) (x1 : Int) (x2 : Int)  : nxs 1 160 0 [some (.inr (.inr 120)), some (.inl x1), some (.inl x2), none] [] (M0 L V b) = some (true, 1, [some (.inr (.inr 120)), some (.inl x1), some (.inl x2), none], [.inl x1], M0 L V b) := by
  rfl

theorem B160_4 (L : Nat) (V : Mv) (b : Bool) (x1 : Int) (x2 : Int) (s0 : Int) (g0 : in32 s0) : nxs 1 160 4 [some (.inr (.inr 120)), some (.inl x1), some (.inl x2), none] [.inl s0] (M0 L V b) = some (true, cond (!decide (s0 = 0)) 9 7, [some (.inr (.inr 120)), some (.inl x1), some (.inl x2), none], [], M0 L V b) := by
  have f0 : r32 s0 = true := r32_of g0
  have hG : (r32 s0 && true) = true := an f0 rfl
  show some (r32 s0 && true, _) = _
  rw [hG]
  try rfl

theorem B160_7 (L : Nat) (V : Mv) (b : Bool) (x1 : Int) (x2 : Int)  : nxs 1 160 7 [some (.inr (.inr 120)), some (.inl x1), some (.inl x2), none] [] (M0 L V b) = some (true, 8, [some (.inr (.inr 120)), some (.inl x1), some (.inl x2), none], [.inl (-1)], M0 L V b) := by
  rfl

theorem B160_9 (L : Nat) (V : Mv) (b : Bool) (x1 : Int) (x2 : Int)  : nxs 2 160 9 [some (.inr (.inr 120)), some (.inl x1), some (.inl x2), none] [] (M0 L V b) = some (true, 11, [some (.inr (.inr 120)), some (.inl x1), some (.inl x2), none], [.inl x1, .inr (.inr 120)], M0 L V b) := by
  rfl

theorem B160_14 (L : Nat) (V : Mv) (b : Bool) (x1 : Int) (x2 : Int)  : nxs 3 160 14 [some (.inr (.inr 120)), some (.inl x1), some (.inl x2), none] [] (M0 L V b) = some (true, 17, [some (.inr (.inr 120)), some (.inl x1), some (.inl x2), none], [.inl x2, .inl x1, .inr (.inr 120)], M0 L V b) := by
  rfl

theorem B160_20 (L : Nat) (V : Mv) (b : Bool) (x1 : Int) (x2 : Int) (s0 : Int) (g0 : in32 s0) : nxs 4 160 20 [some (.inr (.inr 120)), some (.inl x1), some (.inl x2), none] [.inl s0] (M0 L V b) = some (true, cond (!decide (s0 = 1)) 31 26, [some (.inr (.inr 120)), some (.inl x1), some (.inl x2), some (.inl s0)], [], M0 L V b) := by
  have f0 : (r32 s0 && r32 1) = true := rr32_of g0 (by decide)
  have hG : ((r32 s0 && r32 1) && true) = true := an f0 rfl
  show some ((r32 s0 && r32 1) && true, _) = _
  rw [hG]
  try rfl

theorem B160_26 (L : Nat) (V : Mv) (b : Bool) (x1 : Int) (x2 : Int) (x3 : Int)  : nxs 2 160 26 [some (.inr (.inr 120)), some (.inl x1), some (.inl x2), some (.inl x3)] [] (M0 L V b) = some (true, 28, [some (.inr (.inr 120)), some (.inl x1), some (.inl x2), some (.inl x3)], [.inl x1, .inr (.inr 120)], M0 L V b) := by
  rfl

theorem B160_31 (L : Nat) (V : Mv) (b : Bool) (x1 : Int) (x2 : Int) (x3 : Int)  : nxs 1 160 31 [some (.inr (.inr 120)), some (.inl x1), some (.inl x2), some (.inl x3)] [] (M0 L V b) = some (true, 32, [some (.inr (.inr 120)), some (.inl x1), some (.inl x2), some (.inl x3)], [.inl x3], M0 L V b) := by
  rfl

-- 161: MendedOrNewModel.tryKnock(IZ)I
theorem B161_0 (L : Nat) (V : Mv) (b : Bool) (x1 : Int) (x2 : Int)  : nxs 2 161 0 [some (.inr (.inr 120)), some (.inl x1), some (.inl x2), none] [] (M0 L V b) = some (true, 2, [some (.inr (.inr 120)), some (.inl x1), some (.inl x2), some (.inl 0)], [], M0 L V b) := by
  rfl

theorem B161_2 (L : Nat) (V : Mv) (b : Bool) (x1 : Int) (x2 : Int) (x3 : Int) (g0 : in32 x3) : nxs 3 161 2 [some (.inr (.inr 120)), some (.inl x1), some (.inl x2), some (.inl x3)] [] (M0 L V b) = some (true, cond (decide (8 ≤ x3)) 57 8, [some (.inr (.inr 120)), some (.inl x1), some (.inl x2), some (.inl x3)], [], M0 L V b) := by
  have f0 : (r32 x3 && r32 8) = true := rr32_of g0 (by decide)
  have hG : ((r32 x3 && r32 8) && true) = true := an f0 rfl
  show some ((r32 x3 && r32 8) && true, _) = _
  rw [hG]
  try rfl

theorem B161_8 (L : Nat) (V : Mv) (b : Bool) (x1 : Int) (x2 : Int) (x3 : Int) (g0 : 0 ≤ x3 ∧ x3 < 8) (g1 : in32 x2) : nxs 7 161 8 [some (.inr (.inr 120)), some (.inl x1), some (.inl x2), some (.inl x3)] [] (M0 L V b) = some (true, cond (decide (x2 = 0)) 34 19, [some (.inr (.inr 120)), some (.inl x1), some (.inl x2), some (.inl x3)], [.inr (.inl (V 131 (x3).toNat)), .inl x3, .inr (.inr 131)], M0 L V b) := by
  have f0 : gX (M0 L V b) 131 2 x3 = true := gx_of rfl g0
  have f1 : r32 x2 = true := r32_of g1
  have hG : (gX (M0 L V b) 131 2 x3 && (r32 x2 && true)) = true := an f0 (an f1 rfl)
  show some (gX (M0 L V b) 131 2 x3 && (r32 x2 && true), _) = _
  rw [hG]
  try rfl

theorem B161_19 (L : Nat) (V : Mv) (b : Bool) (x1 : Int) (x2 : Int) (x3 : Int) (s1 : Int) (s2 : Int) (g0 : 0 ≤ (8 * x1) + x3 ∧ (8 * x1) + x3 < 32) (g1 : in32 (V 125 ((8 * x1) + x3).toNat)) : nxs 10 161 19 [some (.inr (.inr 120)), some (.inl x1), some (.inl x2), some (.inl x3)] [.inr (.inl s2), .inl s1, .inr (.inr 119)] (M0 L V b) = some (true, 49, [some (.inr (.inr 120)), some (.inl x1), some (.inl x2), some (.inl x3)], [.inr (.inl (V 125 ((8 * x1) + x3).toNat)), .inr (.inl s2), .inl s1, .inr (.inr 119)], M0 L V b) := by
  have f0 : gX (M0 L V b) 125 1 ((8 * x1) + x3) = true := gx_of rfl g0
  have f1 : r32 (V 125 ((8 * x1) + x3).toNat) = true := r32_of g1
  have hG : (gX (M0 L V b) 125 1 ((8 * x1) + x3) && (r32 (V 125 ((8 * x1) + x3).toNat) && true)) = true := an f0 (an f1 rfl)
  show some (gX (M0 L V b) 125 1 ((8 * x1) + x3) && (r32 (V 125 ((8 * x1) + x3).toNat) && true), _) = _
  rw [hG]
  try rfl

theorem B161_34 (L : Nat) (V : Mv) (b : Bool) (x1 : Int) (x2 : Int) (x3 : Int) (s1 : Int) (s2 : Int) (g0 : 0 ≤ (8 * x1) + x3 ∧ (8 * x1) + x3 < 32) (g1 : in32 (10 - (V 125 ((8 * x1) + x3).toNat))) : nxs 11 161 34 [some (.inr (.inr 120)), some (.inl x1), some (.inl x2), some (.inl x3)] [.inr (.inl s2), .inl s1, .inr (.inr 119)] (M0 L V b) = some (true, 49, [some (.inr (.inr 120)), some (.inl x1), some (.inl x2), some (.inl x3)], [.inr (.inl (10 - (V 125 ((8 * x1) + x3).toNat))), .inr (.inl s2), .inl s1, .inr (.inr 119)], M0 L V b) := by
  have f0 : gX (M0 L V b) 125 1 ((8 * x1) + x3) = true := gx_of rfl g0
  have f1 : r32 (10 - (V 125 ((8 * x1) + x3).toNat)) = true := r32_of g1
  have hG : (gX (M0 L V b) 125 1 ((8 * x1) + x3) && (r32 (10 - (V 125 ((8 * x1) + x3).toNat)) && true)) = true := an f0 (an f1 rfl)
  show some (gX (M0 L V b) 125 1 ((8 * x1) + x3) && (r32 (10 - (V 125 ((8 * x1) + x3).toNat)) && true), _) = _
  rw [hG]
  try rfl

theorem B161_49 (L : Nat) (V : Mv) (b : Bool) (x1 : Int) (x2 : Int) (x3 : Int) (s1 : Int) (s2 : Int) (s3 : Int) (g0 : 0 ≤ s1 ∧ s1 < 8) : nxs 4 161 49 [some (.inr (.inr 120)), some (.inl x1), some (.inl x2), some (.inl x3)] [.inr (.inl s3), .inr (.inl s2), .inl s1, .inr (.inr 119)] (M0 L V b) = some (true, 2, [some (.inr (.inr 120)), some (.inl x1), some (.inl x2), some (.inl (x3 + 1))], [], M0 L (uV V 119 (s1).toNat (s2 * s3)) b) := by
  have f0 : (gX (M0 L V b) 119 2 s1 && !Nat.beq 119 0) = true := gs_of (gx_of rfl g0) (by decide)
  have hG : ((gX (M0 L V b) 119 2 s1 && !Nat.beq 119 0) && true) = true := an f0 rfl
  show some ((gX (M0 L V b) 119 2 s1 && !Nat.beq 119 0) && true, _) = _
  rw [hG]
  try rfl

theorem B161_57 (L : Nat) (V : Mv) (b : Bool) (x1 : Int) (x2 : Int) (x3 : Int)  : nxs 1 161 57 [some (.inr (.inr 120)), some (.inl x1), some (.inl x2), some (.inl x3)] [] (M0 L V b) = some (true, 58, [some (.inr (.inr 120)), some (.inl x1), some (.inl x2), some (.inl x3)], [.inr (.inr 120)], M0 L V b) := by
  rfl

-- 162: MendedOrNewModel.mend(II)I
theorem B162_0 (L : Nat) (V : Mv) (b : Bool) (x1 : Int) (x2 : Int)  : nxs 3 162 0 [some (.inr (.inr 120)), some (.inl x1), some (.inl x2)] [] (M0 L V b) = some (true, 3, [some (.inr (.inr 120)), some (.inl x1), some (.inl x2)], [.inl x2, .inl x1, .inr (.inr 120)], M0 L V b) := by
  rfl

theorem B162_6 (L : Nat) (V : Mv) (b : Bool) (x1 : Int) (x2 : Int) (s0 : Int) (g0 : in32 s0) : nxs 1 162 6 [some (.inr (.inr 120)), some (.inl x1), some (.inl x2)] [.inl s0] (M0 L V b) = some (true, cond (!decide (s0 = 0)) 11 9, [some (.inr (.inr 120)), some (.inl x1), some (.inl x2)], [], M0 L V b) := by
  have f0 : r32 s0 = true := r32_of g0
  have hG : (r32 s0 && true) = true := an f0 rfl
  show some (r32 s0 && true, _) = _
  rw [hG]
  try rfl

theorem B162_9 (L : Nat) (V : Mv) (b : Bool) (x1 : Int) (x2 : Int)  : nxs 1 162 9 [some (.inr (.inr 120)), some (.inl x1), some (.inl x2)] [] (M0 L V b) = some (true, 10, [some (.inr (.inr 120)), some (.inl x1), some (.inl x2)], [.inl (-1)], M0 L V b) := by
  rfl

theorem B162_11 (L : Nat) (V : Mv) (b : Bool) (x1 : Int) (x2 : Int) (g0 : 0 ≤ (4 * x1) + x2 ∧ (4 * x1) + x2 < 16) : nxs 9 162 11 [some (.inr (.inr 120)), some (.inl x1), some (.inl x2)] [] (M0 L V b) = some (true, 22, [some (.inr (.inr 120)), some (.inl x1), some (.inl x2)], [.inl (V 126 ((4 * x1) + x2).toNat), .inr (.inr 120)], M0 L V b) := by
  have f0 : gX (M0 L V b) 126 1 ((4 * x1) + x2) = true := gx_of rfl g0
  have hG : (gX (M0 L V b) 126 1 ((4 * x1) + x2) && true) = true := an f0 rfl
  show some (gX (M0 L V b) 126 1 ((4 * x1) + x2) && true, _) = _
  rw [hG]
  try rfl

theorem B162_25 (L : Nat) (V : Mv) (b : Bool) (x1 : Int) (x2 : Int)  : nxs 2 162 25 [some (.inr (.inr 120)), some (.inl x1), some (.inl x2)] [] (M0 L V b) = some (true, 27, [some (.inr (.inr 120)), some (.inl x1), some (.inl x2)], [.inl x1, .inr (.inr 120)], M0 L V b) := by
  rfl

theorem B162_30 (L : Nat) (V : Mv) (b : Bool) (x1 : Int) (x2 : Int) (g0 : 0 ≤ (4 * x1) + x2 ∧ (4 * x1) + x2 < 16) : nxs 8 162 30 [some (.inr (.inr 120)), some (.inl x1), some (.inl x2)] [] (M0 L V b) = some (true, 40, [some (.inr (.inr 120)), some (.inl x1), some (.inl x2)], [.inl (V 126 ((4 * x1) + x2).toNat)], M0 L V b) := by
  have f0 : gX (M0 L V b) 126 1 ((4 * x1) + x2) = true := gx_of rfl g0
  have hG : (gX (M0 L V b) 126 1 ((4 * x1) + x2) && true) = true := an f0 rfl
  show some (gX (M0 L V b) 126 1 ((4 * x1) + x2) && true, _) = _
  rw [hG]
  try rfl

-- 163: MendedOrNewModel.seen(I)V
theorem B163_0 (L : Nat) (V : Mv) (b : Bool) (x1 : Int)  : nxs 2 163 0 [some (.inr (.inr 120)), some (.inl x1), none] [] (M0 L V b) = some (true, 2, [some (.inr (.inr 120)), some (.inl x1), some (.inl 0)], [], M0 L V b) := by
  rfl

theorem B163_2 (L : Nat) (V : Mv) (b : Bool) (x1 : Int) (x2 : Int) (g0 : in32 x2) : nxs 3 163 2 [some (.inr (.inr 120)), some (.inl x1), some (.inl x2)] [] (M0 L V b) = some (true, cond (decide (8 ≤ x2)) 30 8, [some (.inr (.inr 120)), some (.inl x1), some (.inl x2)], [], M0 L V b) := by
  have f0 : (r32 x2 && r32 8) = true := rr32_of g0 (by decide)
  have hG : ((r32 x2 && r32 8) && true) = true := an f0 rfl
  show some ((r32 x2 && r32 8) && true, _) = _
  rw [hG]
  try rfl

theorem B163_8 (L : Nat) (V : Mv) (b : Bool) (x1 : Int) (x2 : Int) (g0 : in32 x2) (g1 : in32 x1) : nxs 6 163 8 [some (.inr (.inr 120)), some (.inl x1), some (.inl x2)] [] (M0 L V b) = some (true, cond (!decide (x2 = x1)) 22 18, [some (.inr (.inr 120)), some (.inl x1), some (.inl x2)], [.inl x2, .inr (.inr 131)], M0 L V b) := by
  have f0 : (r32 x2 && r32 x1) = true := rr32_of g0 g1
  have hG : ((r32 x2 && r32 x1) && true) = true := an f0 rfl
  show some ((r32 x2 && r32 x1) && true, _) = _
  rw [hG]
  try rfl

theorem B163_18 (L : Nat) (V : Mv) (b : Bool) (x1 : Int) (x2 : Int) (s1 : Int)  : nxs 2 163 18 [some (.inr (.inr 120)), some (.inl x1), some (.inl x2)] [.inl s1, .inr (.inr 119)] (M0 L V b) = some (true, 23, [some (.inr (.inr 120)), some (.inl x1), some (.inl x2)], [.inr (.inl 1), .inl s1, .inr (.inr 119)], M0 L V b) := by
  rfl

theorem B163_22 (L : Nat) (V : Mv) (b : Bool) (x1 : Int) (x2 : Int) (s1 : Int)  : nxs 1 163 22 [some (.inr (.inr 120)), some (.inl x1), some (.inl x2)] [.inl s1, .inr (.inr 119)] (M0 L V b) = some (true, 23, [some (.inr (.inr 120)), some (.inl x1), some (.inl x2)], [.inr (.inl 0), .inl s1, .inr (.inr 119)], M0 L V b) := by
  rfl

theorem B163_23 (L : Nat) (V : Mv) (b : Bool) (x1 : Int) (x2 : Int) (s1 : Int) (s2 : Int) (g0 : 0 ≤ s1 ∧ s1 < 8) : nxs 3 163 23 [some (.inr (.inr 120)), some (.inl x1), some (.inl x2)] [.inr (.inl s2), .inl s1, .inr (.inr 119)] (M0 L V b) = some (true, 2, [some (.inr (.inr 120)), some (.inl x1), some (.inl (x2 + 1))], [], M0 L (uV V 119 (s1).toNat s2) b) := by
  have f0 : (gX (M0 L V b) 119 2 s1 && !Nat.beq 119 0) = true := gs_of (gx_of rfl g0) (by decide)
  have hG : ((gX (M0 L V b) 119 2 s1 && !Nat.beq 119 0) && true) = true := an f0 rfl
  show some ((gX (M0 L V b) 119 2 s1 && !Nat.beq 119 0) && true, _) = _
  rw [hG]
  try rfl

-- 164: MendedOrNewModel.look(II)I
theorem B164_0 (L : Nat) (V : Mv) (b : Bool) (x1 : Int) (x2 : Int)  : nxs 3 164 0 [some (.inr (.inr 120)), some (.inl x1), some (.inl x2)] [] (M0 L V b) = some (true, 3, [some (.inr (.inr 120)), some (.inl x1), some (.inl x2)], [.inl x2, .inl x1, .inr (.inr 120)], M0 L V b) := by
  rfl

theorem B164_6 (L : Nat) (V : Mv) (b : Bool) (x1 : Int) (x2 : Int) (s0 : Int) (g0 : in32 s0) : nxs 1 164 6 [some (.inr (.inr 120)), some (.inl x1), some (.inl x2)] [.inl s0] (M0 L V b) = some (true, cond (!decide (s0 = 0)) 11 9, [some (.inr (.inr 120)), some (.inl x1), some (.inl x2)], [], M0 L V b) := by
  have f0 : r32 s0 = true := r32_of g0
  have hG : (r32 s0 && true) = true := an f0 rfl
  show some (r32 s0 && true, _) = _
  rw [hG]
  try rfl

theorem B164_9 (L : Nat) (V : Mv) (b : Bool) (x1 : Int) (x2 : Int)  : nxs 1 164 9 [some (.inr (.inr 120)), some (.inl x1), some (.inl x2)] [] (M0 L V b) = some (true, 10, [some (.inr (.inr 120)), some (.inl x1), some (.inl x2)], [.inl (-1)], M0 L V b) := by
  rfl

theorem B164_11 (L : Nat) (V : Mv) (b : Bool) (x1 : Int) (x2 : Int) (g0 : 0 ≤ x1 ∧ x1 < 4) (g1 : in32 (V 122 (x1).toNat)) : nxs 6 164 11 [some (.inr (.inr 120)), some (.inl x1), some (.inl x2)] [] (M0 L V b) = some (true, cond (decide (V 122 (x1).toNat = (-9))) 38 22, [some (.inr (.inr 120)), some (.inl x1), some (.inl x2)], [], M0 L V b) := by
  have f0 : gX (M0 L V b) 122 1 x1 = true := gx_of rfl g0
  have f1 : (r32 (V 122 (x1).toNat) && r32 (-9)) = true := rr32_of g1 (by decide)
  have hG : (gX (M0 L V b) 122 1 x1 && ((r32 (V 122 (x1).toNat) && r32 (-9)) && true)) = true := an f0 (an f1 rfl)
  show some (gX (M0 L V b) 122 1 x1 && ((r32 (V 122 (x1).toNat) && r32 (-9)) && true), _) = _
  rw [hG]
  try rfl

theorem B164_22 (L : Nat) (V : Mv) (b : Bool) (x1 : Int) (x2 : Int) (g0 : 0 ≤ (8 * x1) + x2 ∧ (8 * x1) + x2 < 24) (g1 : in64 (V 130 ((8 * x1) + x2).toNat)) (g2 : in32 (cmpI (V 130 ((8 * x1) + x2).toNat) 0)) : nxs 11 164 22 [some (.inr (.inr 120)), some (.inl x1), some (.inl x2)] [] (M0 L V b) = some (true, cond (!decide (cmpI (V 130 ((8 * x1) + x2).toNat) 0 = 0)) 41 38, [some (.inr (.inr 120)), some (.inl x1), some (.inl x2)], [], M0 L V b) := by
  have f0 : gX (M0 L V b) 130 2 ((8 * x1) + x2) = true := gx_of rfl g0
  have f1 : (r64 (V 130 ((8 * x1) + x2).toNat) && r64 0) = true := rr64_of g1 (by decide)
  have f2 : r32 (cmpI (V 130 ((8 * x1) + x2).toNat) 0) = true := r32_of g2
  have hG : (gX (M0 L V b) 130 2 ((8 * x1) + x2) && ((r64 (V 130 ((8 * x1) + x2).toNat) && r64 0) && (r32 (cmpI (V 130 ((8 * x1) + x2).toNat) 0) && true))) = true := an f0 (an f1 (an f2 rfl))
  show some (gX (M0 L V b) 130 2 ((8 * x1) + x2) && ((r64 (V 130 ((8 * x1) + x2).toNat) && r64 0) && (r32 (cmpI (V 130 ((8 * x1) + x2).toNat) 0) && true)), _) = _
  rw [hG]
  try rfl

theorem B164_38 (L : Nat) (V : Mv) (b : Bool) (x1 : Int) (x2 : Int)  : nxs 1 164 38 [some (.inr (.inr 120)), some (.inl x1), some (.inl x2)] [] (M0 L V b) = some (true, 40, [some (.inr (.inr 120)), some (.inl x1), some (.inl x2)], [.inl (-3)], M0 L V b) := by
  rfl

theorem B164_41 (L : Nat) (V : Mv) (b : Bool) (x1 : Int) (x2 : Int)  : nxs 2 164 41 [some (.inr (.inr 120)), some (.inl x1), some (.inl x2)] [] (M0 L V b) = some (true, 43, [some (.inr (.inr 120)), some (.inl x1), some (.inl x2)], [.inl x2, .inr (.inr 120)], M0 L V b) := by
  rfl

theorem B164_46 (L : Nat) (V : Mv) (b : Bool) (x1 : Int) (x2 : Int)  : nxs 2 164 46 [some (.inr (.inr 120)), some (.inl x1), some (.inl x2)] [] (M0 L V b) = some (true, 48, [some (.inr (.inr 120)), some (.inl x1), some (.inl x2)], [.inl x1, .inr (.inr 120)], M0 L V b) := by
  rfl

theorem B164_51 (L : Nat) (V : Mv) (b : Bool) (x1 : Int) (x2 : Int)  : nxs 1 164 51 [some (.inr (.inr 120)), some (.inl x1), some (.inl x2)] [] (M0 L V b) = some (true, 52, [some (.inr (.inr 120)), some (.inl x1), some (.inl x2)], [.inl 1], M0 L V b) := by
  rfl

-- 165: MendedOrNewModel.weight(II)J
theorem B165_0 (L : Nat) (V : Mv) (b : Bool) (x1 : Int) (x2 : Int)  : nxs 3 165 0 [some (.inr (.inr 120)), some (.inl x1), some (.inl x2)] [] (M0 L V b) = some (true, 3, [some (.inr (.inr 120)), some (.inl x1), some (.inl x2)], [.inl x2, .inl x1, .inr (.inr 120)], M0 L V b) := by
  rfl

theorem B165_6 (L : Nat) (V : Mv) (b : Bool) (x1 : Int) (x2 : Int) (s0 : Int) (g0 : in32 s0) : nxs 1 165 6 [some (.inr (.inr 120)), some (.inl x1), some (.inl x2)] [.inl s0] (M0 L V b) = some (true, cond (decide (s0 = 0)) 23 9, [some (.inr (.inr 120)), some (.inl x1), some (.inl x2)], [], M0 L V b) := by
  have f0 : r32 s0 = true := r32_of g0
  have hG : (r32 s0 && true) = true := an f0 rfl
  show some (r32 s0 && true, _) = _
  rw [hG]
  try rfl

theorem B165_9 (L : Nat) (V : Mv) (b : Bool) (x1 : Int) (x2 : Int) (g0 : 0 ≤ (8 * x1) + x2 ∧ (8 * x1) + x2 < 24) : nxs 9 165 9 [some (.inr (.inr 120)), some (.inl x1), some (.inl x2)] [] (M0 L V b) = some (true, 26, [some (.inr (.inr 120)), some (.inl x1), some (.inl x2)], [.inr (.inl (V 130 ((8 * x1) + x2).toNat))], M0 L V b) := by
  have f0 : gX (M0 L V b) 130 2 ((8 * x1) + x2) = true := gx_of rfl g0
  have hG : (gX (M0 L V b) 130 2 ((8 * x1) + x2) && true) = true := an f0 rfl
  show some (gX (M0 L V b) 130 2 ((8 * x1) + x2) && true, _) = _
  rw [hG]
  try rfl

theorem B165_23 (L : Nat) (V : Mv) (b : Bool) (x1 : Int) (x2 : Int)  : nxs 1 165 23 [some (.inr (.inr 120)), some (.inl x1), some (.inl x2)] [] (M0 L V b) = some (true, 26, [some (.inr (.inr 120)), some (.inl x1), some (.inl x2)], [.inr (.inl (-1))], M0 L V b) := by
  rfl

-- 166: MendedOrNewModel.chance(IIZ)J
theorem B166_0 (L : Nat) (V : Mv) (b : Bool) (x1 : Int) (x2 : Int) (x3 : Int)  : nxs 3 166 0 [some (.inr (.inr 120)), some (.inl x1), some (.inl x2), some (.inl x3)] [] (M0 L V b) = some (true, 3, [some (.inr (.inr 120)), some (.inl x1), some (.inl x2), some (.inl x3)], [.inl x2, .inl x1, .inr (.inr 120)], M0 L V b) := by
  rfl

theorem B166_6 (L : Nat) (V : Mv) (b : Bool) (x1 : Int) (x2 : Int) (x3 : Int) (s0 : Int) (g0 : in32 s0) : nxs 1 166 6 [some (.inr (.inr 120)), some (.inl x1), some (.inl x2), some (.inl x3)] [.inl s0] (M0 L V b) = some (true, cond (decide (s0 = 0)) 32 9, [some (.inr (.inr 120)), some (.inl x1), some (.inl x2), some (.inl x3)], [], M0 L V b) := by
  have f0 : r32 s0 = true := r32_of g0
  have hG : (r32 s0 && true) = true := an f0 rfl
  show some (r32 s0 && true, _) = _
  rw [hG]
  try rfl

theorem B166_9 (L : Nat) (V : Mv) (b : Bool) (x1 : Int) (x2 : Int) (x3 : Int) (g0 : 0 ≤ (8 * x1) + x2 ∧ (8 * x1) + x2 < 24) : nxs 10 166 9 [some (.inr (.inr 120)), some (.inl x1), some (.inl x2), some (.inl x3)] [] (M0 L V b) = some (true, 22, [some (.inr (.inr 120)), some (.inl x1), some (.inl x2), some (.inl x3)], [.inl x1, .inr (.inr 120), .inr (.inl (V 130 ((8 * x1) + x2).toNat))], M0 L V b) := by
  have f0 : gX (M0 L V b) 130 2 ((8 * x1) + x2) = true := gx_of rfl g0
  have hG : (gX (M0 L V b) 130 2 ((8 * x1) + x2) && true) = true := an f0 rfl
  show some (gX (M0 L V b) 130 2 ((8 * x1) + x2) && true, _) = _
  rw [hG]
  try rfl

theorem B166_25 (L : Nat) (V : Mv) (b : Bool) (x1 : Int) (x2 : Int) (x3 : Int) (s0 : Int) (s1 : Int)  : nxs 1 166 25 [some (.inr (.inr 120)), some (.inl x1), some (.inl x2), some (.inl x3)] [.inr (.inl s1), .inr (.inl s0)] (M0 L V b) = some (true, 26, [some (.inr (.inr 120)), some (.inl x1), some (.inl x2), some (.inl x3)], [.inl x3, .inr (.inl s1), .inr (.inl s0)], M0 L V b) := by
  rfl

theorem B166_29 (L : Nat) (V : Mv) (b : Bool) (x1 : Int) (x2 : Int) (x3 : Int) (s0 : Int)  : nxs 1 166 29 [some (.inr (.inr 120)), some (.inl x1), some (.inl x2), some (.inl x3)] [.inr (.inl s0)] (M0 L V b) = some (true, 35, [some (.inr (.inr 120)), some (.inl x1), some (.inl x2), some (.inl x3)], [.inr (.inl s0)], M0 L V b) := by
  rfl

theorem B166_32 (L : Nat) (V : Mv) (b : Bool) (x1 : Int) (x2 : Int) (x3 : Int)  : nxs 1 166 32 [some (.inr (.inr 120)), some (.inl x1), some (.inl x2), some (.inl x3)] [] (M0 L V b) = some (true, 35, [some (.inr (.inr 120)), some (.inl x1), some (.inl x2), some (.inl x3)], [.inr (.inl (-1))], M0 L V b) := by
  rfl

-- 167: MendedOrNewModel.allOf(I)J
theorem B167_0 (L : Nat) (V : Mv) (b : Bool) (x1 : Int)  : nxs 4 167 0 [some (.inr (.inr 120)), some (.inl x1), none, none, none] [] (M0 L V b) = some (true, 5, [some (.inr (.inr 120)), some (.inl x1), some (.inr (.inl 0)), none, some (.inl 0)], [], M0 L V b) := by
  rfl

theorem B167_5 (L : Nat) (V : Mv) (b : Bool) (x1 : Int) (x2 : Int) (x4 : Int) (g0 : in32 x4) : nxs 3 167 5 [some (.inr (.inr 120)), some (.inl x1), some (.inr (.inl x2)), none, some (.inl x4)] [] (M0 L V b) = some (true, cond (decide (8 ≤ x4)) 33 12, [some (.inr (.inr 120)), some (.inl x1), some (.inr (.inl x2)), none, some (.inl x4)], [], M0 L V b) := by
  have f0 : (r32 x4 && r32 8) = true := rr32_of g0 (by decide)
  have hG : ((r32 x4 && r32 8) && true) = true := an f0 rfl
  show some ((r32 x4 && r32 8) && true, _) = _
  rw [hG]
  try rfl

theorem B167_12 (L : Nat) (V : Mv) (b : Bool) (x1 : Int) (x2 : Int) (x4 : Int) (g0 : 0 ≤ (8 * x1) + x4 ∧ (8 * x1) + x4 < 24) : nxs 13 167 12 [some (.inr (.inr 120)), some (.inl x1), some (.inr (.inl x2)), none, some (.inl x4)] [] (M0 L V b) = some (true, 5, [some (.inr (.inr 120)), some (.inl x1), some (.inr (.inl (x2 + (V 130 ((8 * x1) + x4).toNat)))), none, some (.inl (x4 + 1))], [], M0 L V b) := by
  have f0 : gX (M0 L V b) 130 2 ((8 * x1) + x4) = true := gx_of rfl g0
  have hG : (gX (M0 L V b) 130 2 ((8 * x1) + x4) && true) = true := an f0 rfl
  show some (gX (M0 L V b) 130 2 ((8 * x1) + x4) && true, _) = _
  rw [hG]
  try rfl

theorem B167_33 (L : Nat) (V : Mv) (b : Bool) (x1 : Int) (x2 : Int) (x4 : Int)  : nxs 1 167 33 [some (.inr (.inr 120)), some (.inl x1), some (.inr (.inl x2)), none, some (.inl x4)] [] (M0 L V b) = some (true, 34, [some (.inr (.inr 120)), some (.inl x1), some (.inr (.inl x2)), none, some (.inl x4)], [.inr (.inl x2)], M0 L V b) := by
  rfl

-- 168: MendedOrNewModel.told(JJZ)J
theorem B168_0 (L : Nat) (V : Mv) (b : Bool) (x0 : Int) (x2 : Int) (x4 : Int)  : nxs 2 168 0 [some (.inr (.inl x0)), none, some (.inr (.inl x2)), none, some (.inl x4), none, none] [] (M0 L V b) = some (true, 2, [some (.inr (.inl x0)), none, some (.inr (.inl x2)), none, some (.inl x4), none, none], [.inr (.inl x2), .inr (.inl x0)], M0 L V b) := by
  rfl

theorem B168_5 (L : Nat) (V : Mv) (b : Bool) (x0 : Int) (x2 : Int) (x4 : Int) (s0 : Int) (g0 : in32 x4) : nxs 3 168 5 [some (.inr (.inl x0)), none, some (.inr (.inl x2)), none, some (.inl x4), none, none] [.inr (.inl s0)] (M0 L V b) = some (true, cond (decide (x4 = 0)) 19 12, [some (.inr (.inl x0)), none, some (.inr (.inl x2)), none, some (.inl x4), some (.inr (.inl s0)), none], [], M0 L V b) := by
  have f0 : r32 x4 = true := r32_of g0
  have hG : (r32 x4 && true) = true := an f0 rfl
  show some (r32 x4 && true, _) = _
  rw [hG]
  try rfl

theorem B168_12 (L : Nat) (V : Mv) (b : Bool) (x0 : Int) (x2 : Int) (x4 : Int) (x5 : Int) (g0 : in64 x0) (g1 : in64 x5) (g2 : ¬ x5 = 0) : nxs 4 168 12 [some (.inr (.inl x0)), none, some (.inr (.inl x2)), none, some (.inl x4), some (.inr (.inl x5)), none] [] (M0 L V b) = some (true, 23, [some (.inr (.inl x0)), none, some (.inr (.inl x2)), none, some (.inl x4), some (.inr (.inl x5)), none], [.inr (.inl (Int.tdiv x0 x5))], M0 L V b) := by
  have f0 : gL x0 x5 = true := gL_of g0 g1 g2
  have hG : (gL x0 x5 && true) = true := an f0 rfl
  show some (gL x0 x5 && true, _) = _
  rw [hG]
  try rfl

theorem B168_19 (L : Nat) (V : Mv) (b : Bool) (x0 : Int) (x2 : Int) (x4 : Int) (x5 : Int) (g0 : in64 x2) (g1 : in64 x5) (g2 : ¬ x5 = 0) : nxs 3 168 19 [some (.inr (.inl x0)), none, some (.inr (.inl x2)), none, some (.inl x4), some (.inr (.inl x5)), none] [] (M0 L V b) = some (true, 23, [some (.inr (.inl x0)), none, some (.inr (.inl x2)), none, some (.inl x4), some (.inr (.inl x5)), none], [.inr (.inl (Int.tdiv x2 x5))], M0 L V b) := by
  have f0 : gL x2 x5 = true := gL_of g0 g1 g2
  have hG : (gL x2 x5 && true) = true := an f0 rfl
  show some (gL x2 x5 && true, _) = _
  rw [hG]
  try rfl

-- 169: MendedOrNewModel.knock(IZ)J
theorem B169_0 (L : Nat) (V : Mv) (b : Bool) (x1 : Int) (x2 : Int)  : nxs 1 169 0 [some (.inr (.inr 120)), some (.inl x1), some (.inl x2), none, none, none] [] (M0 L V b) = some (true, 1, [some (.inr (.inr 120)), some (.inl x1), some (.inl x2), none, none, none], [.inl x1], M0 L V b) := by
  rfl

theorem B169_4 (L : Nat) (V : Mv) (b : Bool) (x1 : Int) (x2 : Int) (s0 : Int) (g0 : in32 s0) : nxs 1 169 4 [some (.inr (.inr 120)), some (.inl x1), some (.inl x2), none, none, none] [.inl s0] (M0 L V b) = some (true, cond (!decide (s0 = 0)) 11 7, [some (.inr (.inr 120)), some (.inl x1), some (.inl x2), none, none, none], [], M0 L V b) := by
  have f0 : r32 s0 = true := r32_of g0
  have hG : (r32 s0 && true) = true := an f0 rfl
  show some (r32 s0 && true, _) = _
  rw [hG]
  try rfl

theorem B169_7 (L : Nat) (V : Mv) (b : Bool) (x1 : Int) (x2 : Int)  : nxs 1 169 7 [some (.inr (.inr 120)), some (.inl x1), some (.inl x2), none, none, none] [] (M0 L V b) = some (true, 10, [some (.inr (.inr 120)), some (.inl x1), some (.inl x2), none, none, none], [.inr (.inl (-1))], M0 L V b) := by
  rfl

theorem B169_11 (L : Nat) (V : Mv) (b : Bool) (x1 : Int) (x2 : Int)  : nxs 4 169 11 [some (.inr (.inr 120)), some (.inl x1), some (.inl x2), none, none, none] [] (M0 L V b) = some (true, 16, [some (.inr (.inr 120)), some (.inl x1), some (.inl x2), some (.inr (.inl 0)), none, some (.inl 0)], [], M0 L V b) := by
  rfl

theorem B169_16 (L : Nat) (V : Mv) (b : Bool) (x1 : Int) (x2 : Int) (x3 : Int) (x5 : Int) (g0 : in32 x5) : nxs 3 169 16 [some (.inr (.inr 120)), some (.inl x1), some (.inl x2), some (.inr (.inl x3)), none, some (.inl x5)] [] (M0 L V b) = some (true, cond (decide (8 ≤ x5)) 58 23, [some (.inr (.inr 120)), some (.inl x1), some (.inl x2), some (.inr (.inl x3)), none, some (.inl x5)], [], M0 L V b) := by
  have f0 : (r32 x5 && r32 8) = true := rr32_of g0 (by decide)
  have hG : ((r32 x5 && r32 8) && true) = true := an f0 rfl
  show some ((r32 x5 && r32 8) && true, _) = _
  rw [hG]
  try rfl

theorem B169_23 (L : Nat) (V : Mv) (b : Bool) (x1 : Int) (x2 : Int) (x3 : Int) (x5 : Int) (g0 : 0 ≤ (8 * x1) + x5 ∧ (8 * x1) + x5 < 24) (g1 : 0 ≤ (8 * x1) + x5 ∧ (8 * x1) + x5 < 32) (g2 : in32 (V 125 ((8 * x1) + x5).toNat)) : nxs 23 169 23 [some (.inr (.inr 120)), some (.inl x1), some (.inl x2), some (.inr (.inl x3)), none, some (.inl x5)] [] (M0 L V b) = some (true, 16, [some (.inr (.inr 120)), some (.inl x1), some (.inl x2), some (.inr (.inl (x3 + ((V 130 ((8 * x1) + x5).toNat) * (V 125 ((8 * x1) + x5).toNat))))), none, some (.inl (x5 + 1))], [], M0 L V b) := by
  have f0 : gX (M0 L V b) 130 2 ((8 * x1) + x5) = true := gx_of rfl g0
  have f1 : gX (M0 L V b) 125 1 ((8 * x1) + x5) = true := gx_of rfl g1
  have f2 : r32 (V 125 ((8 * x1) + x5).toNat) = true := r32_of g2
  have hG : (gX (M0 L V b) 130 2 ((8 * x1) + x5) && (gX (M0 L V b) 125 1 ((8 * x1) + x5) && (r32 (V 125 ((8 * x1) + x5).toNat) && true))) = true := an f0 (an f1 (an f2 rfl))
  show some (gX (M0 L V b) 130 2 ((8 * x1) + x5) && (gX (M0 L V b) 125 1 ((8 * x1) + x5) && (r32 (V 125 ((8 * x1) + x5).toNat) && true)), _) = _
  rw [hG]
  try rfl

theorem B169_58 (L : Nat) (V : Mv) (b : Bool) (x1 : Int) (x2 : Int) (x3 : Int) (x5 : Int)  : nxs 4 169 58 [some (.inr (.inr 120)), some (.inl x1), some (.inl x2), some (.inr (.inl x3)), none, some (.inl x5)] [] (M0 L V b) = some (true, 64, [some (.inr (.inr 120)), some (.inl x1), some (.inl x2), some (.inr (.inl x3)), none, some (.inl x5)], [.inl x1, .inr (.inr 120), .inr (.inl 10), .inr (.inl x3)], M0 L V b) := by
  rfl

theorem B169_67 (L : Nat) (V : Mv) (b : Bool) (x1 : Int) (x2 : Int) (x3 : Int) (x5 : Int) (s0 : Int) (s1 : Int) (s2 : Int)  : nxs 2 169 67 [some (.inr (.inr 120)), some (.inl x1), some (.inl x2), some (.inr (.inl x3)), none, some (.inl x5)] [.inr (.inl s2), .inr (.inl s1), .inr (.inl s0)] (M0 L V b) = some (true, 69, [some (.inr (.inr 120)), some (.inl x1), some (.inl x2), some (.inr (.inl x3)), none, some (.inl x5)], [.inl x2, .inr (.inl (s1 * s2)), .inr (.inl s0)], M0 L V b) := by
  rfl

-- 170: MendedOrNewModel.likely(I)I
theorem B170_0 (L : Nat) (V : Mv) (b : Bool) (x1 : Int)  : nxs 1 170 0 [some (.inr (.inr 120)), some (.inl x1), none, none] [] (M0 L V b) = some (true, 1, [some (.inr (.inr 120)), some (.inl x1), none, none], [.inl x1], M0 L V b) := by
  rfl

theorem B170_4 (L : Nat) (V : Mv) (b : Bool) (x1 : Int) (s0 : Int) (g0 : in32 s0) : nxs 1 170 4 [some (.inr (.inr 120)), some (.inl x1), none, none] [.inl s0] (M0 L V b) = some (true, cond (!decide (s0 = 0)) 9 7, [some (.inr (.inr 120)), some (.inl x1), none, none], [], M0 L V b) := by
  have f0 : r32 s0 = true := r32_of g0
  have hG : (r32 s0 && true) = true := an f0 rfl
  show some (r32 s0 && true, _) = _
  rw [hG]
  try rfl

theorem B170_7 (L : Nat) (V : Mv) (b : Bool) (x1 : Int)  : nxs 1 170 7 [some (.inr (.inr 120)), some (.inl x1), none, none] [] (M0 L V b) = some (true, 8, [some (.inr (.inr 120)), some (.inl x1), none, none], [.inl (-1)], M0 L V b) := by
  rfl

theorem B170_9 (L : Nat) (V : Mv) (b : Bool) (x1 : Int)  : nxs 4 170 9 [some (.inr (.inr 120)), some (.inl x1), none, none] [] (M0 L V b) = some (true, 13, [some (.inr (.inr 120)), some (.inl x1), some (.inl 0), some (.inl 1)], [], M0 L V b) := by
  rfl

theorem B170_13 (L : Nat) (V : Mv) (b : Bool) (x1 : Int) (x2 : Int) (x3 : Int) (g0 : 0 ≤ x1 ∧ x1 < 4) (g1 : in32 x3) (g2 : in32 (V 121 (x1).toNat)) : nxs 6 170 13 [some (.inr (.inr 120)), some (.inl x1), some (.inl x2), some (.inl x3)] [] (M0 L V b) = some (true, cond (decide (V 121 (x1).toNat ≤ x3)) 61 23, [some (.inr (.inr 120)), some (.inl x1), some (.inl x2), some (.inl x3)], [], M0 L V b) := by
  have f0 : gX (M0 L V b) 121 1 x1 = true := gx_of rfl g0
  have f1 : (r32 x3 && r32 (V 121 (x1).toNat)) = true := rr32_of g1 g2
  have hG : (gX (M0 L V b) 121 1 x1 && ((r32 x3 && r32 (V 121 (x1).toNat)) && true)) = true := an f0 (an f1 rfl)
  show some (gX (M0 L V b) 121 1 x1 && ((r32 x3 && r32 (V 121 (x1).toNat)) && true), _) = _
  rw [hG]
  try rfl

theorem B170_23 (L : Nat) (V : Mv) (b : Bool) (x1 : Int) (x2 : Int) (x3 : Int) (g0 : 0 ≤ (8 * x1) + x3 ∧ (8 * x1) + x3 < 24) (g1 : 0 ≤ (8 * x1) + x2 ∧ (8 * x1) + x2 < 24) (g2 : in64 (V 130 ((8 * x1) + x3).toNat)) (g3 : in64 (V 130 ((8 * x1) + x2).toNat)) (g4 : in32 (cmpI (V 130 ((8 * x1) + x3).toNat) (V 130 ((8 * x1) + x2).toNat))) : nxs 18 170 23 [some (.inr (.inr 120)), some (.inl x1), some (.inl x2), some (.inl x3)] [] (M0 L V b) = some (true, cond (decide (cmpI (V 130 ((8 * x1) + x3).toNat) (V 130 ((8 * x1) + x2).toNat) ≤ 0)) 53 49, [some (.inr (.inr 120)), some (.inl x1), some (.inl x2), some (.inl x3)], [], M0 L V b) := by
  have f0 : gX (M0 L V b) 130 2 ((8 * x1) + x3) = true := gx_of rfl g0
  have f1 : gX (M0 L V b) 130 2 ((8 * x1) + x2) = true := gx_of rfl g1
  have f2 : (r64 (V 130 ((8 * x1) + x3).toNat) && r64 (V 130 ((8 * x1) + x2).toNat)) = true := rr64_of g2 g3
  have f3 : r32 (cmpI (V 130 ((8 * x1) + x3).toNat) (V 130 ((8 * x1) + x2).toNat)) = true := r32_of g4
  have hG : (gX (M0 L V b) 130 2 ((8 * x1) + x3) && (gX (M0 L V b) 130 2 ((8 * x1) + x2) && ((r64 (V 130 ((8 * x1) + x3).toNat) && r64 (V 130 ((8 * x1) + x2).toNat)) && (r32 (cmpI (V 130 ((8 * x1) + x3).toNat) (V 130 ((8 * x1) + x2).toNat)) && true)))) = true := an f0 (an f1 (an f2 (an f3 rfl)))
  show some (gX (M0 L V b) 130 2 ((8 * x1) + x3) && (gX (M0 L V b) 130 2 ((8 * x1) + x2) && ((r64 (V 130 ((8 * x1) + x3).toNat) && r64 (V 130 ((8 * x1) + x2).toNat)) && (r32 (cmpI (V 130 ((8 * x1) + x3).toNat) (V 130 ((8 * x1) + x2).toNat)) && true))), _) = _
  rw [hG]
  try rfl

theorem B170_49 (L : Nat) (V : Mv) (b : Bool) (x1 : Int) (x2 : Int) (x3 : Int)  : nxs 2 170 49 [some (.inr (.inr 120)), some (.inl x1), some (.inl x2), some (.inl x3)] [] (M0 L V b) = some (true, 54, [some (.inr (.inr 120)), some (.inl x1), some (.inl x2), some (.inl x3)], [.inl x3], M0 L V b) := by
  rfl

theorem B170_53 (L : Nat) (V : Mv) (b : Bool) (x1 : Int) (x2 : Int) (x3 : Int)  : nxs 1 170 53 [some (.inr (.inr 120)), some (.inl x1), some (.inl x2), some (.inl x3)] [] (M0 L V b) = some (true, 54, [some (.inr (.inr 120)), some (.inl x1), some (.inl x2), some (.inl x3)], [.inl x2], M0 L V b) := by
  rfl

theorem B170_54 (L : Nat) (V : Mv) (b : Bool) (x1 : Int) (x2 : Int) (x3 : Int) (s0 : Int)  : nxs 3 170 54 [some (.inr (.inr 120)), some (.inl x1), some (.inl x2), some (.inl x3)] [.inl s0] (M0 L V b) = some (true, 13, [some (.inr (.inr 120)), some (.inl x1), some (.inl s0), some (.inl (x3 + 1))], [], M0 L V b) := by
  rfl

theorem B170_61 (L : Nat) (V : Mv) (b : Bool) (x1 : Int) (x2 : Int) (x3 : Int)  : nxs 1 170 61 [some (.inr (.inr 120)), some (.inl x1), some (.inl x2), some (.inl x3)] [] (M0 L V b) = some (true, 62, [some (.inr (.inr 120)), some (.inl x1), some (.inl x2), some (.inl x3)], [.inl x2], M0 L V b) := by
  rfl

-- 171: MendedOrNewModel.life(IIZ)J
theorem B171_0 (L : Nat) (V : Mv) (b : Bool) (x1 : Int) (x2 : Int) (x3 : Int)  : nxs 3 171 0 [some (.inr (.inr 120)), some (.inl x1), some (.inl x2), some (.inl x3), none, none, none, none, none, none, none, none, none, none] [] (M0 L V b) = some (true, 3, [some (.inr (.inr 120)), some (.inl x1), some (.inl x2), some (.inl x3), none, none, none, none, none, none, none, none, none, none], [.inl x2, .inl x1, .inr (.inr 120)], M0 L V b) := by
  rfl

theorem B171_6 (L : Nat) (V : Mv) (b : Bool) (x1 : Int) (x2 : Int) (x3 : Int) (s0 : Int) (g0 : in32 s0) : nxs 1 171 6 [some (.inr (.inr 120)), some (.inl x1), some (.inl x2), some (.inl x3), none, none, none, none, none, none, none, none, none, none] [.inl s0] (M0 L V b) = some (true, cond (!decide (s0 = 0)) 13 9, [some (.inr (.inr 120)), some (.inl x1), some (.inl x2), some (.inl x3), none, none, none, none, none, none, none, none, none, none], [], M0 L V b) := by
  have f0 : r32 s0 = true := r32_of g0
  have hG : (r32 s0 && true) = true := an f0 rfl
  show some (r32 s0 && true, _) = _
  rw [hG]
  try rfl

theorem B171_9 (L : Nat) (V : Mv) (b : Bool) (x1 : Int) (x2 : Int) (x3 : Int)  : nxs 1 171 9 [some (.inr (.inr 120)), some (.inl x1), some (.inl x2), some (.inl x3), none, none, none, none, none, none, none, none, none, none] [] (M0 L V b) = some (true, 12, [some (.inr (.inr 120)), some (.inl x1), some (.inl x2), some (.inl x3), none, none, none, none, none, none, none, none, none, none], [.inr (.inl (-1))], M0 L V b) := by
  rfl

theorem B171_13 (L : Nat) (V : Mv) (b : Bool) (x1 : Int) (x2 : Int) (x3 : Int) (g0 : 0 ≤ x1 ∧ x1 < 4) : nxs 7 171 13 [some (.inr (.inr 120)), some (.inl x1), some (.inl x2), some (.inl x3), none, none, none, none, none, none, none, none, none, none] [] (M0 L V b) = some (true, 23, [some (.inr (.inr 120)), some (.inl x1), some (.inl x2), some (.inl x3), some (.inl ((V 121 (x1).toNat) - 1)), none, none, none, none, none, none, none, none, none], [], M0 L V b) := by
  have f0 : gX (M0 L V b) 121 1 x1 = true := gx_of rfl g0
  have hG : (gX (M0 L V b) 121 1 x1 && true) = true := an f0 rfl
  show some (gX (M0 L V b) 121 1 x1 && true, _) = _
  rw [hG]
  try rfl

theorem B171_23 (L : Nat) (V : Mv) (b : Bool) (x1 : Int) (x2 : Int) (x3 : Int) (x4 : Int) (g0 : in32 x4) : nxs 2 171 23 [some (.inr (.inr 120)), some (.inl x1), some (.inl x2), some (.inl x3), some (.inl x4), none, none, none, none, none, none, none, none, none] [] (M0 L V b) = some (true, cond (decide (x4 < 0)) 273 28, [some (.inr (.inr 120)), some (.inl x1), some (.inl x2), some (.inl x3), some (.inl x4), none, none, none, none, none, none, none, none, none], [], M0 L V b) := by
  have f0 : r32 x4 = true := r32_of g0
  have hG : (r32 x4 && true) = true := an f0 rfl
  show some (r32 x4 && true, _) = _
  rw [hG]
  try rfl

theorem B171_28 (L : Nat) (V : Mv) (b : Bool) (x1 : Int) (x2 : Int) (x3 : Int) (x4 : Int) (g0 : 0 ≤ x4 ∧ x4 < 8) (g1 : 0 ≤ x1 ∧ x1 < 4) (g2 : in32 x4) (g3 : in32 (((uV V 133 (x4).toNat 0) 121 (x1).toNat) - 1)) : nxs 16 171 28 [some (.inr (.inr 120)), some (.inl x1), some (.inl x2), some (.inl x3), some (.inl x4), none, none, none, none, none, none, none, none, none] [] (M0 L V b) = some (true, cond (!decide (x4 = ((uV V 133 (x4).toNat 0) 121 (x1).toNat) - 1)) 59 55, [some (.inr (.inr 120)), some (.inl x1), some (.inl x2), some (.inl x3), some (.inl x4), none, none, none, none, none, none, none, none, none], [.inl x4, .inr (.inr 134)], M0 L (uV V 133 (x4).toNat 0) b) := by
  have f0 : (gX (M0 L V b) 133 2 x4 && !Nat.beq 133 0) = true := gs_of (gx_of rfl g0) (by decide)
  have f1 : gX (M0 L (uV V 133 (x4).toNat 0) b) 121 1 x1 = true := gx_of rfl g1
  have f2 : (r32 x4 && r32 (((uV V 133 (x4).toNat 0) 121 (x1).toNat) - 1)) = true := rr32_of g2 g3
  have hG : ((gX (M0 L V b) 133 2 x4 && !Nat.beq 133 0) && (gX (M0 L (uV V 133 (x4).toNat 0) b) 121 1 x1 && ((r32 x4 && r32 (((uV V 133 (x4).toNat 0) 121 (x1).toNat) - 1)) && true))) = true := an f0 (an f1 (an f2 rfl))
  show some ((gX (M0 L V b) 133 2 x4 && !Nat.beq 133 0) && (gX (M0 L (uV V 133 (x4).toNat 0) b) 121 1 x1 && ((r32 x4 && r32 (((uV V 133 (x4).toNat 0) 121 (x1).toNat) - 1)) && true)), _) = _
  rw [hG]
  try rfl

theorem B171_55 (L : Nat) (V : Mv) (b : Bool) (x1 : Int) (x2 : Int) (x3 : Int) (x4 : Int) (s1 : Int)  : nxs 2 171 55 [some (.inr (.inr 120)), some (.inl x1), some (.inl x2), some (.inl x3), some (.inl x4), none, none, none, none, none, none, none, none, none] [.inl s1, .inr (.inr 119)] (M0 L V b) = some (true, 60, [some (.inr (.inr 120)), some (.inl x1), some (.inl x2), some (.inl x3), some (.inl x4), none, none, none, none, none, none, none, none, none], [.inr (.inl 1), .inl s1, .inr (.inr 119)], M0 L V b) := by
  rfl

theorem B171_59 (L : Nat) (V : Mv) (b : Bool) (x1 : Int) (x2 : Int) (x3 : Int) (x4 : Int) (s1 : Int)  : nxs 1 171 59 [some (.inr (.inr 120)), some (.inl x1), some (.inl x2), some (.inl x3), some (.inl x4), none, none, none, none, none, none, none, none, none] [.inl s1, .inr (.inr 119)] (M0 L V b) = some (true, 60, [some (.inr (.inr 120)), some (.inl x1), some (.inl x2), some (.inl x3), some (.inl x4), none, none, none, none, none, none, none, none, none], [.inr (.inl 0), .inl s1, .inr (.inr 119)], M0 L V b) := by
  rfl

theorem B171_60 (L : Nat) (V : Mv) (b : Bool) (x1 : Int) (x2 : Int) (x3 : Int) (x4 : Int) (s1 : Int) (s2 : Int) (g0 : 0 ≤ s1 ∧ s1 < 8) : nxs 4 171 60 [some (.inr (.inr 120)), some (.inl x1), some (.inl x2), some (.inl x3), some (.inl x4), none, none, none, none, none, none, none, none, none] [.inr (.inl s2), .inl s1, .inr (.inr 119)] (M0 L V b) = some (true, 65, [some (.inr (.inr 120)), some (.inl x1), some (.inl x2), some (.inl x3), some (.inl x4), none, none, none, none, none, none, none, none, none], [.inl x4, .inl x1, .inr (.inr 120)], M0 L (uV V 119 (s1).toNat s2) b) := by
  have f0 : (gX (M0 L V b) 119 2 s1 && !Nat.beq 119 0) = true := gs_of (gx_of rfl g0) (by decide)
  have hG : ((gX (M0 L V b) 119 2 s1 && !Nat.beq 119 0) && true) = true := an f0 rfl
  show some ((gX (M0 L V b) 119 2 s1 && !Nat.beq 119 0) && true, _) = _
  rw [hG]
  try rfl

theorem B171_68 (L : Nat) (V : Mv) (b : Bool) (x1 : Int) (x2 : Int) (x3 : Int) (x4 : Int) (s0 : Int) (g0 : in32 s0) : nxs 3 171 68 [some (.inr (.inr 120)), some (.inl x1), some (.inl x2), some (.inl x3), some (.inl x4), none, none, none, none, none, none, none, none, none] [.inl s0] (M0 L V b) = some (true, cond (decide (s0 ≤ 0)) 267 75, [some (.inr (.inr 120)), some (.inl x1), some (.inl x2), some (.inl x3), some (.inl x4), some (.inl s0), none, none, none, none, none, none, none, none], [], M0 L V b) := by
  have f0 : r32 s0 = true := r32_of g0
  have hG : (r32 s0 && true) = true := an f0 rfl
  show some (r32 s0 && true, _) = _
  rw [hG]
  try rfl

theorem B171_75 (L : Nat) (V : Mv) (b : Bool) (x1 : Int) (x2 : Int) (x3 : Int) (x4 : Int) (x5 : Int)  : nxs 8 171 75 [some (.inr (.inr 120)), some (.inl x1), some (.inl x2), some (.inl x3), some (.inl x4), some (.inl x5), none, none, none, none, none, none, none, none] [] (M0 L V b) = some (true, 89, [some (.inr (.inr 120)), some (.inl x1), some (.inl x2), some (.inl x3), some (.inl x4), some (.inl x5), some (.inr (.inl 10)), none, some (.inr (.inl 1)), none, some (.inl (x4 + 1)), none, none, none], [], M0 L V b) := by
  rfl

theorem B171_89 (L : Nat) (V : Mv) (b : Bool) (x1 : Int) (x2 : Int) (x3 : Int) (x4 : Int) (x5 : Int) (x6 : Int) (x8 : Int) (x10 : Int) (g0 : 0 ≤ x1 ∧ x1 < 4) (g1 : in32 x10) (g2 : in32 (V 121 (x1).toNat)) : nxs 6 171 89 [some (.inr (.inr 120)), some (.inl x1), some (.inl x2), some (.inl x3), some (.inl x4), some (.inl x5), some (.inr (.inl x6)), none, some (.inr (.inl x8)), none, some (.inl x10), none, none, none] [] (M0 L V b) = some (true, cond (decide (V 121 (x1).toNat ≤ x10)) 204 100, [some (.inr (.inr 120)), some (.inl x1), some (.inl x2), some (.inl x3), some (.inl x4), some (.inl x5), some (.inr (.inl x6)), none, some (.inr (.inl x8)), none, some (.inl x10), none, none, none], [], M0 L V b) := by
  have f0 : gX (M0 L V b) 121 1 x1 = true := gx_of rfl g0
  have f1 : (r32 x10 && r32 (V 121 (x1).toNat)) = true := rr32_of g1 g2
  have hG : (gX (M0 L V b) 121 1 x1 && ((r32 x10 && r32 (V 121 (x1).toNat)) && true)) = true := an f0 (an f1 rfl)
  show some (gX (M0 L V b) 121 1 x1 && ((r32 x10 && r32 (V 121 (x1).toNat)) && true), _) = _
  rw [hG]
  try rfl

theorem B171_100 (L : Nat) (V : Mv) (b : Bool) (x1 : Int) (x2 : Int) (x3 : Int) (x4 : Int) (x5 : Int) (x6 : Int) (x8 : Int) (x10 : Int) (g0 : 0 ≤ ((64 * x1) + (8 * x4)) + x10 ∧ ((64 * x1) + (8 * x4)) + x10 < 256) (g1 : in32 (V 123 (((64 * x1) + (8 * x4)) + x10).toNat)) : nxs 15 171 100 [some (.inr (.inr 120)), some (.inl x1), some (.inl x2), some (.inl x3), some (.inl x4), some (.inl x5), some (.inr (.inl x6)), none, some (.inr (.inl x8)), none, some (.inl x10), none, none, none] [] (M0 L V b) = some (true, cond (decide (V 123 (((64 * x1) + (8 * x4)) + x10).toNat ≤ 0)) 198 125, [some (.inr (.inr 120)), some (.inl x1), some (.inl x2), some (.inl x3), some (.inl x4), some (.inl x5), some (.inr (.inl x6)), none, some (.inr (.inl x8)), none, some (.inl x10), some (.inl (V 123 (((64 * x1) + (8 * x4)) + x10).toNat)), none, none], [], M0 L V b) := by
  have f0 : gX (M0 L V b) 123 1 (((64 * x1) + (8 * x4)) + x10) = true := gx_of rfl g0
  have f1 : r32 (V 123 (((64 * x1) + (8 * x4)) + x10).toNat) = true := r32_of g1
  have hG : (gX (M0 L V b) 123 1 (((64 * x1) + (8 * x4)) + x10) && (r32 (V 123 (((64 * x1) + (8 * x4)) + x10).toNat) && true)) = true := an f0 (an f1 rfl)
  show some (gX (M0 L V b) 123 1 (((64 * x1) + (8 * x4)) + x10) && (r32 (V 123 (((64 * x1) + (8 * x4)) + x10).toNat) && true), _) = _
  rw [hG]
  try rfl

theorem B171_125 (L : Nat) (V : Mv) (b : Bool) (x1 : Int) (x2 : Int) (x3 : Int) (x4 : Int) (x5 : Int) (x6 : Int) (x8 : Int) (x10 : Int) (x11 : Int) (g0 : 0 ≤ x10 ∧ x10 < 8) (g1 : in32 x11) (g2 : in64 (x8 * (V 134 (x10).toNat))) (g3 : in32 (cmpI (x8 * (V 134 (x10).toNat)) 0)) : nxs 28 171 125 [some (.inr (.inr 120)), some (.inl x1), some (.inl x2), some (.inl x3), some (.inl x4), some (.inl x5), some (.inr (.inl x6)), none, some (.inr (.inl x8)), none, some (.inl x10), some (.inl x11), none, none] [] (M0 L V b) = some (true, cond (!decide (cmpI (x8 * (V 134 (x10).toNat)) 0 = 0)) 175 171, [some (.inr (.inr 120)), some (.inl x1), some (.inl x2), some (.inl x3), some (.inl x4), some (.inl x5), some (.inr (.inl ((x6 * (V 134 (x10).toNat)) + ((x11 * (V 133 (x10).toNat)) * x8)))), none, some (.inr (.inl (x8 * (V 134 (x10).toNat)))), none, some (.inl x10), some (.inl x11), none, none], [], M0 L V b) := by
  have f0 : gX (M0 L V b) 134 2 x10 = true := gx_of rfl g0
  have f1 : r32 x11 = true := r32_of g1
  have f2 : gX (M0 L V b) 133 2 x10 = true := gx_of rfl g0
  have f3 : gX (M0 L V b) 134 2 x10 = true := gx_of rfl g0
  have f4 : (r64 (x8 * (V 134 (x10).toNat)) && r64 0) = true := rr64_of g2 (by decide)
  have f5 : r32 (cmpI (x8 * (V 134 (x10).toNat)) 0) = true := r32_of g3
  have hG : (gX (M0 L V b) 134 2 x10 && (r32 x11 && (gX (M0 L V b) 133 2 x10 && (gX (M0 L V b) 134 2 x10 && ((r64 (x8 * (V 134 (x10).toNat)) && r64 0) && (r32 (cmpI (x8 * (V 134 (x10).toNat)) 0) && true)))))) = true := an f0 (an f1 (an f2 (an f3 (an f4 (an f5 rfl)))))
  show some (gX (M0 L V b) 134 2 x10 && (r32 x11 && (gX (M0 L V b) 133 2 x10 && (gX (M0 L V b) 134 2 x10 && ((r64 (x8 * (V 134 (x10).toNat)) && r64 0) && (r32 (cmpI (x8 * (V 134 (x10).toNat)) 0) && true))))), _) = _
  rw [hG]
  try rfl

theorem B171_171 (L : Nat) (V : Mv) (b : Bool) (x1 : Int) (x2 : Int) (x3 : Int) (x4 : Int) (x5 : Int) (x6 : Int) (x8 : Int) (x10 : Int) (x11 : Int)  : nxs 2 171 171 [some (.inr (.inr 120)), some (.inl x1), some (.inl x2), some (.inl x3), some (.inl x4), some (.inl x5), some (.inr (.inl x6)), none, some (.inr (.inl x8)), none, some (.inl x10), some (.inl x11), none, none] [] (M0 L V b) = some (true, 182, [some (.inr (.inr 120)), some (.inl x1), some (.inl x2), some (.inl x3), some (.inl x4), some (.inl x5), some (.inr (.inl x6)), none, some (.inr (.inl x8)), none, some (.inl x10), some (.inl x11), none, none], [.inr (.inl 1)], M0 L V b) := by
  rfl

theorem B171_175 (L : Nat) (V : Mv) (b : Bool) (x1 : Int) (x2 : Int) (x3 : Int) (x4 : Int) (x5 : Int) (x6 : Int) (x8 : Int) (x10 : Int) (x11 : Int)  : nxs 2 171 175 [some (.inr (.inr 120)), some (.inl x1), some (.inl x2), some (.inl x3), some (.inl x4), some (.inl x5), some (.inr (.inl x6)), none, some (.inr (.inl x8)), none, some (.inl x10), some (.inl x11), none, none] [] (M0 L V b) = some (true, 179, [some (.inr (.inr 120)), some (.inl x1), some (.inl x2), some (.inl x3), some (.inl x4), some (.inl x5), some (.inr (.inl x6)), none, some (.inr (.inl x8)), none, some (.inl x10), some (.inl x11), none, none], [.inr (.inl x8), .inr (.inl x6)], M0 L V b) := by
  rfl

theorem B171_182 (L : Nat) (V : Mv) (b : Bool) (x1 : Int) (x2 : Int) (x3 : Int) (x4 : Int) (x5 : Int) (x6 : Int) (x8 : Int) (x10 : Int) (x11 : Int) (s0 : Int) (g0 : in64 x6) (g1 : in64 s0) (g2 : ¬ s0 = 0) (g3 : in64 x8) (g4 : ¬ s0 = 0) : nxs 9 171 182 [some (.inr (.inr 120)), some (.inl x1), some (.inl x2), some (.inl x3), some (.inl x4), some (.inl x5), some (.inr (.inl x6)), none, some (.inr (.inl x8)), none, some (.inl x10), some (.inl x11), none, none] [.inr (.inl s0)] (M0 L V b) = some (true, 198, [some (.inr (.inr 120)), some (.inl x1), some (.inl x2), some (.inl x3), some (.inl x4), some (.inl x5), some (.inr (.inl (Int.tdiv x6 s0))), none, some (.inr (.inl (Int.tdiv x8 s0))), none, some (.inl x10), some (.inl x11), some (.inr (.inl s0)), none], [], M0 L V b) := by
  have f0 : gL x6 s0 = true := gL_of g0 g1 g2
  have f1 : gL x8 s0 = true := gL_of g3 g1 g4
  have hG : (gL x6 s0 && (gL x8 s0 && true)) = true := an f0 (an f1 rfl)
  show some (gL x6 s0 && (gL x8 s0 && true), _) = _
  rw [hG]
  try rfl

theorem B171_198 (L : Nat) (V : Mv) (b : Bool) (x1 : Int) (x2 : Int) (x3 : Int) (x4 : Int) (x5 : Int) (x6 : Int) (x8 : Int) (x10 : Int) (x11 : Int)  : nxs 2 171 198 [some (.inr (.inr 120)), some (.inl x1), some (.inl x2), some (.inl x3), some (.inl x4), some (.inl x5), some (.inr (.inl x6)), none, some (.inr (.inl x8)), none, some (.inl x10), some (.inl x11), none, none] [] (M0 L V b) = some (true, 89, [some (.inr (.inr 120)), some (.inl x1), some (.inl x2), some (.inl x3), some (.inl x4), some (.inl x5), some (.inr (.inl x6)), none, some (.inr (.inl x8)), none, some (.inl (x10 + 1)), some (.inl x11), none, none], [], M0 L V b) := by
  rfl

theorem B171_204 (L : Nat) (V : Mv) (b : Bool) (x1 : Int) (x2 : Int) (x3 : Int) (x4 : Int) (x5 : Int) (x6 : Int) (x8 : Int) (x10 : Int) (g0 : in32 x5) (g1 : in64 (x8 * x5)) (g2 : in32 (cmpI (x8 * x5) 0)) : nxs 9 171 204 [some (.inr (.inr 120)), some (.inl x1), some (.inl x2), some (.inl x3), some (.inl x4), some (.inl x5), some (.inr (.inl x6)), none, some (.inr (.inl x8)), none, some (.inl x10), none, none, none] [] (M0 L V b) = some (true, cond (!decide (cmpI (x8 * x5) 0 = 0)) 223 219, [some (.inr (.inr 120)), some (.inl x1), some (.inl x2), some (.inl x3), some (.inl x4), some (.inl x5), some (.inr (.inl x6)), none, some (.inr (.inl (x8 * x5))), none, some (.inl x10), none, none, none], [], M0 L V b) := by
  have f0 : r32 x5 = true := r32_of g0
  have f1 : (r64 (x8 * x5) && r64 0) = true := rr64_of g1 (by decide)
  have f2 : r32 (cmpI (x8 * x5) 0) = true := r32_of g2
  have hG : (r32 x5 && ((r64 (x8 * x5) && r64 0) && (r32 (cmpI (x8 * x5) 0) && true))) = true := an f0 (an f1 (an f2 rfl))
  show some (r32 x5 && ((r64 (x8 * x5) && r64 0) && (r32 (cmpI (x8 * x5) 0) && true)), _) = _
  rw [hG]
  try rfl

theorem B171_219 (L : Nat) (V : Mv) (b : Bool) (x1 : Int) (x2 : Int) (x3 : Int) (x4 : Int) (x5 : Int) (x6 : Int) (x8 : Int) (x10 : Int)  : nxs 2 171 219 [some (.inr (.inr 120)), some (.inl x1), some (.inl x2), some (.inl x3), some (.inl x4), some (.inl x5), some (.inr (.inl x6)), none, some (.inr (.inl x8)), none, some (.inl x10), none, none, none] [] (M0 L V b) = some (true, 230, [some (.inr (.inr 120)), some (.inl x1), some (.inl x2), some (.inl x3), some (.inl x4), some (.inl x5), some (.inr (.inl x6)), none, some (.inr (.inl x8)), none, some (.inl x10), none, none, none], [.inr (.inl 1)], M0 L V b) := by
  rfl

theorem B171_223 (L : Nat) (V : Mv) (b : Bool) (x1 : Int) (x2 : Int) (x3 : Int) (x4 : Int) (x5 : Int) (x6 : Int) (x8 : Int) (x10 : Int)  : nxs 2 171 223 [some (.inr (.inr 120)), some (.inl x1), some (.inl x2), some (.inl x3), some (.inl x4), some (.inl x5), some (.inr (.inl x6)), none, some (.inr (.inl x8)), none, some (.inl x10), none, none, none] [] (M0 L V b) = some (true, 227, [some (.inr (.inr 120)), some (.inl x1), some (.inl x2), some (.inl x3), some (.inl x4), some (.inl x5), some (.inr (.inl x6)), none, some (.inr (.inl x8)), none, some (.inl x10), none, none, none], [.inr (.inl x8), .inr (.inl x6)], M0 L V b) := by
  rfl

theorem B171_230 (L : Nat) (V : Mv) (b : Bool) (x1 : Int) (x2 : Int) (x3 : Int) (x4 : Int) (x5 : Int) (x6 : Int) (x8 : Int) (x10 : Int) (s0 : Int) (g0 : in64 x8) (g1 : in32 (cmpI x8 0)) : nxs 8 171 230 [some (.inr (.inr 120)), some (.inl x1), some (.inl x2), some (.inl x3), some (.inl x4), some (.inl x5), some (.inr (.inl x6)), none, some (.inr (.inl x8)), none, some (.inl x10), none, none, none] [.inr (.inl s0)] (M0 L V b) = some (true, cond (!decide (cmpI x8 0 = 0)) 249 245, [some (.inr (.inr 120)), some (.inl x1), some (.inl x2), some (.inl x3), some (.inl x4), some (.inl x5), some (.inr (.inl x6)), none, some (.inr (.inl x8)), none, some (.inr (.inl s0)), none, none, none], [.inl x4, .inr (.inr 133)], M0 L V b) := by
  have f0 : (r64 x8 && r64 0) = true := rr64_of g0 (by decide)
  have f1 : r32 (cmpI x8 0) = true := r32_of g1
  have hG : ((r64 x8 && r64 0) && (r32 (cmpI x8 0) && true)) = true := an f0 (an f1 rfl)
  show some ((r64 x8 && r64 0) && (r32 (cmpI x8 0) && true), _) = _
  rw [hG]
  try rfl

theorem B171_245 (L : Nat) (V : Mv) (b : Bool) (x1 : Int) (x2 : Int) (x3 : Int) (x4 : Int) (x5 : Int) (x6 : Int) (x8 : Int) (x10 : Int) (s1 : Int)  : nxs 2 171 245 [some (.inr (.inr 120)), some (.inl x1), some (.inl x2), some (.inl x3), some (.inl x4), some (.inl x5), some (.inr (.inl x6)), none, some (.inr (.inl x8)), none, some (.inr (.inl x10)), none, none, none] [.inl s1, .inr (.inr 119)] (M0 L V b) = some (true, 254, [some (.inr (.inr 120)), some (.inl x1), some (.inl x2), some (.inl x3), some (.inl x4), some (.inl x5), some (.inr (.inl x6)), none, some (.inr (.inl x8)), none, some (.inr (.inl x10)), none, none, none], [.inr (.inl 0), .inl s1, .inr (.inr 119)], M0 L V b) := by
  rfl

theorem B171_249 (L : Nat) (V : Mv) (b : Bool) (x1 : Int) (x2 : Int) (x3 : Int) (x4 : Int) (x5 : Int) (x6 : Int) (x8 : Int) (x10 : Int) (s1 : Int) (g0 : in64 x6) (g1 : in64 x10) (g2 : ¬ x10 = 0) : nxs 3 171 249 [some (.inr (.inr 120)), some (.inl x1), some (.inl x2), some (.inl x3), some (.inl x4), some (.inl x5), some (.inr (.inl x6)), none, some (.inr (.inl x8)), none, some (.inr (.inl x10)), none, none, none] [.inl s1, .inr (.inr 119)] (M0 L V b) = some (true, 254, [some (.inr (.inr 120)), some (.inl x1), some (.inl x2), some (.inl x3), some (.inl x4), some (.inl x5), some (.inr (.inl x6)), none, some (.inr (.inl x8)), none, some (.inr (.inl x10)), none, none, none], [.inr (.inl (Int.tdiv x6 x10)), .inl s1, .inr (.inr 119)], M0 L V b) := by
  have f0 : gL x6 x10 = true := gL_of g0 g1 g2
  have hG : (gL x6 x10 && true) = true := an f0 rfl
  show some (gL x6 x10 && true, _) = _
  rw [hG]
  try rfl

theorem B171_254 (L : Nat) (V : Mv) (b : Bool) (x1 : Int) (x2 : Int) (x3 : Int) (x4 : Int) (x5 : Int) (x6 : Int) (x8 : Int) (x10 : Int) (s1 : Int) (s2 : Int) (g0 : 0 ≤ s1 ∧ s1 < 8) (g1 : in64 x8) (g2 : in64 x10) (g3 : ¬ x10 = 0) (g4 : 0 ≤ x4 ∧ x4 < 8) : nxs 8 171 254 [some (.inr (.inr 120)), some (.inl x1), some (.inl x2), some (.inl x3), some (.inl x4), some (.inl x5), some (.inr (.inl x6)), none, some (.inr (.inl x8)), none, some (.inr (.inl x10)), none, none, none] [.inr (.inl s2), .inl s1, .inr (.inr 119)] (M0 L V b) = some (true, 267, [some (.inr (.inr 120)), some (.inl x1), some (.inl x2), some (.inl x3), some (.inl x4), some (.inl x5), some (.inr (.inl x6)), none, some (.inr (.inl x8)), none, some (.inr (.inl x10)), none, none, none], [], M0 L (uV (uV V 119 (s1).toNat s2) 134 (x4).toNat (Int.tdiv x8 x10)) b) := by
  have f0 : (gX (M0 L V b) 119 2 s1 && !Nat.beq 119 0) = true := gs_of (gx_of rfl g0) (by decide)
  have f1 : gL x8 x10 = true := gL_of g1 g2 g3
  have f2 : (gX (M0 L (uV V 119 (s1).toNat s2) b) 134 2 x4 && !Nat.beq 134 0) = true := gs_of (gx_of rfl g4) (by decide)
  have hG : ((gX (M0 L V b) 119 2 s1 && !Nat.beq 119 0) && (gL x8 x10 && ((gX (M0 L (uV V 119 (s1).toNat s2) b) 134 2 x4 && !Nat.beq 134 0) && true))) = true := an f0 (an f1 (an f2 rfl))
  show some ((gX (M0 L V b) 119 2 s1 && !Nat.beq 119 0) && (gL x8 x10 && ((gX (M0 L (uV V 119 (s1).toNat s2) b) 134 2 x4 && !Nat.beq 134 0) && true)), _) = _
  rw [hG]
  try rfl

theorem B171_267 (L : Nat) (V : Mv) (b : Bool) (x1 : Int) (x2 : Int) (x3 : Int) (x4 : Int) (x5 : Int)  : nxs 2 171 267 [some (.inr (.inr 120)), some (.inl x1), some (.inl x2), some (.inl x3), some (.inl x4), some (.inl x5), none, none, none, none, none, none, none, none] [] (M0 L V b) = some (true, 23, [some (.inr (.inr 120)), some (.inl x1), some (.inl x2), some (.inl x3), some (.inl (x4 + (-1))), some (.inl x5), none, none, none, none, none, none, none, none], [], M0 L V b) := by
  rfl

theorem B171_273 (L : Nat) (V : Mv) (b : Bool) (x1 : Int) (x2 : Int) (x3 : Int) (x4 : Int) (g0 : 0 ≤ x2 ∧ x2 < 8) (g1 : in64 (V 134 (x2).toNat)) (g2 : in32 (cmpI (V 134 (x2).toNat) 0)) : nxs 7 171 273 [some (.inr (.inr 120)), some (.inl x1), some (.inl x2), some (.inl x3), some (.inl x4), none, none, none, none, none, none, none, none, none] [] (M0 L V b) = some (true, cond (!decide (cmpI (V 134 (x2).toNat) 0 = 0)) 290 284, [some (.inr (.inr 120)), some (.inl x1), some (.inl x2), some (.inl x3), some (.inl x4), none, none, none, none, none, none, none, none, none], [], M0 L V b) := by
  have f0 : gX (M0 L V b) 134 2 x2 = true := gx_of rfl g0
  have f1 : (r64 (V 134 (x2).toNat) && r64 0) = true := rr64_of g1 (by decide)
  have f2 : r32 (cmpI (V 134 (x2).toNat) 0) = true := r32_of g2
  have hG : (gX (M0 L V b) 134 2 x2 && ((r64 (V 134 (x2).toNat) && r64 0) && (r32 (cmpI (V 134 (x2).toNat) 0) && true))) = true := an f0 (an f1 (an f2 rfl))
  show some (gX (M0 L V b) 134 2 x2 && ((r64 (V 134 (x2).toNat) && r64 0) && (r32 (cmpI (V 134 (x2).toNat) 0) && true)), _) = _
  rw [hG]
  try rfl

theorem B171_284 (L : Nat) (V : Mv) (b : Bool) (x1 : Int) (x2 : Int) (x3 : Int) (x4 : Int)  : nxs 2 171 284 [some (.inr (.inr 120)), some (.inl x1), some (.inl x2), some (.inl x3), some (.inl x4), none, none, none, none, none, none, none, none, none] [] (M0 L V b) = some (true, 309, [some (.inr (.inr 120)), some (.inl x1), some (.inl x2), some (.inl x3), some (.inl x4), none, none, none, none, none, none, none, none, none], [.inr (.inl (-9))], M0 L V b) := by
  rfl

theorem B171_290 (L : Nat) (V : Mv) (b : Bool) (x1 : Int) (x2 : Int) (x3 : Int) (x4 : Int) (g0 : in32 x3) : nxs 2 171 290 [some (.inr (.inr 120)), some (.inl x1), some (.inl x2), some (.inl x3), some (.inl x4), none, none, none, none, none, none, none, none, none] [] (M0 L V b) = some (true, cond (decide (x3 = 0)) 303 294, [some (.inr (.inr 120)), some (.inl x1), some (.inl x2), some (.inl x3), some (.inl x4), none, none, none, none, none, none, none, none, none], [], M0 L V b) := by
  have f0 : r32 x3 = true := r32_of g0
  have hG : (r32 x3 && true) = true := an f0 rfl
  show some (r32 x3 && true, _) = _
  rw [hG]
  try rfl

theorem B171_294 (L : Nat) (V : Mv) (b : Bool) (x1 : Int) (x2 : Int) (x3 : Int) (x4 : Int) (g0 : 0 ≤ x2 ∧ x2 < 8) : nxs 5 171 294 [some (.inr (.inr 120)), some (.inl x1), some (.inl x2), some (.inl x3), some (.inl x4), none, none, none, none, none, none, none, none, none] [] (M0 L V b) = some (true, 309, [some (.inr (.inr 120)), some (.inl x1), some (.inl x2), some (.inl x3), some (.inl x4), none, none, none, none, none, none, none, none, none], [.inr (.inl (V 133 (x2).toNat))], M0 L V b) := by
  have f0 : gX (M0 L V b) 133 2 x2 = true := gx_of rfl g0
  have hG : (gX (M0 L V b) 133 2 x2 && true) = true := an f0 rfl
  show some (gX (M0 L V b) 133 2 x2 && true, _) = _
  rw [hG]
  try rfl

theorem B171_303 (L : Nat) (V : Mv) (b : Bool) (x1 : Int) (x2 : Int) (x3 : Int) (x4 : Int) (g0 : 0 ≤ x2 ∧ x2 < 8) : nxs 4 171 303 [some (.inr (.inr 120)), some (.inl x1), some (.inl x2), some (.inl x3), some (.inl x4), none, none, none, none, none, none, none, none, none] [] (M0 L V b) = some (true, 309, [some (.inr (.inr 120)), some (.inl x1), some (.inl x2), some (.inl x3), some (.inl x4), none, none, none, none, none, none, none, none, none], [.inr (.inl (V 134 (x2).toNat))], M0 L V b) := by
  have f0 : gX (M0 L V b) 134 2 x2 = true := gx_of rfl g0
  have hG : (gX (M0 L V b) 134 2 x2 && true) = true := an f0 rfl
  show some (gX (M0 L V b) 134 2 x2 && true, _) = _
  rw [hG]
  try rfl

-- 172: MendedOrNewModel.rule(III)I
theorem B172_0 (L : Nat) (V : Mv) (b : Bool) (x1 : Int) (x2 : Int) (x3 : Int)  : nxs 1 172 0 [some (.inr (.inr 120)), some (.inl x1), some (.inl x2), some (.inl x3), none] [] (M0 L V b) = some (true, 1, [some (.inr (.inr 120)), some (.inl x1), some (.inl x2), some (.inl x3), none], [.inl x1], M0 L V b) := by
  rfl

theorem B172_4 (L : Nat) (V : Mv) (b : Bool) (x1 : Int) (x2 : Int) (x3 : Int) (s0 : Int) (g0 : in32 s0) : nxs 1 172 4 [some (.inr (.inr 120)), some (.inl x1), some (.inl x2), some (.inl x3), none] [.inl s0] (M0 L V b) = some (true, cond (decide (s0 = 0)) 19 7, [some (.inr (.inr 120)), some (.inl x1), some (.inl x2), some (.inl x3), none], [], M0 L V b) := by
  have f0 : r32 s0 = true := r32_of g0
  have hG : (r32 s0 && true) = true := an f0 rfl
  show some (r32 s0 && true, _) = _
  rw [hG]
  try rfl

theorem B172_7 (L : Nat) (V : Mv) (b : Bool) (x1 : Int) (x2 : Int) (x3 : Int) (g0 : in32 x2) : nxs 4 172 7 [some (.inr (.inr 120)), some (.inl x1), some (.inl x2), some (.inl x3), none] [] (M0 L V b) = some (true, 13, [some (.inr (.inr 120)), some (.inl x1), some (.inl x2), some (.inl x3), none], [.inr (.inl 7), .inr (.inl 0), .inr (.inl x2)], M0 L V b) := by
  have f0 : r32 x2 = true := r32_of g0
  have hG : (r32 x2 && true) = true := an f0 rfl
  show some (r32 x2 && true, _) = _
  rw [hG]
  try rfl

theorem B172_16 (L : Nat) (V : Mv) (b : Bool) (x1 : Int) (x2 : Int) (x3 : Int) (s0 : Int) (g0 : in32 s0) : nxs 1 172 16 [some (.inr (.inr 120)), some (.inl x1), some (.inl x2), some (.inl x3), none] [.inl s0] (M0 L V b) = some (true, cond (!decide (s0 = 0)) 21 19, [some (.inr (.inr 120)), some (.inl x1), some (.inl x2), some (.inl x3), none], [], M0 L V b) := by
  have f0 : r32 s0 = true := r32_of g0
  have hG : (r32 s0 && true) = true := an f0 rfl
  show some (r32 s0 && true, _) = _
  rw [hG]
  try rfl

theorem B172_19 (L : Nat) (V : Mv) (b : Bool) (x1 : Int) (x2 : Int) (x3 : Int)  : nxs 1 172 19 [some (.inr (.inr 120)), some (.inl x1), some (.inl x2), some (.inl x3), none] [] (M0 L V b) = some (true, 20, [some (.inr (.inr 120)), some (.inl x1), some (.inl x2), some (.inl x3), none], [.inl (-1)], M0 L V b) := by
  rfl

theorem B172_21 (L : Nat) (V : Mv) (b : Bool) (x1 : Int) (x2 : Int) (x3 : Int) (g0 : in32 x3) : nxs 4 172 21 [some (.inr (.inr 120)), some (.inl x1), some (.inl x2), some (.inl x3), none] [] (M0 L V b) = some (true, 27, [some (.inr (.inr 120)), some (.inl x1), some (.inl x2), some (.inl x3), none], [.inr (.inl 4), .inr (.inl 0), .inr (.inl x3)], M0 L V b) := by
  have f0 : r32 x3 = true := r32_of g0
  have hG : (r32 x3 && true) = true := an f0 rfl
  show some (r32 x3 && true, _) = _
  rw [hG]
  try rfl

theorem B172_30 (L : Nat) (V : Mv) (b : Bool) (x1 : Int) (x2 : Int) (x3 : Int) (s0 : Int) (g0 : in32 s0) : nxs 1 172 30 [some (.inr (.inr 120)), some (.inl x1), some (.inl x2), some (.inl x3), none] [.inl s0] (M0 L V b) = some (true, cond (!decide (s0 = 0)) 36 33, [some (.inr (.inr 120)), some (.inl x1), some (.inl x2), some (.inl x3), none], [], M0 L V b) := by
  have f0 : r32 s0 = true := r32_of g0
  have hG : (r32 s0 && true) = true := an f0 rfl
  show some (r32 s0 && true, _) = _
  rw [hG]
  try rfl

theorem B172_33 (L : Nat) (V : Mv) (b : Bool) (x1 : Int) (x2 : Int) (x3 : Int)  : nxs 1 172 33 [some (.inr (.inr 120)), some (.inl x1), some (.inl x2), some (.inl x3), none] [] (M0 L V b) = some (true, 35, [some (.inr (.inr 120)), some (.inl x1), some (.inl x2), some (.inl x3), none], [.inl (-2)], M0 L V b) := by
  rfl

theorem B172_36 (L : Nat) (V : Mv) (b : Bool) (x1 : Int) (x2 : Int) (x3 : Int) (g0 : 0 ≤ (8 * x1) + x2 ∧ (8 * x1) + x2 < 40) : nxs 19 172 36 [some (.inr (.inr 120)), some (.inl x1), some (.inl x2), some (.inl x3), none] [] (M0 L V b) = some (true, 63, [some (.inr (.inr 120)), some (.inl x1), some (.inl x2), some (.inl x3), some (.inl (V 135 ((8 * x1) + x2).toNat))], [.inl (V 135 ((8 * x1) + x2).toNat)], M0 L (uV V 135 ((8 * x1) + x2).toNat x3) b) := by
  have f0 : gX (M0 L V b) 135 1 ((8 * x1) + x2) = true := gx_of rfl g0
  have f1 : (gX (M0 L V b) 135 1 ((8 * x1) + x2) && !Nat.beq 135 0) = true := gs_of (gx_of rfl g0) (by decide)
  have hG : (gX (M0 L V b) 135 1 ((8 * x1) + x2) && ((gX (M0 L V b) 135 1 ((8 * x1) + x2) && !Nat.beq 135 0) && true)) = true := an f0 (an f1 rfl)
  show some (gX (M0 L V b) 135 1 ((8 * x1) + x2) && ((gX (M0 L V b) 135 1 ((8 * x1) + x2) && !Nat.beq 135 0) && true), _) = _
  rw [hG]
  try rfl

-- 173: MendedOrNewModel.isRule(I)Z
theorem B173_0 (L : Nat) (V : Mv) (b : Bool) (x0 : Int) (g0 : in32 x0) : nxs 4 173 0 [some (.inl x0)] [] (M0 L V b) = some (true, 6, [some (.inl x0)], [.inr (.inl 3), .inr (.inl 0), .inr (.inl x0)], M0 L V b) := by
  have f0 : r32 x0 = true := r32_of g0
  have hG : (r32 x0 && true) = true := an f0 rfl
  show some (r32 x0 && true, _) = _
  rw [hG]
  try rfl

-- 174: MendedOrNewModel.cost(IIZ)J
theorem B174_0 (L : Nat) (V : Mv) (b : Bool) (x1 : Int) (x2 : Int) (x3 : Int)  : nxs 1 174 0 [some (.inr (.inr 120)), some (.inl x1), some (.inl x2), some (.inl x3)] [] (M0 L V b) = some (true, 1, [some (.inr (.inr 120)), some (.inl x1), some (.inl x2), some (.inl x3)], [.inl x1], M0 L V b) := by
  rfl

theorem B174_4 (L : Nat) (V : Mv) (b : Bool) (x1 : Int) (x2 : Int) (x3 : Int) (s0 : Int) (g0 : in32 s0) : nxs 1 174 4 [some (.inr (.inr 120)), some (.inl x1), some (.inl x2), some (.inl x3)] [.inl s0] (M0 L V b) = some (true, cond (decide (s0 = 0)) 14 7, [some (.inr (.inr 120)), some (.inl x1), some (.inl x2), some (.inl x3)], [], M0 L V b) := by
  have f0 : r32 s0 = true := r32_of g0
  have hG : (r32 s0 && true) = true := an f0 rfl
  show some (r32 s0 && true, _) = _
  rw [hG]
  try rfl

theorem B174_7 (L : Nat) (V : Mv) (b : Bool) (x1 : Int) (x2 : Int) (x3 : Int)  : nxs 1 174 7 [some (.inr (.inr 120)), some (.inl x1), some (.inl x2), some (.inl x3)] [] (M0 L V b) = some (true, 8, [some (.inr (.inr 120)), some (.inl x1), some (.inl x2), some (.inl x3)], [.inl x2], M0 L V b) := by
  rfl

theorem B174_11 (L : Nat) (V : Mv) (b : Bool) (x1 : Int) (x2 : Int) (x3 : Int) (s0 : Int) (g0 : in32 s0) : nxs 1 174 11 [some (.inr (.inr 120)), some (.inl x1), some (.inl x2), some (.inl x3)] [.inl s0] (M0 L V b) = some (true, cond (!decide (s0 = 0)) 18 14, [some (.inr (.inr 120)), some (.inl x1), some (.inl x2), some (.inl x3)], [], M0 L V b) := by
  have f0 : r32 s0 = true := r32_of g0
  have hG : (r32 s0 && true) = true := an f0 rfl
  show some (r32 s0 && true, _) = _
  rw [hG]
  try rfl

theorem B174_14 (L : Nat) (V : Mv) (b : Bool) (x1 : Int) (x2 : Int) (x3 : Int)  : nxs 1 174 14 [some (.inr (.inr 120)), some (.inl x1), some (.inl x2), some (.inl x3)] [] (M0 L V b) = some (true, 17, [some (.inr (.inr 120)), some (.inl x1), some (.inl x2), some (.inl x3)], [.inr (.inl (-1))], M0 L V b) := by
  rfl

theorem B174_18 (L : Nat) (V : Mv) (b : Bool) (x1 : Int) (x2 : Int) (x3 : Int)  : nxs 3 174 18 [some (.inr (.inr 120)), some (.inl x1), some (.inl x2), some (.inl x3)] [] (M0 L V b) = some (true, 21, [some (.inr (.inr 120)), some (.inl x1), some (.inl x2), some (.inl x3)], [.inl x2, .inl x1, .inr (.inr 120)], M0 L V b) := by
  rfl

theorem B174_24 (L : Nat) (V : Mv) (b : Bool) (x1 : Int) (x2 : Int) (x3 : Int) (s0 : Int) (g0 : in32 s0) : nxs 1 174 24 [some (.inr (.inr 120)), some (.inl x1), some (.inl x2), some (.inl x3)] [.inl s0] (M0 L V b) = some (true, cond (decide (s0 = 0)) 45 27, [some (.inr (.inr 120)), some (.inl x1), some (.inl x2), some (.inl x3)], [], M0 L V b) := by
  have f0 : r32 s0 = true := r32_of g0
  have hG : (r32 s0 && true) = true := an f0 rfl
  show some (r32 s0 && true, _) = _
  rw [hG]
  try rfl

theorem B174_27 (L : Nat) (V : Mv) (b : Bool) (x1 : Int) (x2 : Int) (x3 : Int) (g0 : in32 x3) : nxs 2 174 27 [some (.inr (.inr 120)), some (.inl x1), some (.inl x2), some (.inl x3)] [] (M0 L V b) = some (true, cond (decide (x3 = 0)) 38 31, [some (.inr (.inr 120)), some (.inl x1), some (.inl x2), some (.inl x3)], [], M0 L V b) := by
  have f0 : r32 x3 = true := r32_of g0
  have hG : (r32 x3 && true) = true := an f0 rfl
  show some (r32 x3 && true, _) = _
  rw [hG]
  try rfl

theorem B174_31 (L : Nat) (V : Mv) (b : Bool) (x1 : Int) (x2 : Int) (x3 : Int)  : nxs 3 174 31 [some (.inr (.inr 120)), some (.inl x1), some (.inl x2), some (.inl x3)] [] (M0 L V b) = some (true, 48, [some (.inr (.inr 120)), some (.inl x1), some (.inl x2), some (.inl x3)], [.inr (.inl (V 120 24))], M0 L V b) := by
  rfl

theorem B174_38 (L : Nat) (V : Mv) (b : Bool) (x1 : Int) (x2 : Int) (x3 : Int)  : nxs 3 174 38 [some (.inr (.inr 120)), some (.inl x1), some (.inl x2), some (.inl x3)] [] (M0 L V b) = some (true, 48, [some (.inr (.inr 120)), some (.inl x1), some (.inl x2), some (.inl x3)], [.inr (.inl (V 120 25))], M0 L V b) := by
  rfl

theorem B174_45 (L : Nat) (V : Mv) (b : Bool) (x1 : Int) (x2 : Int) (x3 : Int)  : nxs 1 174 45 [some (.inr (.inr 120)), some (.inl x1), some (.inl x2), some (.inl x3)] [] (M0 L V b) = some (true, 48, [some (.inr (.inr 120)), some (.inl x1), some (.inl x2), some (.inl x3)], [.inr (.inl (-3))], M0 L V b) := by
  rfl

-- 175: MendedOrNewModel.layCost(II)Z
theorem B175_0 (L : Nat) (V : Mv) (b : Bool) (x1 : Int) (x2 : Int)  : nxs 3 175 0 [some (.inr (.inr 120)), some (.inl x1), some (.inl x2), none, none, none, none, none, none] [] (M0 L V b) = some (true, 3, [some (.inr (.inr 120)), some (.inl x1), some (.inl x2), none, none, none, none, none, none], [.inl x2, .inl x1, .inr (.inr 120)], M0 L V b) := by
  rfl

theorem B175_6 (L : Nat) (V : Mv) (b : Bool) (x1 : Int) (x2 : Int) (s0 : Int) (g0 : in32 s0) : nxs 1 175 6 [some (.inr (.inr 120)), some (.inl x1), some (.inl x2), none, none, none, none, none, none] [.inl s0] (M0 L V b) = some (true, cond (decide (s0 = 0)) 18 9, [some (.inr (.inr 120)), some (.inl x1), some (.inl x2), none, none, none, none, none, none], [], M0 L V b) := by
  have f0 : r32 s0 = true := r32_of g0
  have hG : (r32 s0 && true) = true := an f0 rfl
  show some (r32 s0 && true, _) = _
  rw [hG]
  try rfl

theorem B175_9 (L : Nat) (V : Mv) (b : Bool) (x1 : Int) (x2 : Int)  : nxs 3 175 9 [some (.inr (.inr 120)), some (.inl x1), some (.inl x2), none, none, none, none, none, none] [] (M0 L V b) = some (true, 12, [some (.inr (.inr 120)), some (.inl x1), some (.inl x2), none, none, none, none, none, none], [.inl x2, .inl x1, .inr (.inr 120)], M0 L V b) := by
  rfl

theorem B175_15 (L : Nat) (V : Mv) (b : Bool) (x1 : Int) (x2 : Int) (s0 : Int) (g0 : in32 s0) : nxs 1 175 15 [some (.inr (.inr 120)), some (.inl x1), some (.inl x2), none, none, none, none, none, none] [.inl s0] (M0 L V b) = some (true, cond (!decide (s0 = 0)) 20 18, [some (.inr (.inr 120)), some (.inl x1), some (.inl x2), none, none, none, none, none, none], [], M0 L V b) := by
  have f0 : r32 s0 = true := r32_of g0
  have hG : (r32 s0 && true) = true := an f0 rfl
  show some (r32 s0 && true, _) = _
  rw [hG]
  try rfl

theorem B175_18 (L : Nat) (V : Mv) (b : Bool) (x1 : Int) (x2 : Int)  : nxs 1 175 18 [some (.inr (.inr 120)), some (.inl x1), some (.inl x2), none, none, none, none, none, none] [] (M0 L V b) = some (true, 19, [some (.inr (.inr 120)), some (.inl x1), some (.inl x2), none, none, none, none, none, none], [.inl 0], M0 L V b) := by
  rfl

theorem B175_20 (L : Nat) (V : Mv) (b : Bool) (x1 : Int) (x2 : Int)  : nxs 8 175 20 [some (.inr (.inr 120)), some (.inl x1), some (.inl x2), none, none, none, none, none, none] [] (M0 L V b) = some (true, 32, [some (.inr (.inr 120)), some (.inl x1), some (.inl x2), some (.inl 0), none, none, none, none, none], [], M0 L (uV (uV V 120 24 0) 120 25 0) b) := by
  rfl

theorem B175_32 (L : Nat) (V : Mv) (b : Bool) (x1 : Int) (x2 : Int) (x3 : Int) (g0 : in32 x3) (g1 : in32 (V 120 23)) : nxs 4 175 32 [some (.inr (.inr 120)), some (.inl x1), some (.inl x2), some (.inl x3), none, none, none, none, none] [] (M0 L V b) = some (true, cond (decide (V 120 23 ≤ x3)) 156 40, [some (.inr (.inr 120)), some (.inl x1), some (.inl x2), some (.inl x3), none, none, none, none, none], [], M0 L V b) := by
  have f0 : (r32 x3 && r32 (V 120 23)) = true := rr32_of g0 g1
  have hG : ((r32 x3 && r32 (V 120 23)) && true) = true := an f0 rfl
  show some ((r32 x3 && r32 (V 120 23)) && true, _) = _
  rw [hG]
  try rfl

theorem B175_40 (L : Nat) (V : Mv) (b : Bool) (x1 : Int) (x2 : Int) (x3 : Int)  : nxs 4 175 40 [some (.inr (.inr 120)), some (.inl x1), some (.inl x2), some (.inl x3), none, none, none, none, none] [] (M0 L V b) = some (true, 44, [some (.inr (.inr 120)), some (.inl x1), some (.inl x2), some (.inl x3), none, none, none, none, none], [.inl x3, .inl x2, .inl x1, .inr (.inr 120)], M0 L V b) := by
  rfl

theorem B175_47 (L : Nat) (V : Mv) (b : Bool) (x1 : Int) (x2 : Int) (x3 : Int)  : nxs 5 175 47 [some (.inr (.inr 120)), some (.inl x1), some (.inl x2), some (.inl x3), none, none, none, none, none] [] (M0 L V b) = some (true, 54, [some (.inr (.inr 120)), some (.inl x1), some (.inl x2), some (.inl x3), none, none, none, none, none], [.inl ((V 120 23) - 1), .inr (.inr 120)], M0 L V b) := by
  rfl

theorem B175_57 (L : Nat) (V : Mv) (b : Bool) (x1 : Int) (x2 : Int) (x3 : Int) (s0 : Int) (g0 : 0 ≤ x3 ∧ x3 < 8) (g1 : 0 ≤ (8 * x2) + (V 138 (x3).toNat) ∧ (8 * x2) + (V 138 (x3).toNat) < 40) : nxs 24 175 57 [some (.inr (.inr 120)), some (.inl x1), some (.inl x2), some (.inl x3), none, none, none, none, none] [.inr (.inl s0)] (M0 L V b) = some (true, 94, [some (.inr (.inr 120)), some (.inl x1), some (.inl x2), some (.inl x3), some (.inr (.inl s0)), none, some (.inl (V 138 (x3).toNat)), some (.inl (V 135 ((8 * x2) + (V 138 (x3).toNat)).toNat)), none], [.inl (V 138 (x3).toNat), .inl x2, .inl x1, .inr (.inr 120), .inl (8 * x1), .inr (.inr 124)], M0 L V b) := by
  have f0 : gX (M0 L V b) 138 1 x3 = true := gx_of rfl g0
  have f1 : gX (M0 L V b) 135 1 ((8 * x2) + (V 138 (x3).toNat)) = true := gx_of rfl g1
  have hG : (gX (M0 L V b) 138 1 x3 && (gX (M0 L V b) 135 1 ((8 * x2) + (V 138 (x3).toNat)) && true)) = true := an f0 (an f1 rfl)
  show some (gX (M0 L V b) 138 1 x3 && (gX (M0 L V b) 135 1 ((8 * x2) + (V 138 (x3).toNat)) && true), _) = _
  rw [hG]
  try rfl

theorem B175_97 (L : Nat) (V : Mv) (b : Bool) (x1 : Int) (x2 : Int) (x3 : Int) (x4 : Int) (x6 : Int) (x7 : Int) (s0 : Nat) (s1 : Int) (s2 : Int) (n_s0 : Nat) (t_s0 : TT L s0 = (1, n_s0)) (g0 : 0 ≤ s1 + s2 ∧ s1 + s2 < (n_s0 : Int)) (g1 : in32 x7) : nxs 4 175 97 [some (.inr (.inr 120)), some (.inl x1), some (.inl x2), some (.inl x3), some (.inr (.inl x4)), none, some (.inl x6), some (.inl x7), none] [.inl s2, .inl s1, .inr (.inr s0)] (M0 L V b) = some (true, cond (!decide (x7 = 0)) 108 104, [some (.inr (.inr 120)), some (.inl x1), some (.inl x2), some (.inl x3), some (.inr (.inl x4)), none, some (.inl x6), some (.inl x7), none], [.inl (V s0 (s1 + s2).toNat)], M0 L V b) := by
  have f0 : gX (M0 L V b) s0 1 (s1 + s2) = true := gx_of (show aT _ _ = _ from t_s0) g0
  have f1 : r32 x7 = true := r32_of g1
  have hG : (gX (M0 L V b) s0 1 (s1 + s2) && (r32 x7 && true)) = true := an f0 (an f1 rfl)
  show some (gX (M0 L V b) s0 1 (s1 + s2) && (r32 x7 && true), _) = _
  rw [hG]
  try rfl

theorem B175_104 (L : Nat) (V : Mv) (b : Bool) (x1 : Int) (x2 : Int) (x3 : Int) (x4 : Int) (x6 : Int) (x7 : Int) (s0 : Int)  : nxs 2 175 104 [some (.inr (.inr 120)), some (.inl x1), some (.inl x2), some (.inl x3), some (.inr (.inl x4)), none, some (.inl x6), some (.inl x7), none] [.inl s0] (M0 L V b) = some (true, 121, [some (.inr (.inr 120)), some (.inl x1), some (.inl x2), some (.inl x3), some (.inr (.inl x4)), none, some (.inl x6), some (.inl x7), none], [.inl 0, .inl s0], M0 L V b) := by
  rfl

theorem B175_108 (L : Nat) (V : Mv) (b : Bool) (x1 : Int) (x2 : Int) (x3 : Int) (x4 : Int) (x6 : Int) (x7 : Int) (s0 : Int) (g0 : 0 ≤ ((4 * x1) + x7) - 1 ∧ ((4 * x1) + x7) - 1 < 16) : nxs 10 175 108 [some (.inr (.inr 120)), some (.inl x1), some (.inl x2), some (.inl x3), some (.inr (.inl x4)), none, some (.inl x6), some (.inl x7), none] [.inl s0] (M0 L V b) = some (true, 121, [some (.inr (.inr 120)), some (.inl x1), some (.inl x2), some (.inl x3), some (.inr (.inl x4)), none, some (.inl x6), some (.inl x7), none], [.inl (V 127 (((4 * x1) + x7) - 1).toNat), .inl s0], M0 L V b) := by
  have f0 : gX (M0 L V b) 127 1 (((4 * x1) + x7) - 1) = true := gx_of rfl g0
  have hG : (gX (M0 L V b) 127 1 (((4 * x1) + x7) - 1) && true) = true := an f0 rfl
  show some (gX (M0 L V b) 127 1 (((4 * x1) + x7) - 1) && true, _) = _
  rw [hG]
  try rfl

theorem B175_121 (L : Nat) (V : Mv) (b : Bool) (x1 : Int) (x2 : Int) (x3 : Int) (x4 : Int) (x6 : Int) (x7 : Int) (s0 : Int) (s1 : Int) (g0 : in32 (s0 + s1)) : nxs 19 175 121 [some (.inr (.inr 120)), some (.inl x1), some (.inl x2), some (.inl x3), some (.inr (.inl x4)), none, some (.inl x6), some (.inl x7), none] [.inl s1, .inl s0] (M0 L V b) = some (true, 32, [some (.inr (.inr 120)), some (.inl x1), some (.inl x2), some (.inl (x3 + 1)), some (.inr (.inl x4)), none, some (.inl x6), some (.inl x7), some (.inl (s0 + s1))], [], M0 L (uV (uV V 120 24 ((V 120 24) + (x4 * (s0 + s1)))) 120 25 (((uV V 120 24 ((V 120 24) + (x4 * (s0 + s1)))) 120 25) + x4)) b) := by
  have f0 : r32 (s0 + s1) = true := r32_of g0
  have hG : (r32 (s0 + s1) && true) = true := an f0 rfl
  show some (r32 (s0 + s1) && true, _) = _
  rw [hG]
  try rfl

theorem B175_156 (L : Nat) (V : Mv) (b : Bool) (x1 : Int) (x2 : Int) (x3 : Int)  : nxs 4 175 156 [some (.inr (.inr 120)), some (.inl x1), some (.inl x2), some (.inl x3), none, none, none, none, none] [] (M0 L V b) = some (true, 164, [some (.inr (.inr 120)), some (.inl x1), some (.inl x2), some (.inl x3), none, none, none, none, none], [.inr (.inl (V 120 25)), .inr (.inl (V 120 24))], M0 L V b) := by
  rfl

theorem B175_167 (L : Nat) (V : Mv) (b : Bool) (x1 : Int) (x2 : Int) (x3 : Int) (s0 : Int) (g0 : in64 (V 120 24)) (g1 : in64 s0) (g2 : ¬ s0 = 0) (g3 : in64 ((uV V 120 24 (Int.tdiv (V 120 24) s0)) 120 25)) (g4 : ¬ s0 = 0) : nxs 14 175 167 [some (.inr (.inr 120)), some (.inl x1), some (.inl x2), some (.inl x3), none, none, none, none, none] [.inr (.inl s0)] (M0 L V b) = some (true, 189, [some (.inr (.inr 120)), some (.inl x1), some (.inl x2), some (.inr (.inl s0)), none, none, none, none, none], [.inl 1], M0 L (uV (uV V 120 24 (Int.tdiv (V 120 24) s0)) 120 25 (Int.tdiv ((uV V 120 24 (Int.tdiv (V 120 24) s0)) 120 25) s0)) b) := by
  have f0 : gL (V 120 24) s0 = true := gL_of g0 g1 g2
  have f1 : gL ((uV V 120 24 (Int.tdiv (V 120 24) s0)) 120 25) s0 = true := gL_of g3 g1 g4
  have hG : (gL (V 120 24) s0 && (gL ((uV V 120 24 (Int.tdiv (V 120 24) s0)) 120 25) s0 && true)) = true := an f0 (an f1 rfl)
  show some (gL (V 120 24) s0 && (gL ((uV V 120 24 (Int.tdiv (V 120 24) s0)) 120 25) s0 && true), _) = _
  rw [hG]
  try rfl

-- 176: MendedOrNewModel.hasMendings(II)Z
theorem B176_0 (L : Nat) (V : Mv) (b : Bool) (x1 : Int) (x2 : Int)  : nxs 4 176 0 [some (.inr (.inr 120)), some (.inl x1), some (.inl x2), none, none, none] [] (M0 L V b) = some (true, 5, [some (.inr (.inr 120)), some (.inl x1), some (.inl x2), some (.inl 1), some (.inl 0), none], [], M0 L V b) := by
  rfl

theorem B176_5 (L : Nat) (V : Mv) (b : Bool) (x1 : Int) (x2 : Int) (x3 : Int) (x4 : Int) (g0 : 0 ≤ x1 ∧ x1 < 4) (g1 : in32 x4) (g2 : in32 (V 121 (x1).toNat)) : nxs 6 176 5 [some (.inr (.inr 120)), some (.inl x1), some (.inl x2), some (.inl x3), some (.inl x4), none] [] (M0 L V b) = some (true, cond (decide (V 121 (x1).toNat ≤ x4)) 69 16, [some (.inr (.inr 120)), some (.inl x1), some (.inl x2), some (.inl x3), some (.inl x4), none], [], M0 L V b) := by
  have f0 : gX (M0 L V b) 121 1 x1 = true := gx_of rfl g0
  have f1 : (r32 x4 && r32 (V 121 (x1).toNat)) = true := rr32_of g1 g2
  have hG : (gX (M0 L V b) 121 1 x1 && ((r32 x4 && r32 (V 121 (x1).toNat)) && true)) = true := an f0 (an f1 rfl)
  show some (gX (M0 L V b) 121 1 x1 && ((r32 x4 && r32 (V 121 (x1).toNat)) && true), _) = _
  rw [hG]
  try rfl

theorem B176_16 (L : Nat) (V : Mv) (b : Bool) (x1 : Int) (x2 : Int) (x3 : Int) (x4 : Int) (g0 : 0 ≤ (8 * x2) + x4 ∧ (8 * x2) + x4 < 40) (g1 : in32 x3) : nxs 11 176 16 [some (.inr (.inr 120)), some (.inl x1), some (.inl x2), some (.inl x3), some (.inl x4), none] [] (M0 L V b) = some (true, cond (decide (x3 = 0)) 61 34, [some (.inr (.inr 120)), some (.inl x1), some (.inl x2), some (.inl x3), some (.inl x4), some (.inl (V 135 ((8 * x2) + x4).toNat))], [], M0 L V b) := by
  have f0 : gX (M0 L V b) 135 1 ((8 * x2) + x4) = true := gx_of rfl g0
  have f1 : r32 x3 = true := r32_of g1
  have hG : (gX (M0 L V b) 135 1 ((8 * x2) + x4) && (r32 x3 && true)) = true := an f0 (an f1 rfl)
  show some (gX (M0 L V b) 135 1 ((8 * x2) + x4) && (r32 x3 && true), _) = _
  rw [hG]
  try rfl

theorem B176_34 (L : Nat) (V : Mv) (b : Bool) (x1 : Int) (x2 : Int) (x3 : Int) (x4 : Int) (x5 : Int) (g0 : in32 x5) : nxs 2 176 34 [some (.inr (.inr 120)), some (.inl x1), some (.inl x2), some (.inl x3), some (.inl x4), some (.inl x5)] [] (M0 L V b) = some (true, cond (decide (x5 = 0)) 57 39, [some (.inr (.inr 120)), some (.inl x1), some (.inl x2), some (.inl x3), some (.inl x4), some (.inl x5)], [], M0 L V b) := by
  have f0 : r32 x5 = true := r32_of g0
  have hG : (r32 x5 && true) = true := an f0 rfl
  show some (r32 x5 && true, _) = _
  rw [hG]
  try rfl

theorem B176_39 (L : Nat) (V : Mv) (b : Bool) (x1 : Int) (x2 : Int) (x3 : Int) (x4 : Int) (x5 : Int) (g0 : 0 ≤ ((4 * x1) + x5) - 1 ∧ ((4 * x1) + x5) - 1 < 16) (g1 : in32 (V 126 (((4 * x1) + x5) - 1).toNat)) : nxs 12 176 39 [some (.inr (.inr 120)), some (.inl x1), some (.inl x2), some (.inl x3), some (.inl x4), some (.inl x5)] [] (M0 L V b) = some (true, cond (decide (V 126 (((4 * x1) + x5) - 1).toNat = (-9))) 61 57, [some (.inr (.inr 120)), some (.inl x1), some (.inl x2), some (.inl x3), some (.inl x4), some (.inl x5)], [], M0 L V b) := by
  have f0 : gX (M0 L V b) 126 1 (((4 * x1) + x5) - 1) = true := gx_of rfl g0
  have f1 : (r32 (V 126 (((4 * x1) + x5) - 1).toNat) && r32 (-9)) = true := rr32_of g1 (by decide)
  have hG : (gX (M0 L V b) 126 1 (((4 * x1) + x5) - 1) && ((r32 (V 126 (((4 * x1) + x5) - 1).toNat) && r32 (-9)) && true)) = true := an f0 (an f1 rfl)
  show some (gX (M0 L V b) 126 1 (((4 * x1) + x5) - 1) && ((r32 (V 126 (((4 * x1) + x5) - 1).toNat) && r32 (-9)) && true), _) = _
  rw [hG]
  try rfl

theorem B176_57 (L : Nat) (V : Mv) (b : Bool) (x1 : Int) (x2 : Int) (x3 : Int) (x4 : Int) (x5 : Int)  : nxs 2 176 57 [some (.inr (.inr 120)), some (.inl x1), some (.inl x2), some (.inl x3), some (.inl x4), some (.inl x5)] [] (M0 L V b) = some (true, 62, [some (.inr (.inr 120)), some (.inl x1), some (.inl x2), some (.inl x3), some (.inl x4), some (.inl x5)], [.inl 1], M0 L V b) := by
  rfl

theorem B176_61 (L : Nat) (V : Mv) (b : Bool) (x1 : Int) (x2 : Int) (x3 : Int) (x4 : Int) (x5 : Int)  : nxs 1 176 61 [some (.inr (.inr 120)), some (.inl x1), some (.inl x2), some (.inl x3), some (.inl x4), some (.inl x5)] [] (M0 L V b) = some (true, 62, [some (.inr (.inr 120)), some (.inl x1), some (.inl x2), some (.inl x3), some (.inl x4), some (.inl x5)], [.inl 0], M0 L V b) := by
  rfl

theorem B176_62 (L : Nat) (V : Mv) (b : Bool) (x1 : Int) (x2 : Int) (x3 : Int) (x4 : Int) (x5 : Int) (s0 : Int)  : nxs 3 176 62 [some (.inr (.inr 120)), some (.inl x1), some (.inl x2), some (.inl x3), some (.inl x4), some (.inl x5)] [.inl s0] (M0 L V b) = some (true, 5, [some (.inr (.inr 120)), some (.inl x1), some (.inl x2), some (.inl s0), some (.inl (x4 + 1)), some (.inl x5)], [], M0 L V b) := by
  rfl

theorem B176_69 (L : Nat) (V : Mv) (b : Bool) (x1 : Int) (x2 : Int) (x3 : Int) (x4 : Int)  : nxs 1 176 69 [some (.inr (.inr 120)), some (.inl x1), some (.inl x2), some (.inl x3), some (.inl x4), none] [] (M0 L V b) = some (true, 70, [some (.inr (.inr 120)), some (.inl x1), some (.inl x2), some (.inl x3), some (.inl x4), none], [.inl x3], M0 L V b) := by
  rfl

-- 177: MendedOrNewModel.layAgain(II)Z
theorem B177_0 (L : Nat) (V : Mv) (b : Bool) (x1 : Int) (x2 : Int)  : nxs 3 177 0 [some (.inr (.inr 120)), some (.inl x1), some (.inl x2), none, none, none, none, none] [] (M0 L V b) = some (true, 3, [some (.inr (.inr 120)), some (.inl x1), some (.inl x2), none, none, none, none, none], [.inl x2, .inl x1, .inr (.inr 120)], M0 L V b) := by
  rfl

theorem B177_6 (L : Nat) (V : Mv) (b : Bool) (x1 : Int) (x2 : Int) (g0 : 0 ≤ x1 ∧ x1 < 4) : nxs 10 177 6 [some (.inr (.inr 120)), some (.inl x1), some (.inl x2), none, none, none, none, none] [] (M0 L V b) = some (true, 21, [some (.inr (.inr 120)), some (.inl x1), some (.inl x2), some (.inl (V 121 (x1).toNat)), some (.inl 0), none, none, none], [], M0 L (uV V 120 23 0) b) := by
  have f0 : gX (M0 L V b) 121 1 x1 = true := gx_of rfl g0
  have hG : (gX (M0 L V b) 121 1 x1 && true) = true := an f0 rfl
  show some (gX (M0 L V b) 121 1 x1 && true, _) = _
  rw [hG]
  try rfl

theorem B177_21 (L : Nat) (V : Mv) (b : Bool) (x1 : Int) (x2 : Int) (x3 : Int) (x4 : Int) (g0 : in32 x4) (g1 : in32 x3) : nxs 3 177 21 [some (.inr (.inr 120)), some (.inl x1), some (.inl x2), some (.inl x3), some (.inl x4), none, none, none] [] (M0 L V b) = some (true, cond (decide (x3 ≤ x4)) 168 27, [some (.inr (.inr 120)), some (.inl x1), some (.inl x2), some (.inl x3), some (.inl x4), none, none, none], [], M0 L V b) := by
  have f0 : (r32 x4 && r32 x3) = true := rr32_of g0 g1
  have hG : ((r32 x4 && r32 x3) && true) = true := an f0 rfl
  show some ((r32 x4 && r32 x3) && true, _) = _
  rw [hG]
  try rfl

theorem B177_27 (L : Nat) (V : Mv) (b : Bool) (x1 : Int) (x2 : Int) (x3 : Int) (x4 : Int) (g0 : in32 x4) : nxs 2 177 27 [some (.inr (.inr 120)), some (.inl x1), some (.inl x2), some (.inl x3), some (.inl x4), none, none, none] [] (M0 L V b) = some (true, cond (decide (x4 = 0)) 47 32, [some (.inr (.inr 120)), some (.inl x1), some (.inl x2), some (.inl x3), some (.inl x4), none, none, none], [], M0 L V b) := by
  have f0 : r32 x4 = true := r32_of g0
  have hG : (r32 x4 && true) = true := an f0 rfl
  show some (r32 x4 && true, _) = _
  rw [hG]
  try rfl

theorem B177_32 (L : Nat) (V : Mv) (b : Bool) (x1 : Int) (x2 : Int) (x3 : Int) (x4 : Int) (g0 : in32 (oAnd (oShr (V 137 (0 : Int).toNat) x4) 1)) : nxs 10 177 32 [some (.inr (.inr 120)), some (.inl x1), some (.inl x2), some (.inl x3), some (.inl x4), none, none, none] [] (M0 L V b) = some (true, cond (!decide (oAnd (oShr (V 137 (0 : Int).toNat) x4) 1 = 1)) 51 47, [some (.inr (.inr 120)), some (.inl x1), some (.inl x2), some (.inl x3), some (.inl x4), none, none, none], [], M0 L V b) := by
  have f0 : gX (M0 L V b) 137 1 0 = true := gx_of rfl (by decide)
  have f1 : (r32 (oAnd (oShr (V 137 (0 : Int).toNat) x4) 1) && r32 1) = true := rr32_of g0 (by decide)
  have hG : (gX (M0 L V b) 137 1 0 && ((r32 (oAnd (oShr (V 137 (0 : Int).toNat) x4) 1) && r32 1) && true)) = true := an f0 (an f1 rfl)
  show some (gX (M0 L V b) 137 1 0 && ((r32 (oAnd (oShr (V 137 (0 : Int).toNat) x4) 1) && r32 1) && true), _) = _
  rw [hG]
  try rfl

theorem B177_47 (L : Nat) (V : Mv) (b : Bool) (x1 : Int) (x2 : Int) (x3 : Int) (x4 : Int)  : nxs 2 177 47 [some (.inr (.inr 120)), some (.inl x1), some (.inl x2), some (.inl x3), some (.inl x4), none, none, none] [] (M0 L V b) = some (true, 52, [some (.inr (.inr 120)), some (.inl x1), some (.inl x2), some (.inl x3), some (.inl x4), none, none, none], [.inl 1], M0 L V b) := by
  rfl

theorem B177_51 (L : Nat) (V : Mv) (b : Bool) (x1 : Int) (x2 : Int) (x3 : Int) (x4 : Int)  : nxs 1 177 51 [some (.inr (.inr 120)), some (.inl x1), some (.inl x2), some (.inl x3), some (.inl x4), none, none, none] [] (M0 L V b) = some (true, 52, [some (.inr (.inr 120)), some (.inl x1), some (.inl x2), some (.inl x3), some (.inl x4), none, none, none], [.inl 0], M0 L V b) := by
  rfl

theorem B177_52 (L : Nat) (V : Mv) (b : Bool) (x1 : Int) (x2 : Int) (x3 : Int) (x4 : Int) (s0 : Int)  : nxs 5 177 52 [some (.inr (.inr 120)), some (.inl x1), some (.inl x2), some (.inl x3), some (.inl x4), none, none, none] [.inl s0] (M0 L V b) = some (true, 60, [some (.inr (.inr 120)), some (.inl x1), some (.inl x2), some (.inl x3), some (.inl x4), some (.inl s0), some (.inl 1), some (.inl 0)], [], M0 L V b) := by
  rfl

theorem B177_60 (L : Nat) (V : Mv) (b : Bool) (x1 : Int) (x2 : Int) (x3 : Int) (x4 : Int) (x5 : Int) (x6 : Int) (x7 : Int) (g0 : in32 x7) (g1 : in32 x3) : nxs 3 177 60 [some (.inr (.inr 120)), some (.inl x1), some (.inl x2), some (.inl x3), some (.inl x4), some (.inl x5), some (.inl x6), some (.inl x7)] [] (M0 L V b) = some (true, cond (decide (x3 ≤ x7)) 115 66, [some (.inr (.inr 120)), some (.inl x1), some (.inl x2), some (.inl x3), some (.inl x4), some (.inl x5), some (.inl x6), some (.inl x7)], [], M0 L V b) := by
  have f0 : (r32 x7 && r32 x3) = true := rr32_of g0 g1
  have hG : ((r32 x7 && r32 x3) && true) = true := an f0 rfl
  show some ((r32 x7 && r32 x3) && true, _) = _
  rw [hG]
  try rfl

theorem B177_66 (L : Nat) (V : Mv) (b : Bool) (x1 : Int) (x2 : Int) (x3 : Int) (x4 : Int) (x5 : Int) (x6 : Int) (x7 : Int) (g0 : in32 x6) : nxs 2 177 66 [some (.inr (.inr 120)), some (.inl x1), some (.inl x2), some (.inl x3), some (.inl x4), some (.inl x5), some (.inl x6), some (.inl x7)] [] (M0 L V b) = some (true, cond (decide (x6 = 0)) 106 71, [some (.inr (.inr 120)), some (.inl x1), some (.inl x2), some (.inl x3), some (.inl x4), some (.inl x5), some (.inl x6), some (.inl x7)], [], M0 L V b) := by
  have f0 : r32 x6 = true := r32_of g0
  have hG : (r32 x6 && true) = true := an f0 rfl
  show some (r32 x6 && true, _) = _
  rw [hG]
  try rfl

theorem B177_71 (L : Nat) (V : Mv) (b : Bool) (x1 : Int) (x2 : Int) (x3 : Int) (x4 : Int) (x5 : Int) (x6 : Int) (x7 : Int) (g0 : 0 ≤ x4 ∧ x4 < 8) (g1 : in32 (oAnd (oShr (V 137 (x4).toNat) x7) 1)) : nxs 9 177 71 [some (.inr (.inr 120)), some (.inl x1), some (.inl x2), some (.inl x3), some (.inl x4), some (.inl x5), some (.inl x6), some (.inl x7)] [] (M0 L V b) = some (true, cond (decide (oAnd (oShr (V 137 (x4).toNat) x7) 1 = 0)) 102 86, [some (.inr (.inr 120)), some (.inl x1), some (.inl x2), some (.inl x3), some (.inl x4), some (.inl x5), some (.inl x6), some (.inl x7)], [], M0 L V b) := by
  have f0 : gX (M0 L V b) 137 1 x4 = true := gx_of rfl g0
  have f1 : r32 (oAnd (oShr (V 137 (x4).toNat) x7) 1) = true := r32_of g1
  have hG : (gX (M0 L V b) 137 1 x4 && (r32 (oAnd (oShr (V 137 (x4).toNat) x7) 1) && true)) = true := an f0 (an f1 rfl)
  show some (gX (M0 L V b) 137 1 x4 && (r32 (oAnd (oShr (V 137 (x4).toNat) x7) 1) && true), _) = _
  rw [hG]
  try rfl

theorem B177_86 (L : Nat) (V : Mv) (b : Bool) (x1 : Int) (x2 : Int) (x3 : Int) (x4 : Int) (x5 : Int) (x6 : Int) (x7 : Int) (g0 : 0 ≤ x7 ∧ x7 < 8) (g1 : in32 (oAnd (oShr (V 137 (x7).toNat) x4) 1)) : nxs 10 177 86 [some (.inr (.inr 120)), some (.inl x1), some (.inl x2), some (.inl x3), some (.inl x4), some (.inl x5), some (.inl x6), some (.inl x7)] [] (M0 L V b) = some (true, cond (!decide (oAnd (oShr (V 137 (x7).toNat) x4) 1 = 1)) 106 102, [some (.inr (.inr 120)), some (.inl x1), some (.inl x2), some (.inl x3), some (.inl x4), some (.inl x5), some (.inl x6), some (.inl x7)], [], M0 L V b) := by
  have f0 : gX (M0 L V b) 137 1 x7 = true := gx_of rfl g0
  have f1 : (r32 (oAnd (oShr (V 137 (x7).toNat) x4) 1) && r32 1) = true := rr32_of g1 (by decide)
  have hG : (gX (M0 L V b) 137 1 x7 && ((r32 (oAnd (oShr (V 137 (x7).toNat) x4) 1) && r32 1) && true)) = true := an f0 (an f1 rfl)
  show some (gX (M0 L V b) 137 1 x7 && ((r32 (oAnd (oShr (V 137 (x7).toNat) x4) 1) && r32 1) && true), _) = _
  rw [hG]
  try rfl

theorem B177_102 (L : Nat) (V : Mv) (b : Bool) (x1 : Int) (x2 : Int) (x3 : Int) (x4 : Int) (x5 : Int) (x6 : Int) (x7 : Int)  : nxs 2 177 102 [some (.inr (.inr 120)), some (.inl x1), some (.inl x2), some (.inl x3), some (.inl x4), some (.inl x5), some (.inl x6), some (.inl x7)] [] (M0 L V b) = some (true, 107, [some (.inr (.inr 120)), some (.inl x1), some (.inl x2), some (.inl x3), some (.inl x4), some (.inl x5), some (.inl x6), some (.inl x7)], [.inl 1], M0 L V b) := by
  rfl

theorem B177_106 (L : Nat) (V : Mv) (b : Bool) (x1 : Int) (x2 : Int) (x3 : Int) (x4 : Int) (x5 : Int) (x6 : Int) (x7 : Int)  : nxs 1 177 106 [some (.inr (.inr 120)), some (.inl x1), some (.inl x2), some (.inl x3), some (.inl x4), some (.inl x5), some (.inl x6), some (.inl x7)] [] (M0 L V b) = some (true, 107, [some (.inr (.inr 120)), some (.inl x1), some (.inl x2), some (.inl x3), some (.inl x4), some (.inl x5), some (.inl x6), some (.inl x7)], [.inl 0], M0 L V b) := by
  rfl

theorem B177_107 (L : Nat) (V : Mv) (b : Bool) (x1 : Int) (x2 : Int) (x3 : Int) (x4 : Int) (x5 : Int) (x6 : Int) (x7 : Int) (s0 : Int)  : nxs 3 177 107 [some (.inr (.inr 120)), some (.inl x1), some (.inl x2), some (.inl x3), some (.inl x4), some (.inl x5), some (.inl x6), some (.inl x7)] [.inl s0] (M0 L V b) = some (true, 60, [some (.inr (.inr 120)), some (.inl x1), some (.inl x2), some (.inl x3), some (.inl x4), some (.inl x5), some (.inl s0), some (.inl (x7 + 1))], [], M0 L V b) := by
  rfl

theorem B177_115 (L : Nat) (V : Mv) (b : Bool) (x1 : Int) (x2 : Int) (x3 : Int) (x4 : Int) (x5 : Int) (x6 : Int) (x7 : Int) (g0 : in32 x5) : nxs 2 177 115 [some (.inr (.inr 120)), some (.inl x1), some (.inl x2), some (.inl x3), some (.inl x4), some (.inl x5), some (.inl x6), some (.inl x7)] [] (M0 L V b) = some (true, cond (decide (x5 = 0)) 162 120, [some (.inr (.inr 120)), some (.inl x1), some (.inl x2), some (.inl x3), some (.inl x4), some (.inl x5), some (.inl x6), some (.inl x7)], [], M0 L V b) := by
  have f0 : r32 x5 = true := r32_of g0
  have hG : (r32 x5 && true) = true := an f0 rfl
  show some (r32 x5 && true, _) = _
  rw [hG]
  try rfl

theorem B177_120 (L : Nat) (V : Mv) (b : Bool) (x1 : Int) (x2 : Int) (x3 : Int) (x4 : Int) (x5 : Int) (x6 : Int) (x7 : Int) (g0 : in32 x6) : nxs 2 177 120 [some (.inr (.inr 120)), some (.inl x1), some (.inl x2), some (.inl x3), some (.inl x4), some (.inl x5), some (.inl x6), some (.inl x7)] [] (M0 L V b) = some (true, cond (decide (x6 = 0)) 162 125, [some (.inr (.inr 120)), some (.inl x1), some (.inl x2), some (.inl x3), some (.inl x4), some (.inl x5), some (.inl x6), some (.inl x7)], [], M0 L V b) := by
  have f0 : r32 x6 = true := r32_of g0
  have hG : (r32 x6 && true) = true := an f0 rfl
  show some (r32 x6 && true, _) = _
  rw [hG]
  try rfl

theorem B177_125 (L : Nat) (V : Mv) (b : Bool) (x1 : Int) (x2 : Int) (x3 : Int) (x4 : Int) (x5 : Int) (x6 : Int) (x7 : Int) (g0 : 0 ≤ x4 ∧ x4 < 8) (g1 : in32 (oAnd (oShr (V 137 (x4).toNat) x4) 1)) : nxs 10 177 125 [some (.inr (.inr 120)), some (.inl x1), some (.inl x2), some (.inl x3), some (.inl x4), some (.inl x5), some (.inl x6), some (.inl x7)] [] (M0 L V b) = some (true, cond (!decide (oAnd (oShr (V 137 (x4).toNat) x4) 1 = 1)) 162 141, [some (.inr (.inr 120)), some (.inl x1), some (.inl x2), some (.inl x3), some (.inl x4), some (.inl x5), some (.inl x6), some (.inl x7)], [], M0 L V b) := by
  have f0 : gX (M0 L V b) 137 1 x4 = true := gx_of rfl g0
  have f1 : (r32 (oAnd (oShr (V 137 (x4).toNat) x4) 1) && r32 1) = true := rr32_of g1 (by decide)
  have hG : (gX (M0 L V b) 137 1 x4 && ((r32 (oAnd (oShr (V 137 (x4).toNat) x4) 1) && r32 1) && true)) = true := an f0 (an f1 rfl)
  show some (gX (M0 L V b) 137 1 x4 && ((r32 (oAnd (oShr (V 137 (x4).toNat) x4) 1) && r32 1) && true), _) = _
  rw [hG]
  try rfl

theorem B177_141 (L : Nat) (V : Mv) (b : Bool) (x1 : Int) (x2 : Int) (x3 : Int) (x4 : Int) (x5 : Int) (x6 : Int) (x7 : Int) (g0 : 0 ≤ V 120 23 ∧ V 120 23 < 8) : nxs 12 177 141 [some (.inr (.inr 120)), some (.inl x1), some (.inl x2), some (.inl x3), some (.inl x4), some (.inl x5), some (.inl x6), some (.inl x7)] [] (M0 L V b) = some (true, 162, [some (.inr (.inr 120)), some (.inl x1), some (.inl x2), some (.inl x3), some (.inl x4), some (.inl x5), some (.inl x6), some (.inl x7)], [], M0 L (uV (uV V 138 (V 120 23).toNat x4) 120 23 (((uV V 138 (V 120 23).toNat x4) 120 23) + 1)) b) := by
  have f0 : (gX (M0 L V b) 138 1 (V 120 23) && !Nat.beq 138 0) = true := gs_of (gx_of rfl g0) (by decide)
  have hG : ((gX (M0 L V b) 138 1 (V 120 23) && !Nat.beq 138 0) && true) = true := an f0 rfl
  show some ((gX (M0 L V b) 138 1 (V 120 23) && !Nat.beq 138 0) && true, _) = _
  rw [hG]
  try rfl

theorem B177_162 (L : Nat) (V : Mv) (b : Bool) (x1 : Int) (x2 : Int) (x3 : Int) (x4 : Int) (x5 : Int) (x6 : Int) (x7 : Int)  : nxs 2 177 162 [some (.inr (.inr 120)), some (.inl x1), some (.inl x2), some (.inl x3), some (.inl x4), some (.inl x5), some (.inl x6), some (.inl x7)] [] (M0 L V b) = some (true, 21, [some (.inr (.inr 120)), some (.inl x1), some (.inl x2), some (.inl x3), some (.inl (x4 + 1)), some (.inl x5), some (.inl x6), some (.inl x7)], [], M0 L V b) := by
  rfl

theorem B177_168 (L : Nat) (V : Mv) (b : Bool) (x1 : Int) (x2 : Int) (x3 : Int) (x4 : Int)  : nxs 4 177 168 [some (.inr (.inr 120)), some (.inl x1), some (.inl x2), some (.inl x3), some (.inl x4), none, none, none] [] (M0 L V b) = some (true, 174, [some (.inr (.inr 120)), some (.inl x1), some (.inl x2), some (.inl x3), some (.inl 1), some (.inl 0), none, none], [], M0 L V b) := by
  rfl

theorem B177_174 (L : Nat) (V : Mv) (b : Bool) (x1 : Int) (x2 : Int) (x3 : Int) (x4 : Int) (x5 : Int) (g0 : in32 x5) (g1 : in32 (V 120 23)) : nxs 4 177 174 [some (.inr (.inr 120)), some (.inl x1), some (.inl x2), some (.inl x3), some (.inl x4), some (.inl x5), none, none] [] (M0 L V b) = some (true, cond (decide (V 120 23 ≤ x5)) 226 183, [some (.inr (.inr 120)), some (.inl x1), some (.inl x2), some (.inl x3), some (.inl x4), some (.inl x5), none, none], [], M0 L V b) := by
  have f0 : (r32 x5 && r32 (V 120 23)) = true := rr32_of g0 g1
  have hG : ((r32 x5 && r32 (V 120 23)) && true) = true := an f0 rfl
  show some ((r32 x5 && r32 (V 120 23)) && true, _) = _
  rw [hG]
  try rfl

theorem B177_183 (L : Nat) (V : Mv) (b : Bool) (x1 : Int) (x2 : Int) (x3 : Int) (x4 : Int) (x5 : Int) (g0 : in32 x4) : nxs 2 177 183 [some (.inr (.inr 120)), some (.inl x1), some (.inl x2), some (.inl x3), some (.inl x4), some (.inl x5), none, none] [] (M0 L V b) = some (true, cond (decide (x4 = 0)) 217 188, [some (.inr (.inr 120)), some (.inl x1), some (.inl x2), some (.inl x3), some (.inl x4), some (.inl x5), none, none], [], M0 L V b) := by
  have f0 : r32 x4 = true := r32_of g0
  have hG : (r32 x4 && true) = true := an f0 rfl
  show some (r32 x4 && true, _) = _
  rw [hG]
  try rfl

theorem B177_188 (L : Nat) (V : Mv) (b : Bool) (x1 : Int) (x2 : Int) (x3 : Int) (x4 : Int) (x5 : Int) (g0 : 0 ≤ V 138 (0 : Int).toNat ∧ V 138 (0 : Int).toNat < 8) (g1 : 0 ≤ x5 ∧ x5 < 8) (g2 : in32 (oAnd (oShr (V 137 (V 138 (0 : Int).toNat).toNat) (V 138 (x5).toNat)) 1)) : nxs 16 177 188 [some (.inr (.inr 120)), some (.inl x1), some (.inl x2), some (.inl x3), some (.inl x4), some (.inl x5), none, none] [] (M0 L V b) = some (true, cond (!decide (oAnd (oShr (V 137 (V 138 (0 : Int).toNat).toNat) (V 138 (x5).toNat)) 1 = 1)) 217 213, [some (.inr (.inr 120)), some (.inl x1), some (.inl x2), some (.inl x3), some (.inl x4), some (.inl x5), none, none], [], M0 L V b) := by
  have f0 : gX (M0 L V b) 138 1 0 = true := gx_of rfl (by decide)
  have f1 : gX (M0 L V b) 137 1 (V 138 (0 : Int).toNat) = true := gx_of rfl g0
  have f2 : gX (M0 L V b) 138 1 x5 = true := gx_of rfl g1
  have f3 : (r32 (oAnd (oShr (V 137 (V 138 (0 : Int).toNat).toNat) (V 138 (x5).toNat)) 1) && r32 1) = true := rr32_of g2 (by decide)
  have hG : (gX (M0 L V b) 138 1 0 && (gX (M0 L V b) 137 1 (V 138 (0 : Int).toNat) && (gX (M0 L V b) 138 1 x5 && ((r32 (oAnd (oShr (V 137 (V 138 (0 : Int).toNat).toNat) (V 138 (x5).toNat)) 1) && r32 1) && true)))) = true := an f0 (an f1 (an f2 (an f3 rfl)))
  show some (gX (M0 L V b) 138 1 0 && (gX (M0 L V b) 137 1 (V 138 (0 : Int).toNat) && (gX (M0 L V b) 138 1 x5 && ((r32 (oAnd (oShr (V 137 (V 138 (0 : Int).toNat).toNat) (V 138 (x5).toNat)) 1) && r32 1) && true))), _) = _
  rw [hG]
  try rfl

theorem B177_213 (L : Nat) (V : Mv) (b : Bool) (x1 : Int) (x2 : Int) (x3 : Int) (x4 : Int) (x5 : Int)  : nxs 2 177 213 [some (.inr (.inr 120)), some (.inl x1), some (.inl x2), some (.inl x3), some (.inl x4), some (.inl x5), none, none] [] (M0 L V b) = some (true, 218, [some (.inr (.inr 120)), some (.inl x1), some (.inl x2), some (.inl x3), some (.inl x4), some (.inl x5), none, none], [.inl 1], M0 L V b) := by
  rfl

theorem B177_217 (L : Nat) (V : Mv) (b : Bool) (x1 : Int) (x2 : Int) (x3 : Int) (x4 : Int) (x5 : Int)  : nxs 1 177 217 [some (.inr (.inr 120)), some (.inl x1), some (.inl x2), some (.inl x3), some (.inl x4), some (.inl x5), none, none] [] (M0 L V b) = some (true, 218, [some (.inr (.inr 120)), some (.inl x1), some (.inl x2), some (.inl x3), some (.inl x4), some (.inl x5), none, none], [.inl 0], M0 L V b) := by
  rfl

theorem B177_218 (L : Nat) (V : Mv) (b : Bool) (x1 : Int) (x2 : Int) (x3 : Int) (x4 : Int) (x5 : Int) (s0 : Int)  : nxs 3 177 218 [some (.inr (.inr 120)), some (.inl x1), some (.inl x2), some (.inl x3), some (.inl x4), some (.inl x5), none, none] [.inl s0] (M0 L V b) = some (true, 174, [some (.inr (.inr 120)), some (.inl x1), some (.inl x2), some (.inl x3), some (.inl s0), some (.inl (x5 + 1)), none, none], [], M0 L V b) := by
  rfl

theorem B177_226 (L : Nat) (V : Mv) (b : Bool) (x1 : Int) (x2 : Int) (x3 : Int) (x4 : Int) (x5 : Int)  : nxs 1 177 226 [some (.inr (.inr 120)), some (.inl x1), some (.inl x2), some (.inl x3), some (.inl x4), some (.inl x5), none, none] [] (M0 L V b) = some (true, 228, [some (.inr (.inr 120)), some (.inl x1), some (.inl x2), some (.inl x3), some (.inl x4), some (.inl x5), none, none], [.inl x4], M0 L V b) := by
  rfl

-- 178: MendedOrNewModel.layReach(II)V
theorem B178_0 (L : Nat) (V : Mv) (b : Bool) (x1 : Int) (x2 : Int) (g0 : 0 ≤ x1 ∧ x1 < 4) : nxs 7 178 0 [some (.inr (.inr 120)), some (.inl x1), some (.inl x2), none, none, none, none] [] (M0 L V b) = some (true, 10, [some (.inr (.inr 120)), some (.inl x1), some (.inl x2), some (.inl (V 121 (x1).toNat)), some (.inl 0), none, none], [], M0 L V b) := by
  have f0 : gX (M0 L V b) 121 1 x1 = true := gx_of rfl g0
  have hG : (gX (M0 L V b) 121 1 x1 && true) = true := an f0 rfl
  show some (gX (M0 L V b) 121 1 x1 && true, _) = _
  rw [hG]
  try rfl

theorem B178_10 (L : Nat) (V : Mv) (b : Bool) (x1 : Int) (x2 : Int) (x3 : Int) (x4 : Int) (g0 : in32 x4) (g1 : in32 x3) : nxs 3 178 10 [some (.inr (.inr 120)), some (.inl x1), some (.inl x2), some (.inl x3), some (.inl x4), none, none] [] (M0 L V b) = some (true, cond (decide (x3 ≤ x4)) 100 16, [some (.inr (.inr 120)), some (.inl x1), some (.inl x2), some (.inl x3), some (.inl x4), none, none], [], M0 L V b) := by
  have f0 : (r32 x4 && r32 x3) = true := rr32_of g0 g1
  have hG : ((r32 x4 && r32 x3) && true) = true := an f0 rfl
  show some ((r32 x4 && r32 x3) && true, _) = _
  rw [hG]
  try rfl

theorem B178_16 (L : Nat) (V : Mv) (b : Bool) (x1 : Int) (x2 : Int) (x3 : Int) (x4 : Int)  : nxs 4 178 16 [some (.inr (.inr 120)), some (.inl x1), some (.inl x2), some (.inl x3), some (.inl x4), none, none] [] (M0 L V b) = some (true, 21, [some (.inr (.inr 120)), some (.inl x1), some (.inl x2), some (.inl x3), some (.inl x4), none, none], [.inl x4, .inl x2, .inl x1, .inr (.inr 120)], M0 L V b) := by
  rfl

theorem B178_24 (L : Nat) (V : Mv) (b : Bool) (x1 : Int) (x2 : Int) (x3 : Int) (x4 : Int) (s0 : Int) (g0 : 0 ≤ x4 ∧ x4 < 8) : nxs 8 178 24 [some (.inr (.inr 120)), some (.inl x1), some (.inl x2), some (.inl x3), some (.inl x4), none, none] [.inl s0] (M0 L V b) = some (true, 38, [some (.inr (.inr 120)), some (.inl x1), some (.inl x2), some (.inl x3), some (.inl x4), some (.inl s0), some (.inl s0)], [], M0 L (uV V 136 (x4).toNat 0) b) := by
  have f0 : (gX (M0 L V b) 136 1 x4 && !Nat.beq 136 0) = true := gs_of (gx_of rfl g0) (by decide)
  have hG : ((gX (M0 L V b) 136 1 x4 && !Nat.beq 136 0) && true) = true := an f0 rfl
  show some ((gX (M0 L V b) 136 1 x4 && !Nat.beq 136 0) && true, _) = _
  rw [hG]
  try rfl

theorem B178_38 (L : Nat) (V : Mv) (b : Bool) (x1 : Int) (x2 : Int) (x3 : Int) (x4 : Int) (x5 : Int) (x6 : Int) (g0 : in32 x6) (g1 : in32 x3) : nxs 3 178 38 [some (.inr (.inr 120)), some (.inl x1), some (.inl x2), some (.inl x3), some (.inl x4), some (.inl x5), some (.inl x6)] [] (M0 L V b) = some (true, cond (decide (x3 ≤ x6)) 80 44, [some (.inr (.inr 120)), some (.inl x1), some (.inl x2), some (.inl x3), some (.inl x4), some (.inl x5), some (.inl x6)], [], M0 L V b) := by
  have f0 : (r32 x6 && r32 x3) = true := rr32_of g0 g1
  have hG : ((r32 x6 && r32 x3) && true) = true := an f0 rfl
  show some ((r32 x6 && r32 x3) && true, _) = _
  rw [hG]
  try rfl

theorem B178_44 (L : Nat) (V : Mv) (b : Bool) (x1 : Int) (x2 : Int) (x3 : Int) (x4 : Int) (x5 : Int) (x6 : Int) (g0 : 0 ≤ x4 ∧ x4 < 8) : nxs 9 178 44 [some (.inr (.inr 120)), some (.inl x1), some (.inl x2), some (.inl x3), some (.inl x4), some (.inl x5), some (.inl x6)] [] (M0 L V b) = some (true, 58, [some (.inr (.inr 120)), some (.inl x1), some (.inl x2), some (.inl x3), some (.inl x4), some (.inl x5), some (.inl x6)], [.inl x6, .inl x5, .inl x1, .inr (.inr 120), .inl (V 136 (x4).toNat), .inl x4, .inr (.inr 136)], M0 L V b) := by
  have f0 : gX (M0 L V b) 136 1 x4 = true := gx_of rfl g0
  have hG : (gX (M0 L V b) 136 1 x4 && true) = true := an f0 rfl
  show some (gX (M0 L V b) 136 1 x4 && true, _) = _
  rw [hG]
  try rfl

theorem B178_61 (L : Nat) (V : Mv) (b : Bool) (x1 : Int) (x2 : Int) (x3 : Int) (x4 : Int) (x5 : Int) (x6 : Int) (s0 : Nat) (s1 : Int) (s2 : Int) (s3 : Int) (n_s0 : Nat) (t_s0 : TT L s0 = (1, n_s0)) (g0 : in32 s3) : nxs 1 178 61 [some (.inr (.inr 120)), some (.inl x1), some (.inl x2), some (.inl x3), some (.inl x4), some (.inl x5), some (.inl x6)] [.inl s3, .inl s2, .inl s1, .inr (.inr s0)] (M0 L V b) = some (true, cond (decide (s3 ≤ 0)) 71 64, [some (.inr (.inr 120)), some (.inl x1), some (.inl x2), some (.inl x3), some (.inl x4), some (.inl x5), some (.inl x6)], [.inl s2, .inl s1, .inr (.inr s0)], M0 L V b) := by
  have f0 : r32 s3 = true := r32_of g0
  have hG : (r32 s3 && true) = true := an f0 rfl
  show some (r32 s3 && true, _) = _
  rw [hG]
  try rfl

theorem B178_64 (L : Nat) (V : Mv) (b : Bool) (x1 : Int) (x2 : Int) (x3 : Int) (x4 : Int) (x5 : Int) (x6 : Int) (s0 : Nat) (s1 : Int) (s2 : Int) (n_s0 : Nat) (t_s0 : TT L s0 = (1, n_s0)) : nxs 4 178 64 [some (.inr (.inr 120)), some (.inl x1), some (.inl x2), some (.inl x3), some (.inl x4), some (.inl x5), some (.inl x6)] [.inl s2, .inl s1, .inr (.inr s0)] (M0 L V b) = some (true, 72, [some (.inr (.inr 120)), some (.inl x1), some (.inl x2), some (.inl x3), some (.inl x4), some (.inl x5), some (.inl x6)], [.inl (oShl 1 x6), .inl s2, .inl s1, .inr (.inr s0)], M0 L V b) := by
  rfl

theorem B178_71 (L : Nat) (V : Mv) (b : Bool) (x1 : Int) (x2 : Int) (x3 : Int) (x4 : Int) (x5 : Int) (x6 : Int) (s0 : Nat) (s1 : Int) (s2 : Int) (n_s0 : Nat) (t_s0 : TT L s0 = (1, n_s0)) : nxs 1 178 71 [some (.inr (.inr 120)), some (.inl x1), some (.inl x2), some (.inl x3), some (.inl x4), some (.inl x5), some (.inl x6)] [.inl s2, .inl s1, .inr (.inr s0)] (M0 L V b) = some (true, 72, [some (.inr (.inr 120)), some (.inl x1), some (.inl x2), some (.inl x3), some (.inl x4), some (.inl x5), some (.inl x6)], [.inl 0, .inl s2, .inl s1, .inr (.inr s0)], M0 L V b) := by
  rfl

theorem B178_72 (L : Nat) (V : Mv) (b : Bool) (x1 : Int) (x2 : Int) (x3 : Int) (x4 : Int) (x5 : Int) (x6 : Int) (s0 : Nat) (s1 : Int) (s2 : Int) (s3 : Int) (n_s0 : Nat) (t_s0 : TT L s0 = (1, n_s0)) (g0 : 0 ≤ s1 ∧ s1 < (n_s0 : Int)) (z_s0 : s0 ≠ 0) : nxs 4 178 72 [some (.inr (.inr 120)), some (.inl x1), some (.inl x2), some (.inl x3), some (.inl x4), some (.inl x5), some (.inl x6)] [.inl s3, .inl s2, .inl s1, .inr (.inr s0)] (M0 L V b) = some (true, 38, [some (.inr (.inr 120)), some (.inl x1), some (.inl x2), some (.inl x3), some (.inl x4), some (.inl x5), some (.inl (x6 + 1))], [], M0 L (uV V s0 (s1).toNat (oOr s2 s3)) b) := by
  have f0 : (gX (M0 L V b) s0 1 s1 && !Nat.beq s0 0) = true := gs_of (gx_of (show aT _ _ = _ from t_s0) g0) z_s0
  have hG : ((gX (M0 L V b) s0 1 s1 && !Nat.beq s0 0) && true) = true := an f0 rfl
  show some ((gX (M0 L V b) s0 1 s1 && !Nat.beq s0 0) && true, _) = _
  rw [hG]
  try rfl

theorem B178_80 (L : Nat) (V : Mv) (b : Bool) (x1 : Int) (x2 : Int) (x3 : Int) (x4 : Int) (x5 : Int) (x6 : Int) (g0 : 0 ≤ x4 ∧ x4 < 8) : nxs 10 178 80 [some (.inr (.inr 120)), some (.inl x1), some (.inl x2), some (.inl x3), some (.inl x4), some (.inl x5), some (.inl x6)] [] (M0 L V b) = some (true, 10, [some (.inr (.inr 120)), some (.inl x1), some (.inl x2), some (.inl x3), some (.inl (x4 + 1)), some (.inl x5), some (.inl x6)], [], M0 L (uV V 137 (x4).toNat (V 136 (x4).toNat)) b) := by
  have f0 : gX (M0 L V b) 136 1 x4 = true := gx_of rfl g0
  have f1 : (gX (M0 L V b) 137 1 x4 && !Nat.beq 137 0) = true := gs_of (gx_of rfl g0) (by decide)
  have hG : (gX (M0 L V b) 136 1 x4 && ((gX (M0 L V b) 137 1 x4 && !Nat.beq 137 0) && true)) = true := an f0 (an f1 rfl)
  show some (gX (M0 L V b) 136 1 x4 && ((gX (M0 L V b) 137 1 x4 && !Nat.beq 137 0) && true), _) = _
  rw [hG]
  try rfl

theorem B178_100 (L : Nat) (V : Mv) (b : Bool) (x1 : Int) (x2 : Int) (x3 : Int) (x4 : Int)  : nxs 2 178 100 [some (.inr (.inr 120)), some (.inl x1), some (.inl x2), some (.inl x3), some (.inl x4), none, none] [] (M0 L V b) = some (true, 103, [some (.inr (.inr 120)), some (.inl x1), some (.inl x2), some (.inl x3), some (.inl 0), none, none], [], M0 L V b) := by
  rfl

theorem B178_103 (L : Nat) (V : Mv) (b : Bool) (x1 : Int) (x2 : Int) (x3 : Int) (x4 : Int) (g0 : in32 x4) (g1 : in32 x3) : nxs 3 178 103 [some (.inr (.inr 120)), some (.inl x1), some (.inl x2), some (.inl x3), some (.inl x4), none, none] [] (M0 L V b) = some (true, cond (decide (x3 ≤ x4)) 182 109, [some (.inr (.inr 120)), some (.inl x1), some (.inl x2), some (.inl x3), some (.inl x4), none, none], [], M0 L V b) := by
  have f0 : (r32 x4 && r32 x3) = true := rr32_of g0 g1
  have hG : ((r32 x4 && r32 x3) && true) = true := an f0 rfl
  show some ((r32 x4 && r32 x3) && true, _) = _
  rw [hG]
  try rfl

theorem B178_109 (L : Nat) (V : Mv) (b : Bool) (x1 : Int) (x2 : Int) (x3 : Int) (x4 : Int)  : nxs 2 178 109 [some (.inr (.inr 120)), some (.inl x1), some (.inl x2), some (.inl x3), some (.inl x4), none, none] [] (M0 L V b) = some (true, 112, [some (.inr (.inr 120)), some (.inl x1), some (.inl x2), some (.inl x3), some (.inl x4), some (.inl 0), none], [], M0 L V b) := by
  rfl

theorem B178_112 (L : Nat) (V : Mv) (b : Bool) (x1 : Int) (x2 : Int) (x3 : Int) (x4 : Int) (x5 : Int) (g0 : in32 x5) (g1 : in32 x3) : nxs 3 178 112 [some (.inr (.inr 120)), some (.inl x1), some (.inl x2), some (.inl x3), some (.inl x4), some (.inl x5), none] [] (M0 L V b) = some (true, cond (decide (x3 ≤ x5)) 176 118, [some (.inr (.inr 120)), some (.inl x1), some (.inl x2), some (.inl x3), some (.inl x4), some (.inl x5), none], [], M0 L V b) := by
  have f0 : (r32 x5 && r32 x3) = true := rr32_of g0 g1
  have hG : ((r32 x5 && r32 x3) && true) = true := an f0 rfl
  show some ((r32 x5 && r32 x3) && true, _) = _
  rw [hG]
  try rfl

theorem B178_118 (L : Nat) (V : Mv) (b : Bool) (x1 : Int) (x2 : Int) (x3 : Int) (x4 : Int) (x5 : Int)  : nxs 2 178 118 [some (.inr (.inr 120)), some (.inl x1), some (.inl x2), some (.inl x3), some (.inl x4), some (.inl x5), none] [] (M0 L V b) = some (true, 121, [some (.inr (.inr 120)), some (.inl x1), some (.inl x2), some (.inl x3), some (.inl x4), some (.inl x5), some (.inl 0)], [], M0 L V b) := by
  rfl

theorem B178_121 (L : Nat) (V : Mv) (b : Bool) (x1 : Int) (x2 : Int) (x3 : Int) (x4 : Int) (x5 : Int) (x6 : Int) (g0 : in32 x6) (g1 : in32 x3) : nxs 3 178 121 [some (.inr (.inr 120)), some (.inl x1), some (.inl x2), some (.inl x3), some (.inl x4), some (.inl x5), some (.inl x6)] [] (M0 L V b) = some (true, cond (decide (x3 ≤ x6)) 170 127, [some (.inr (.inr 120)), some (.inl x1), some (.inl x2), some (.inl x3), some (.inl x4), some (.inl x5), some (.inl x6)], [], M0 L V b) := by
  have f0 : (r32 x6 && r32 x3) = true := rr32_of g0 g1
  have hG : ((r32 x6 && r32 x3) && true) = true := an f0 rfl
  show some ((r32 x6 && r32 x3) && true, _) = _
  rw [hG]
  try rfl

theorem B178_127 (L : Nat) (V : Mv) (b : Bool) (x1 : Int) (x2 : Int) (x3 : Int) (x4 : Int) (x5 : Int) (x6 : Int) (g0 : 0 ≤ x5 ∧ x5 < 8) (g1 : in32 (oAnd (oShr (V 137 (x5).toNat) x6) 1)) : nxs 15 178 127 [some (.inr (.inr 120)), some (.inl x1), some (.inl x2), some (.inl x3), some (.inl x4), some (.inl x5), some (.inl x6)] [] (M0 L V b) = some (true, cond (!decide (oAnd (oShr (V 137 (x5).toNat) x6) 1 = 1)) 161 151, [some (.inr (.inr 120)), some (.inl x1), some (.inl x2), some (.inl x3), some (.inl x4), some (.inl x5), some (.inl x6)], [.inl (V 137 (x5).toNat), .inl x5, .inr (.inr 137)], M0 L V b) := by
  have f0 : gX (M0 L V b) 137 1 x5 = true := gx_of rfl g0
  have f1 : gX (M0 L V b) 137 1 x5 = true := gx_of rfl g0
  have f2 : (r32 (oAnd (oShr (V 137 (x5).toNat) x6) 1) && r32 1) = true := rr32_of g1 (by decide)
  have hG : (gX (M0 L V b) 137 1 x5 && (gX (M0 L V b) 137 1 x5 && ((r32 (oAnd (oShr (V 137 (x5).toNat) x6) 1) && r32 1) && true))) = true := an f0 (an f1 (an f2 rfl))
  show some (gX (M0 L V b) 137 1 x5 && (gX (M0 L V b) 137 1 x5 && ((r32 (oAnd (oShr (V 137 (x5).toNat) x6) 1) && r32 1) && true)), _) = _
  rw [hG]
  try rfl

theorem B178_151 (L : Nat) (V : Mv) (b : Bool) (x1 : Int) (x2 : Int) (x3 : Int) (x4 : Int) (x5 : Int) (x6 : Int) (s0 : Nat) (s1 : Int) (s2 : Int) (n_s0 : Nat) (t_s0 : TT L s0 = (1, n_s0)) (g0 : 0 ≤ x6 ∧ x6 < 8) : nxs 5 178 151 [some (.inr (.inr 120)), some (.inl x1), some (.inl x2), some (.inl x3), some (.inl x4), some (.inl x5), some (.inl x6)] [.inl s2, .inl s1, .inr (.inr s0)] (M0 L V b) = some (true, 162, [some (.inr (.inr 120)), some (.inl x1), some (.inl x2), some (.inl x3), some (.inl x4), some (.inl x5), some (.inl x6)], [.inl (V 137 (x6).toNat), .inl s2, .inl s1, .inr (.inr s0)], M0 L V b) := by
  have f0 : gX (M0 L V b) 137 1 x6 = true := gx_of rfl g0
  have hG : (gX (M0 L V b) 137 1 x6 && true) = true := an f0 rfl
  show some (gX (M0 L V b) 137 1 x6 && true, _) = _
  rw [hG]
  try rfl

theorem B178_161 (L : Nat) (V : Mv) (b : Bool) (x1 : Int) (x2 : Int) (x3 : Int) (x4 : Int) (x5 : Int) (x6 : Int) (s0 : Nat) (s1 : Int) (s2 : Int) (n_s0 : Nat) (t_s0 : TT L s0 = (1, n_s0)) : nxs 1 178 161 [some (.inr (.inr 120)), some (.inl x1), some (.inl x2), some (.inl x3), some (.inl x4), some (.inl x5), some (.inl x6)] [.inl s2, .inl s1, .inr (.inr s0)] (M0 L V b) = some (true, 162, [some (.inr (.inr 120)), some (.inl x1), some (.inl x2), some (.inl x3), some (.inl x4), some (.inl x5), some (.inl x6)], [.inl 0, .inl s2, .inl s1, .inr (.inr s0)], M0 L V b) := by
  rfl

theorem B178_162 (L : Nat) (V : Mv) (b : Bool) (x1 : Int) (x2 : Int) (x3 : Int) (x4 : Int) (x5 : Int) (x6 : Int) (s0 : Nat) (s1 : Int) (s2 : Int) (s3 : Int) (n_s0 : Nat) (t_s0 : TT L s0 = (1, n_s0)) (g0 : 0 ≤ s1 ∧ s1 < (n_s0 : Int)) (z_s0 : s0 ≠ 0) : nxs 4 178 162 [some (.inr (.inr 120)), some (.inl x1), some (.inl x2), some (.inl x3), some (.inl x4), some (.inl x5), some (.inl x6)] [.inl s3, .inl s2, .inl s1, .inr (.inr s0)] (M0 L V b) = some (true, 121, [some (.inr (.inr 120)), some (.inl x1), some (.inl x2), some (.inl x3), some (.inl x4), some (.inl x5), some (.inl (x6 + 1))], [], M0 L (uV V s0 (s1).toNat (oOr s2 s3)) b) := by
  have f0 : (gX (M0 L V b) s0 1 s1 && !Nat.beq s0 0) = true := gs_of (gx_of (show aT _ _ = _ from t_s0) g0) z_s0
  have hG : ((gX (M0 L V b) s0 1 s1 && !Nat.beq s0 0) && true) = true := an f0 rfl
  show some ((gX (M0 L V b) s0 1 s1 && !Nat.beq s0 0) && true, _) = _
  rw [hG]
  try rfl

theorem B178_170 (L : Nat) (V : Mv) (b : Bool) (x1 : Int) (x2 : Int) (x3 : Int) (x4 : Int) (x5 : Int) (x6 : Int)  : nxs 2 178 170 [some (.inr (.inr 120)), some (.inl x1), some (.inl x2), some (.inl x3), some (.inl x4), some (.inl x5), some (.inl x6)] [] (M0 L V b) = some (true, 112, [some (.inr (.inr 120)), some (.inl x1), some (.inl x2), some (.inl x3), some (.inl x4), some (.inl (x5 + 1)), some (.inl x6)], [], M0 L V b) := by
  rfl

theorem B178_176 (L : Nat) (V : Mv) (b : Bool) (x1 : Int) (x2 : Int) (x3 : Int) (x4 : Int) (x5 : Int)  : nxs 2 178 176 [some (.inr (.inr 120)), some (.inl x1), some (.inl x2), some (.inl x3), some (.inl x4), some (.inl x5), none] [] (M0 L V b) = some (true, 103, [some (.inr (.inr 120)), some (.inl x1), some (.inl x2), some (.inl x3), some (.inl (x4 + 1)), some (.inl x5), none], [], M0 L V b) := by
  rfl

-- 179: MendedOrNewModel.runsAt(III)I
theorem B179_0 (L : Nat) (V : Mv) (b : Bool) (x1 : Int) (x2 : Int) (x3 : Int) (g0 : 0 ≤ (8 * x2) + x3 ∧ (8 * x2) + x3 < 40) (g1 : in32 (V 135 ((8 * x2) + x3).toNat)) : nxs 11 179 0 [some (.inr (.inr 120)), some (.inl x1), some (.inl x2), some (.inl x3), none] [] (M0 L V b) = some (true, cond (!decide (V 135 ((8 * x2) + x3).toNat = 0)) 22 18, [some (.inr (.inr 120)), some (.inl x1), some (.inl x2), some (.inl x3), some (.inl (V 135 ((8 * x2) + x3).toNat))], [], M0 L V b) := by
  have f0 : gX (M0 L V b) 135 1 ((8 * x2) + x3) = true := gx_of rfl g0
  have f1 : r32 (V 135 ((8 * x2) + x3).toNat) = true := r32_of g1
  have hG : (gX (M0 L V b) 135 1 ((8 * x2) + x3) && (r32 (V 135 ((8 * x2) + x3).toNat) && true)) = true := an f0 (an f1 rfl)
  show some (gX (M0 L V b) 135 1 ((8 * x2) + x3) && (r32 (V 135 ((8 * x2) + x3).toNat) && true), _) = _
  rw [hG]
  try rfl

theorem B179_18 (L : Nat) (V : Mv) (b : Bool) (x1 : Int) (x2 : Int) (x3 : Int) (x4 : Int)  : nxs 2 179 18 [some (.inr (.inr 120)), some (.inl x1), some (.inl x2), some (.inl x3), some (.inl x4)] [] (M0 L V b) = some (true, 35, [some (.inr (.inr 120)), some (.inl x1), some (.inl x2), some (.inl x3), some (.inl x4)], [.inl x3], M0 L V b) := by
  rfl

theorem B179_22 (L : Nat) (V : Mv) (b : Bool) (x1 : Int) (x2 : Int) (x3 : Int) (x4 : Int) (g0 : 0 ≤ ((4 * x1) + x4) - 1 ∧ ((4 * x1) + x4) - 1 < 16) : nxs 10 179 22 [some (.inr (.inr 120)), some (.inl x1), some (.inl x2), some (.inl x3), some (.inl x4)] [] (M0 L V b) = some (true, 35, [some (.inr (.inr 120)), some (.inl x1), some (.inl x2), some (.inl x3), some (.inl x4)], [.inl (V 126 (((4 * x1) + x4) - 1).toNat)], M0 L V b) := by
  have f0 : gX (M0 L V b) 126 1 (((4 * x1) + x4) - 1) = true := gx_of rfl g0
  have hG : (gX (M0 L V b) 126 1 (((4 * x1) + x4) - 1) && true) = true := an f0 rfl
  show some (gX (M0 L V b) 126 1 (((4 * x1) + x4) - 1) && true, _) = _
  rw [hG]
  try rfl

-- 180: MendedOrNewModel.laySquare(III)V
theorem B180_0 (L : Nat) (V : Mv) (b : Bool) (x1 : Int) (x2 : Int) (x3 : Int)  : nxs 7 180 0 [some (.inr (.inr 120)), some (.inl x1), some (.inl x2), some (.inl x3), none, none, none, none, none, none, none, none] [] (M0 L V b) = some (true, 12, [some (.inr (.inr 120)), some (.inl x1), some (.inl x2), some (.inl x3), some (.inl (V 120 23)), some (.inl 0), some (.inl 0), none, none, none, none, none], [], M0 L V b) := by
  rfl

theorem B180_12 (L : Nat) (V : Mv) (b : Bool) (x1 : Int) (x2 : Int) (x3 : Int) (x4 : Int) (x5 : Int) (x6 : Int) (g0 : in32 x6) (g1 : in32 x4) : nxs 3 180 12 [some (.inr (.inr 120)), some (.inl x1), some (.inl x2), some (.inl x3), some (.inl x4), some (.inl x5), some (.inl x6), none, none, none, none, none] [] (M0 L V b) = some (true, cond (decide (x4 ≤ x6)) 144 19, [some (.inr (.inr 120)), some (.inl x1), some (.inl x2), some (.inl x3), some (.inl x4), some (.inl x5), some (.inl x6), none, none, none, none, none], [], M0 L V b) := by
  have f0 : (r32 x6 && r32 x4) = true := rr32_of g0 g1
  have hG : ((r32 x6 && r32 x4) && true) = true := an f0 rfl
  show some ((r32 x6 && r32 x4) && true, _) = _
  rw [hG]
  try rfl

theorem B180_19 (L : Nat) (V : Mv) (b : Bool) (x1 : Int) (x2 : Int) (x3 : Int) (x4 : Int) (x5 : Int) (x6 : Int) (g0 : in32 x6) (g1 : in32 x3) : nxs 3 180 19 [some (.inr (.inr 120)), some (.inl x1), some (.inl x2), some (.inl x3), some (.inl x4), some (.inl x5), some (.inl x6), none, none, none, none, none] [] (M0 L V b) = some (true, cond (decide (x6 = x3)) 138 25, [some (.inr (.inr 120)), some (.inl x1), some (.inl x2), some (.inl x3), some (.inl x4), some (.inl x5), some (.inl x6), none, none, none, none, none], [], M0 L V b) := by
  have f0 : (r32 x6 && r32 x3) = true := rr32_of g0 g1
  have hG : ((r32 x6 && r32 x3) && true) = true := an f0 rfl
  show some ((r32 x6 && r32 x3) && true, _) = _
  rw [hG]
  try rfl

theorem B180_25 (L : Nat) (V : Mv) (b : Bool) (x1 : Int) (x2 : Int) (x3 : Int) (x4 : Int) (x5 : Int) (x6 : Int) (g0 : 0 ≤ x6 ∧ x6 < 8) : nxs 7 180 25 [some (.inr (.inr 120)), some (.inl x1), some (.inl x2), some (.inl x3), some (.inl x4), some (.inl x5), some (.inl x6), none, none, none, none, none] [] (M0 L V b) = some (true, 35, [some (.inr (.inr 120)), some (.inl x1), some (.inl x2), some (.inl x3), some (.inl x4), some (.inl x5), some (.inl x6), none, none, none, none, none], [.inl (V 138 (x6).toNat), .inl x2, .inl x1, .inr (.inr 120)], M0 L V b) := by
  have f0 : gX (M0 L V b) 138 1 x6 = true := gx_of rfl g0
  have hG : (gX (M0 L V b) 138 1 x6 && true) = true := an f0 rfl
  show some (gX (M0 L V b) 138 1 x6 && true, _) = _
  rw [hG]
  try rfl

theorem B180_38 (L : Nat) (V : Mv) (b : Bool) (x1 : Int) (x2 : Int) (x3 : Int) (x4 : Int) (x5 : Int) (x6 : Int) (s0 : Int)  : nxs 7 180 38 [some (.inr (.inr 120)), some (.inl x1), some (.inl x2), some (.inl x3), some (.inl x4), some (.inl x5), some (.inl x6), none, none, none, none, none] [.inl s0] (M0 L V b) = some (true, 49, [some (.inr (.inr 120)), some (.inl x1), some (.inl x2), some (.inl x3), some (.inl x4), some (.inl x5), some (.inl x6), some (.inl s0), some (.inl 0), some (.inl 0), some (.inl 0), none], [], M0 L V b) := by
  rfl

theorem B180_49 (L : Nat) (V : Mv) (b : Bool) (x1 : Int) (x2 : Int) (x3 : Int) (x4 : Int) (x5 : Int) (x6 : Int) (x7 : Int) (x8 : Int) (x9 : Int) (x10 : Int) (g0 : in32 x10) (g1 : in32 x4) : nxs 3 180 49 [some (.inr (.inr 120)), some (.inl x1), some (.inl x2), some (.inl x3), some (.inl x4), some (.inl x5), some (.inl x6), some (.inl x7), some (.inl x8), some (.inl x9), some (.inl x10), none] [] (M0 L V b) = some (true, cond (decide (x4 ≤ x10)) 122 56, [some (.inr (.inr 120)), some (.inl x1), some (.inl x2), some (.inl x3), some (.inl x4), some (.inl x5), some (.inl x6), some (.inl x7), some (.inl x8), some (.inl x9), some (.inl x10), none], [], M0 L V b) := by
  have f0 : (r32 x10 && r32 x4) = true := rr32_of g0 g1
  have hG : ((r32 x10 && r32 x4) && true) = true := an f0 rfl
  show some ((r32 x10 && r32 x4) && true, _) = _
  rw [hG]
  try rfl

theorem B180_56 (L : Nat) (V : Mv) (b : Bool) (x1 : Int) (x2 : Int) (x3 : Int) (x4 : Int) (x5 : Int) (x6 : Int) (x7 : Int) (x8 : Int) (x9 : Int) (x10 : Int) (g0 : 0 ≤ x10 ∧ x10 < 8) : nxs 7 180 56 [some (.inr (.inr 120)), some (.inl x1), some (.inl x2), some (.inl x3), some (.inl x4), some (.inl x5), some (.inl x6), some (.inl x7), some (.inl x8), some (.inl x9), some (.inl x10), none] [] (M0 L V b) = some (true, 67, [some (.inr (.inr 120)), some (.inl x1), some (.inl x2), some (.inl x3), some (.inl x4), some (.inl x5), some (.inl x6), some (.inl x7), some (.inl x8), some (.inl x9), some (.inl x10), none], [.inl (V 138 (x10).toNat), .inl x7, .inl x1, .inr (.inr 120)], M0 L V b) := by
  have f0 : gX (M0 L V b) 138 1 x10 = true := gx_of rfl g0
  have hG : (gX (M0 L V b) 138 1 x10 && true) = true := an f0 rfl
  show some (gX (M0 L V b) 138 1 x10 && true, _) = _
  rw [hG]
  try rfl

theorem B180_70 (L : Nat) (V : Mv) (b : Bool) (x1 : Int) (x2 : Int) (x3 : Int) (x4 : Int) (x5 : Int) (x6 : Int) (x7 : Int) (x8 : Int) (x9 : Int) (x10 : Int) (s0 : Int) (g0 : in32 x6) (g1 : in32 x10) : nxs 5 180 70 [some (.inr (.inr 120)), some (.inl x1), some (.inl x2), some (.inl x3), some (.inl x4), some (.inl x5), some (.inl x6), some (.inl x7), some (.inl x8), some (.inl x9), some (.inl x10), none] [.inl s0] (M0 L V b) = some (true, cond (!decide (x6 = x10)) 85 81, [some (.inr (.inr 120)), some (.inl x1), some (.inl x2), some (.inl x3), some (.inl x4), some (.inl x5), some (.inl x6), some (.inl x7), some (.inl x8), some (.inl x9), some (.inl x10), some (.inl s0)], [.inl x9], M0 L V b) := by
  have f0 : (r32 x6 && r32 x10) = true := rr32_of g0 g1
  have hG : ((r32 x6 && r32 x10) && true) = true := an f0 rfl
  show some ((r32 x6 && r32 x10) && true, _) = _
  rw [hG]
  try rfl

theorem B180_81 (L : Nat) (V : Mv) (b : Bool) (x1 : Int) (x2 : Int) (x3 : Int) (x4 : Int) (x5 : Int) (x6 : Int) (x7 : Int) (x8 : Int) (x9 : Int) (x10 : Int) (x11 : Int) (s0 : Int)  : nxs 2 180 81 [some (.inr (.inr 120)), some (.inl x1), some (.inl x2), some (.inl x3), some (.inl x4), some (.inl x5), some (.inl x6), some (.inl x7), some (.inl x8), some (.inl x9), some (.inl x10), some (.inl x11)] [.inl s0] (M0 L V b) = some (true, 87, [some (.inr (.inr 120)), some (.inl x1), some (.inl x2), some (.inl x3), some (.inl x4), some (.inl x5), some (.inl x6), some (.inl x7), some (.inl x8), some (.inl x9), some (.inl x10), some (.inl x11)], [.inl 0, .inl s0], M0 L V b) := by
  rfl

theorem B180_85 (L : Nat) (V : Mv) (b : Bool) (x1 : Int) (x2 : Int) (x3 : Int) (x4 : Int) (x5 : Int) (x6 : Int) (x7 : Int) (x8 : Int) (x9 : Int) (x10 : Int) (x11 : Int) (s0 : Int)  : nxs 1 180 85 [some (.inr (.inr 120)), some (.inl x1), some (.inl x2), some (.inl x3), some (.inl x4), some (.inl x5), some (.inl x6), some (.inl x7), some (.inl x8), some (.inl x9), some (.inl x10), some (.inl x11)] [.inl s0] (M0 L V b) = some (true, 87, [some (.inr (.inr 120)), some (.inl x1), some (.inl x2), some (.inl x3), some (.inl x4), some (.inl x5), some (.inl x6), some (.inl x7), some (.inl x8), some (.inl x9), some (.inl x10), some (.inl x11)], [.inl x11, .inl s0], M0 L V b) := by
  rfl

theorem B180_87 (L : Nat) (V : Mv) (b : Bool) (x1 : Int) (x2 : Int) (x3 : Int) (x4 : Int) (x5 : Int) (x6 : Int) (x7 : Int) (x8 : Int) (x9 : Int) (x10 : Int) (x11 : Int) (s0 : Int) (s1 : Int) (g0 : in32 x10) (g1 : in32 x3) : nxs 5 180 87 [some (.inr (.inr 120)), some (.inl x1), some (.inl x2), some (.inl x3), some (.inl x4), some (.inl x5), some (.inl x6), some (.inl x7), some (.inl x8), some (.inl x9), some (.inl x10), some (.inl x11)] [.inl s1, .inl s0] (M0 L V b) = some (true, cond (decide (x10 = x3)) 116 96, [some (.inr (.inr 120)), some (.inl x1), some (.inl x2), some (.inl x3), some (.inl x4), some (.inl x5), some (.inl x6), some (.inl x7), some (.inl x8), some (.inl (s0 + s1)), some (.inl x10), some (.inl x11)], [], M0 L V b) := by
  have f0 : (r32 x10 && r32 x3) = true := rr32_of g0 g1
  have hG : ((r32 x10 && r32 x3) && true) = true := an f0 rfl
  show some ((r32 x10 && r32 x3) && true, _) = _
  rw [hG]
  try rfl

theorem B180_96 (L : Nat) (V : Mv) (b : Bool) (x1 : Int) (x2 : Int) (x3 : Int) (x4 : Int) (x5 : Int) (x6 : Int) (x7 : Int) (x8 : Int) (x9 : Int) (x10 : Int) (x11 : Int) (g0 : in32 (-x11)) (g1 : 0 ≤ (8 * x5) + x8 ∧ (8 * x5) + x8 < 64) : nxs 12 180 96 [some (.inr (.inr 120)), some (.inl x1), some (.inl x2), some (.inl x3), some (.inl x4), some (.inl x5), some (.inl x6), some (.inl x7), some (.inl x8), some (.inl x9), some (.inl x10), some (.inl x11)] [] (M0 L V b) = some (true, 116, [some (.inr (.inr 120)), some (.inl x1), some (.inl x2), some (.inl x3), some (.inl x4), some (.inl x5), some (.inl x6), some (.inl x7), some (.inl (x8 + 1)), some (.inl x9), some (.inl x10), some (.inl x11)], [], M0 L (uV V 139 ((8 * x5) + x8).toNat (-x11)) b) := by
  have f0 : r32 (-x11) = true := r32_of g0
  have f1 : (gX (M0 L V b) 139 2 ((8 * x5) + x8) && !Nat.beq 139 0) = true := gs_of (gx_of rfl g1) (by decide)
  have hG : (r32 (-x11) && ((gX (M0 L V b) 139 2 ((8 * x5) + x8) && !Nat.beq 139 0) && true)) = true := an f0 (an f1 rfl)
  show some (r32 (-x11) && ((gX (M0 L V b) 139 2 ((8 * x5) + x8) && !Nat.beq 139 0) && true), _) = _
  rw [hG]
  try rfl

theorem B180_116 (L : Nat) (V : Mv) (b : Bool) (x1 : Int) (x2 : Int) (x3 : Int) (x4 : Int) (x5 : Int) (x6 : Int) (x7 : Int) (x8 : Int) (x9 : Int) (x10 : Int) (x11 : Int)  : nxs 2 180 116 [some (.inr (.inr 120)), some (.inl x1), some (.inl x2), some (.inl x3), some (.inl x4), some (.inl x5), some (.inl x6), some (.inl x7), some (.inl x8), some (.inl x9), some (.inl x10), some (.inl x11)] [] (M0 L V b) = some (true, 49, [some (.inr (.inr 120)), some (.inl x1), some (.inl x2), some (.inl x3), some (.inl x4), some (.inl x5), some (.inl x6), some (.inl x7), some (.inl x8), some (.inl x9), some (.inl (x10 + 1)), some (.inl x11)], [], M0 L V b) := by
  rfl

theorem B180_122 (L : Nat) (V : Mv) (b : Bool) (x1 : Int) (x2 : Int) (x3 : Int) (x4 : Int) (x5 : Int) (x6 : Int) (x7 : Int) (x8 : Int) (x9 : Int) (x10 : Int) (g0 : in32 x9) (g1 : 0 ≤ 9 * x5 ∧ 9 * x5 < 64) : nxs 9 180 122 [some (.inr (.inr 120)), some (.inl x1), some (.inl x2), some (.inl x3), some (.inl x4), some (.inl x5), some (.inl x6), some (.inl x7), some (.inl x8), some (.inl x9), some (.inl x10), none] [] (M0 L V b) = some (true, 138, [some (.inr (.inr 120)), some (.inl x1), some (.inl x2), some (.inl x3), some (.inl x4), some (.inl (x5 + 1)), some (.inl x6), some (.inl x7), some (.inl x8), some (.inl x9), some (.inl x10), none], [], M0 L (uV V 139 (9 * x5).toNat x9) b) := by
  have f0 : r32 x9 = true := r32_of g0
  have f1 : (gX (M0 L V b) 139 2 (9 * x5) && !Nat.beq 139 0) = true := gs_of (gx_of rfl g1) (by decide)
  have hG : (r32 x9 && ((gX (M0 L V b) 139 2 (9 * x5) && !Nat.beq 139 0) && true)) = true := an f0 (an f1 rfl)
  show some (r32 x9 && ((gX (M0 L V b) 139 2 (9 * x5) && !Nat.beq 139 0) && true), _) = _
  rw [hG]
  try rfl

theorem B180_138 (L : Nat) (V : Mv) (b : Bool) (x1 : Int) (x2 : Int) (x3 : Int) (x4 : Int) (x5 : Int) (x6 : Int)  : nxs 2 180 138 [some (.inr (.inr 120)), some (.inl x1), some (.inl x2), some (.inl x3), some (.inl x4), some (.inl x5), some (.inl x6), none, none, none, none, none] [] (M0 L V b) = some (true, 12, [some (.inr (.inr 120)), some (.inl x1), some (.inl x2), some (.inl x3), some (.inl x4), some (.inl x5), some (.inl (x6 + 1)), none, none, none, none, none], [], M0 L V b) := by
  rfl

