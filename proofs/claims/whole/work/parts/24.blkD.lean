/-! BLOCKS, by program (gen5.py) -/
-- 181: MendedOrNewModel.worth(I)J
theorem B181_0 (L : Nat) (V : Mv) (b : Bool) (x1 : Int)  : nxs 4 181 0 [some (.inr (.inr 120)), some (.inl x1), none, none, none, none, none] [] (M0 L V b) = some (true, 5, [some (.inr (.inr 120)), some (.inl x1), some (.inr (.inl 1)), none, some (.inl 0), none, none], [], M0 L V b) := by
  rfl

theorem B181_5 (L : Nat) (V : Mv) (b : Bool) (x1 : Int) (x2 : Int) (x4 : Int) (g0 : in32 (x4 + 1)) (g1 : in32 x1) : nxs 5 181 5 [some (.inr (.inr 120)), some (.inl x1), some (.inr (.inl x2)), none, some (.inl x4), none, none] [] (M0 L V b) = some (true, cond (decide (x1 ≤ x4 + 1)) 133 13, [some (.inr (.inr 120)), some (.inl x1), some (.inr (.inl x2)), none, some (.inl x4), none, none], [], M0 L V b) := by
  have f0 : (r32 (x4 + 1) && r32 x1) = true := rr32_of g0 g1
  have hG : ((r32 (x4 + 1) && r32 x1) && true) = true := an f0 rfl
  show some ((r32 (x4 + 1) && r32 x1) && true, _) = _
  rw [hG]
  try rfl

theorem B181_13 (L : Nat) (V : Mv) (b : Bool) (x1 : Int) (x2 : Int) (x4 : Int)  : nxs 4 181 13 [some (.inr (.inr 120)), some (.inl x1), some (.inr (.inl x2)), none, some (.inl x4), none, none] [] (M0 L V b) = some (true, 19, [some (.inr (.inr 120)), some (.inl x1), some (.inr (.inl x2)), none, some (.inl x4), some (.inl (x4 + 1)), none], [], M0 L V b) := by
  rfl

theorem B181_19 (L : Nat) (V : Mv) (b : Bool) (x1 : Int) (x2 : Int) (x4 : Int) (x5 : Int) (g0 : in32 x5) (g1 : in32 x1) : nxs 3 181 19 [some (.inr (.inr 120)), some (.inl x1), some (.inr (.inl x2)), none, some (.inl x4), some (.inl x5), none] [] (M0 L V b) = some (true, cond (decide (x1 ≤ x5)) 116 25, [some (.inr (.inr 120)), some (.inl x1), some (.inr (.inl x2)), none, some (.inl x4), some (.inl x5), none], [], M0 L V b) := by
  have f0 : (r32 x5 && r32 x1) = true := rr32_of g0 g1
  have hG : ((r32 x5 && r32 x1) && true) = true := an f0 rfl
  show some ((r32 x5 && r32 x1) && true, _) = _
  rw [hG]
  try rfl

theorem B181_25 (L : Nat) (V : Mv) (b : Bool) (x1 : Int) (x2 : Int) (x4 : Int) (x5 : Int)  : nxs 4 181 25 [some (.inr (.inr 120)), some (.inl x1), some (.inr (.inl x2)), none, some (.inl x4), some (.inl x5), none] [] (M0 L V b) = some (true, 31, [some (.inr (.inr 120)), some (.inl x1), some (.inr (.inl x2)), none, some (.inl x4), some (.inl x5), some (.inl (x4 + 1))], [], M0 L V b) := by
  rfl

theorem B181_31 (L : Nat) (V : Mv) (b : Bool) (x1 : Int) (x2 : Int) (x4 : Int) (x5 : Int) (x6 : Int) (g0 : in32 x6) (g1 : in32 x1) : nxs 3 181 31 [some (.inr (.inr 120)), some (.inl x1), some (.inr (.inl x2)), none, some (.inl x4), some (.inl x5), some (.inl x6)] [] (M0 L V b) = some (true, cond (decide (x1 ≤ x6)) 110 37, [some (.inr (.inr 120)), some (.inl x1), some (.inr (.inl x2)), none, some (.inl x4), some (.inl x5), some (.inl x6)], [], M0 L V b) := by
  have f0 : (r32 x6 && r32 x1) = true := rr32_of g0 g1
  have hG : ((r32 x6 && r32 x1) && true) = true := an f0 rfl
  show some ((r32 x6 && r32 x1) && true, _) = _
  rw [hG]
  try rfl

theorem B181_37 (L : Nat) (V : Mv) (b : Bool) (x1 : Int) (x2 : Int) (x4 : Int) (x5 : Int) (x6 : Int) (g0 : 0 ≤ (8 * x5) + x6 ∧ (8 * x5) + x6 < 64) (g1 : 0 ≤ 9 * x4 ∧ 9 * x4 < 64) (g2 : 0 ≤ (8 * x5) + x4 ∧ (8 * x5) + x4 < 64) (g3 : 0 ≤ (8 * x4) + x6 ∧ (8 * x4) + x6 < 64) (g4 : in64 (((V 139 ((8 * x5) + x6).toNat) * (V 139 (9 * x4).toNat)) - ((V 139 ((8 * x5) + x4).toNat) * (V 139 ((8 * x4) + x6).toNat)))) (g5 : in64 x2) (g6 : ¬ x2 = 0) : nxs 45 181 37 [some (.inr (.inr 120)), some (.inl x1), some (.inr (.inl x2)), none, some (.inl x4), some (.inl x5), some (.inl x6)] [] (M0 L V b) = some (true, 31, [some (.inr (.inr 120)), some (.inl x1), some (.inr (.inl x2)), none, some (.inl x4), some (.inl x5), some (.inl (x6 + 1))], [], M0 L (uV V 139 ((8 * x5) + x6).toNat (Int.tdiv (((V 139 ((8 * x5) + x6).toNat) * (V 139 (9 * x4).toNat)) - ((V 139 ((8 * x5) + x4).toNat) * (V 139 ((8 * x4) + x6).toNat))) x2)) b) := by
  have f0 : gX (M0 L V b) 139 2 ((8 * x5) + x6) = true := gx_of rfl g0
  have f1 : gX (M0 L V b) 139 2 (9 * x4) = true := gx_of rfl g1
  have f2 : gX (M0 L V b) 139 2 ((8 * x5) + x4) = true := gx_of rfl g2
  have f3 : gX (M0 L V b) 139 2 ((8 * x4) + x6) = true := gx_of rfl g3
  have f4 : gL (((V 139 ((8 * x5) + x6).toNat) * (V 139 (9 * x4).toNat)) - ((V 139 ((8 * x5) + x4).toNat) * (V 139 ((8 * x4) + x6).toNat))) x2 = true := gL_of g4 g5 g6
  have f5 : (gX (M0 L V b) 139 2 ((8 * x5) + x6) && !Nat.beq 139 0) = true := gs_of (gx_of rfl g0) (by decide)
  have hG : (gX (M0 L V b) 139 2 ((8 * x5) + x6) && (gX (M0 L V b) 139 2 (9 * x4) && (gX (M0 L V b) 139 2 ((8 * x5) + x4) && (gX (M0 L V b) 139 2 ((8 * x4) + x6) && (gL (((V 139 ((8 * x5) + x6).toNat) * (V 139 (9 * x4).toNat)) - ((V 139 ((8 * x5) + x4).toNat) * (V 139 ((8 * x4) + x6).toNat))) x2 && ((gX (M0 L V b) 139 2 ((8 * x5) + x6) && !Nat.beq 139 0) && true)))))) = true := an f0 (an f1 (an f2 (an f3 (an f4 (an f5 rfl)))))
  show some (gX (M0 L V b) 139 2 ((8 * x5) + x6) && (gX (M0 L V b) 139 2 (9 * x4) && (gX (M0 L V b) 139 2 ((8 * x5) + x4) && (gX (M0 L V b) 139 2 ((8 * x4) + x6) && (gL (((V 139 ((8 * x5) + x6).toNat) * (V 139 (9 * x4).toNat)) - ((V 139 ((8 * x5) + x4).toNat) * (V 139 ((8 * x4) + x6).toNat))) x2 && ((gX (M0 L V b) 139 2 ((8 * x5) + x6) && !Nat.beq 139 0) && true))))), _) = _
  rw [hG]
  try rfl

theorem B181_110 (L : Nat) (V : Mv) (b : Bool) (x1 : Int) (x2 : Int) (x4 : Int) (x5 : Int) (x6 : Int)  : nxs 2 181 110 [some (.inr (.inr 120)), some (.inl x1), some (.inr (.inl x2)), none, some (.inl x4), some (.inl x5), some (.inl x6)] [] (M0 L V b) = some (true, 19, [some (.inr (.inr 120)), some (.inl x1), some (.inr (.inl x2)), none, some (.inl x4), some (.inl (x5 + 1)), some (.inl x6)], [], M0 L V b) := by
  rfl

theorem B181_116 (L : Nat) (V : Mv) (b : Bool) (x1 : Int) (x2 : Int) (x4 : Int) (x5 : Int) (g0 : 0 ≤ 9 * x4 ∧ 9 * x4 < 64) : nxs 9 181 116 [some (.inr (.inr 120)), some (.inl x1), some (.inr (.inl x2)), none, some (.inl x4), some (.inl x5), none] [] (M0 L V b) = some (true, 5, [some (.inr (.inr 120)), some (.inl x1), some (.inr (.inl (V 139 (9 * x4).toNat))), none, some (.inl (x4 + 1)), some (.inl x5), none], [], M0 L V b) := by
  have f0 : gX (M0 L V b) 139 2 (9 * x4) = true := gx_of rfl g0
  have hG : (gX (M0 L V b) 139 2 (9 * x4) && true) = true := an f0 rfl
  show some (gX (M0 L V b) 139 2 (9 * x4) && true, _) = _
  rw [hG]
  try rfl

theorem B181_133 (L : Nat) (V : Mv) (b : Bool) (x1 : Int) (x2 : Int) (x4 : Int) (g0 : in32 x1) : nxs 2 181 133 [some (.inr (.inr 120)), some (.inl x1), some (.inr (.inl x2)), none, some (.inl x4), none, none] [] (M0 L V b) = some (true, cond (!decide (x1 = 0)) 141 137, [some (.inr (.inr 120)), some (.inl x1), some (.inr (.inl x2)), none, some (.inl x4), none, none], [], M0 L V b) := by
  have f0 : r32 x1 = true := r32_of g0
  have hG : (r32 x1 && true) = true := an f0 rfl
  show some (r32 x1 && true, _) = _
  rw [hG]
  try rfl

theorem B181_137 (L : Nat) (V : Mv) (b : Bool) (x1 : Int) (x2 : Int) (x4 : Int)  : nxs 2 181 137 [some (.inr (.inr 120)), some (.inl x1), some (.inr (.inl x2)), none, some (.inl x4), none, none] [] (M0 L V b) = some (true, 152, [some (.inr (.inr 120)), some (.inl x1), some (.inr (.inl x2)), none, some (.inl x4), none, none], [.inr (.inl 1)], M0 L V b) := by
  rfl

theorem B181_141 (L : Nat) (V : Mv) (b : Bool) (x1 : Int) (x2 : Int) (x4 : Int) (g0 : 0 ≤ 9 * (x1 - 1) ∧ 9 * (x1 - 1) < 64) : nxs 8 181 141 [some (.inr (.inr 120)), some (.inl x1), some (.inr (.inl x2)), none, some (.inl x4), none, none] [] (M0 L V b) = some (true, 152, [some (.inr (.inr 120)), some (.inl x1), some (.inr (.inl x2)), none, some (.inl x4), none, none], [.inr (.inl (V 139 (9 * (x1 - 1)).toNat))], M0 L V b) := by
  have f0 : gX (M0 L V b) 139 2 (9 * (x1 - 1)) = true := gx_of rfl g0
  have hG : (gX (M0 L V b) 139 2 (9 * (x1 - 1)) && true) = true := an f0 rfl
  show some (gX (M0 L V b) 139 2 (9 * (x1 - 1)) && true, _) = _
  rw [hG]
  try rfl

-- 182: MendedOrNewModel.which(III)I
theorem B182_0 (L : Nat) (V : Mv) (b : Bool) (x1 : Int) (x2 : Int) (x3 : Int)  : nxs 1 182 0 [some (.inr (.inr 120)), some (.inl x1), some (.inl x2), some (.inl x3), none, none, none, none] [] (M0 L V b) = some (true, 1, [some (.inr (.inr 120)), some (.inl x1), some (.inl x2), some (.inl x3), none, none, none, none], [.inl x1], M0 L V b) := by
  rfl

theorem B182_4 (L : Nat) (V : Mv) (b : Bool) (x1 : Int) (x2 : Int) (x3 : Int) (s0 : Int) (g0 : in32 s0) : nxs 1 182 4 [some (.inr (.inr 120)), some (.inl x1), some (.inl x2), some (.inl x3), none, none, none, none] [.inl s0] (M0 L V b) = some (true, cond (decide (s0 = 0)) 21 7, [some (.inr (.inr 120)), some (.inl x1), some (.inl x2), some (.inl x3), none, none, none, none], [], M0 L V b) := by
  have f0 : r32 s0 = true := r32_of g0
  have hG : (r32 s0 && true) = true := an f0 rfl
  show some (r32 s0 && true, _) = _
  rw [hG]
  try rfl

theorem B182_7 (L : Nat) (V : Mv) (b : Bool) (x1 : Int) (x2 : Int) (x3 : Int)  : nxs 1 182 7 [some (.inr (.inr 120)), some (.inl x1), some (.inl x2), some (.inl x3), none, none, none, none] [] (M0 L V b) = some (true, 8, [some (.inr (.inr 120)), some (.inl x1), some (.inl x2), some (.inl x3), none, none, none, none], [.inl x2], M0 L V b) := by
  rfl

theorem B182_11 (L : Nat) (V : Mv) (b : Bool) (x1 : Int) (x2 : Int) (x3 : Int) (s0 : Int) (g0 : in32 s0) : nxs 1 182 11 [some (.inr (.inr 120)), some (.inl x1), some (.inl x2), some (.inl x3), none, none, none, none] [.inl s0] (M0 L V b) = some (true, cond (decide (s0 = 0)) 21 14, [some (.inr (.inr 120)), some (.inl x1), some (.inl x2), some (.inl x3), none, none, none, none], [], M0 L V b) := by
  have f0 : r32 s0 = true := r32_of g0
  have hG : (r32 s0 && true) = true := an f0 rfl
  show some (r32 s0 && true, _) = _
  rw [hG]
  try rfl

theorem B182_14 (L : Nat) (V : Mv) (b : Bool) (x1 : Int) (x2 : Int) (x3 : Int)  : nxs 1 182 14 [some (.inr (.inr 120)), some (.inl x1), some (.inl x2), some (.inl x3), none, none, none, none] [] (M0 L V b) = some (true, 15, [some (.inr (.inr 120)), some (.inl x1), some (.inl x2), some (.inl x3), none, none, none, none], [.inl x3], M0 L V b) := by
  rfl

theorem B182_18 (L : Nat) (V : Mv) (b : Bool) (x1 : Int) (x2 : Int) (x3 : Int) (s0 : Int) (g0 : in32 s0) : nxs 1 182 18 [some (.inr (.inr 120)), some (.inl x1), some (.inl x2), some (.inl x3), none, none, none, none] [.inl s0] (M0 L V b) = some (true, cond (!decide (s0 = 0)) 23 21, [some (.inr (.inr 120)), some (.inl x1), some (.inl x2), some (.inl x3), none, none, none, none], [], M0 L V b) := by
  have f0 : r32 s0 = true := r32_of g0
  have hG : (r32 s0 && true) = true := an f0 rfl
  show some (r32 s0 && true, _) = _
  rw [hG]
  try rfl

theorem B182_21 (L : Nat) (V : Mv) (b : Bool) (x1 : Int) (x2 : Int) (x3 : Int)  : nxs 1 182 21 [some (.inr (.inr 120)), some (.inl x1), some (.inl x2), some (.inl x3), none, none, none, none] [] (M0 L V b) = some (true, 22, [some (.inr (.inr 120)), some (.inl x1), some (.inl x2), some (.inl x3), none, none, none, none], [.inl (-1)], M0 L V b) := by
  rfl

theorem B182_23 (L : Nat) (V : Mv) (b : Bool) (x1 : Int) (x2 : Int) (x3 : Int)  : nxs 3 182 23 [some (.inr (.inr 120)), some (.inl x1), some (.inl x2), some (.inl x3), none, none, none, none] [] (M0 L V b) = some (true, 26, [some (.inr (.inr 120)), some (.inl x1), some (.inl x2), some (.inl x3), none, none, none, none], [.inl x2, .inl x1, .inr (.inr 120)], M0 L V b) := by
  rfl

theorem B182_29 (L : Nat) (V : Mv) (b : Bool) (x1 : Int) (x2 : Int) (x3 : Int) (s0 : Int) (g0 : in32 s0) : nxs 1 182 29 [some (.inr (.inr 120)), some (.inl x1), some (.inl x2), some (.inl x3), none, none, none, none] [.inl s0] (M0 L V b) = some (true, cond (!decide (s0 = 0)) 35 32, [some (.inr (.inr 120)), some (.inl x1), some (.inl x2), some (.inl x3), none, none, none, none], [], M0 L V b) := by
  have f0 : r32 s0 = true := r32_of g0
  have hG : (r32 s0 && true) = true := an f0 rfl
  show some (r32 s0 && true, _) = _
  rw [hG]
  try rfl

theorem B182_32 (L : Nat) (V : Mv) (b : Bool) (x1 : Int) (x2 : Int) (x3 : Int)  : nxs 1 182 32 [some (.inr (.inr 120)), some (.inl x1), some (.inl x2), some (.inl x3), none, none, none, none] [] (M0 L V b) = some (true, 34, [some (.inr (.inr 120)), some (.inl x1), some (.inl x2), some (.inl x3), none, none, none, none], [.inl (-3)], M0 L V b) := by
  rfl

theorem B182_35 (L : Nat) (V : Mv) (b : Bool) (x1 : Int) (x2 : Int) (x3 : Int)  : nxs 9 182 35 [some (.inr (.inr 120)), some (.inl x1), some (.inl x2), some (.inl x3), none, none, none, none] [] (M0 L V b) = some (true, 50, [some (.inr (.inr 120)), some (.inl x1), some (.inl x2), some (.inl x3), some (.inr (.inl (V 120 24))), none, some (.inr (.inl (V 120 25))), none], [.inl x3, .inl x1, .inr (.inr 120)], M0 L V b) := by
  rfl

theorem B182_53 (L : Nat) (V : Mv) (b : Bool) (x1 : Int) (x2 : Int) (x3 : Int) (x4 : Int) (x6 : Int) (s0 : Int) (g0 : in32 s0) : nxs 1 182 53 [some (.inr (.inr 120)), some (.inl x1), some (.inl x2), some (.inl x3), some (.inr (.inl x4)), none, some (.inr (.inl x6)), none] [.inl s0] (M0 L V b) = some (true, cond (!decide (s0 = 0)) 59 56, [some (.inr (.inr 120)), some (.inl x1), some (.inl x2), some (.inl x3), some (.inr (.inl x4)), none, some (.inr (.inl x6)), none], [], M0 L V b) := by
  have f0 : r32 s0 = true := r32_of g0
  have hG : (r32 s0 && true) = true := an f0 rfl
  show some (r32 s0 && true, _) = _
  rw [hG]
  try rfl

theorem B182_56 (L : Nat) (V : Mv) (b : Bool) (x1 : Int) (x2 : Int) (x3 : Int) (x4 : Int) (x6 : Int)  : nxs 1 182 56 [some (.inr (.inr 120)), some (.inl x1), some (.inl x2), some (.inl x3), some (.inr (.inl x4)), none, some (.inr (.inl x6)), none] [] (M0 L V b) = some (true, 58, [some (.inr (.inr 120)), some (.inl x1), some (.inl x2), some (.inl x3), some (.inr (.inl x4)), none, some (.inr (.inl x6)), none], [.inl (-3)], M0 L V b) := by
  rfl

theorem B182_59 (L : Nat) (V : Mv) (b : Bool) (x1 : Int) (x2 : Int) (x3 : Int) (x4 : Int) (x6 : Int) (g0 : in64 (x4 * (V 120 25))) (g1 : in64 ((V 120 24) * x6)) (g2 : in32 (cmpI (x4 * (V 120 25)) ((V 120 24) * x6))) : nxs 10 182 59 [some (.inr (.inr 120)), some (.inl x1), some (.inl x2), some (.inl x3), some (.inr (.inl x4)), none, some (.inr (.inl x6)), none] [] (M0 L V b) = some (true, cond (decide (0 ≤ cmpI (x4 * (V 120 25)) ((V 120 24) * x6))) 81 77, [some (.inr (.inr 120)), some (.inl x1), some (.inl x2), some (.inl x3), some (.inr (.inl x4)), none, some (.inr (.inl x6)), none], [], M0 L V b) := by
  have f0 : (r64 (x4 * (V 120 25)) && r64 ((V 120 24) * x6)) = true := rr64_of g0 g1
  have f1 : r32 (cmpI (x4 * (V 120 25)) ((V 120 24) * x6)) = true := r32_of g2
  have hG : ((r64 (x4 * (V 120 25)) && r64 ((V 120 24) * x6)) && (r32 (cmpI (x4 * (V 120 25)) ((V 120 24) * x6)) && true)) = true := an f0 (an f1 rfl)
  show some ((r64 (x4 * (V 120 25)) && r64 ((V 120 24) * x6)) && (r32 (cmpI (x4 * (V 120 25)) ((V 120 24) * x6)) && true), _) = _
  rw [hG]
  try rfl

theorem B182_77 (L : Nat) (V : Mv) (b : Bool) (x1 : Int) (x2 : Int) (x3 : Int) (x4 : Int) (x6 : Int)  : nxs 2 182 77 [some (.inr (.inr 120)), some (.inl x1), some (.inl x2), some (.inl x3), some (.inr (.inl x4)), none, some (.inr (.inl x6)), none] [] (M0 L V b) = some (true, 104, [some (.inr (.inr 120)), some (.inl x1), some (.inl x2), some (.inl x3), some (.inr (.inl x4)), none, some (.inr (.inl x6)), none], [.inl 1], M0 L V b) := by
  rfl

theorem B182_81 (L : Nat) (V : Mv) (b : Bool) (x1 : Int) (x2 : Int) (x3 : Int) (x4 : Int) (x6 : Int) (g0 : in64 (x4 * (V 120 25))) (g1 : in64 ((V 120 24) * x6)) (g2 : in32 (cmpI (x4 * (V 120 25)) ((V 120 24) * x6))) : nxs 10 182 81 [some (.inr (.inr 120)), some (.inl x1), some (.inl x2), some (.inl x3), some (.inr (.inl x4)), none, some (.inr (.inl x6)), none] [] (M0 L V b) = some (true, cond (decide (cmpI (x4 * (V 120 25)) ((V 120 24) * x6) ≤ 0)) 103 99, [some (.inr (.inr 120)), some (.inl x1), some (.inl x2), some (.inl x3), some (.inr (.inl x4)), none, some (.inr (.inl x6)), none], [], M0 L V b) := by
  have f0 : (r64 (x4 * (V 120 25)) && r64 ((V 120 24) * x6)) = true := rr64_of g0 g1
  have f1 : r32 (cmpI (x4 * (V 120 25)) ((V 120 24) * x6)) = true := r32_of g2
  have hG : ((r64 (x4 * (V 120 25)) && r64 ((V 120 24) * x6)) && (r32 (cmpI (x4 * (V 120 25)) ((V 120 24) * x6)) && true)) = true := an f0 (an f1 rfl)
  show some ((r64 (x4 * (V 120 25)) && r64 ((V 120 24) * x6)) && (r32 (cmpI (x4 * (V 120 25)) ((V 120 24) * x6)) && true), _) = _
  rw [hG]
  try rfl

theorem B182_99 (L : Nat) (V : Mv) (b : Bool) (x1 : Int) (x2 : Int) (x3 : Int) (x4 : Int) (x6 : Int)  : nxs 2 182 99 [some (.inr (.inr 120)), some (.inl x1), some (.inl x2), some (.inl x3), some (.inr (.inl x4)), none, some (.inr (.inl x6)), none] [] (M0 L V b) = some (true, 104, [some (.inr (.inr 120)), some (.inl x1), some (.inl x2), some (.inl x3), some (.inr (.inl x4)), none, some (.inr (.inl x6)), none], [.inl 2], M0 L V b) := by
  rfl

theorem B182_103 (L : Nat) (V : Mv) (b : Bool) (x1 : Int) (x2 : Int) (x3 : Int) (x4 : Int) (x6 : Int)  : nxs 1 182 103 [some (.inr (.inr 120)), some (.inl x1), some (.inl x2), some (.inl x3), some (.inr (.inl x4)), none, some (.inr (.inl x6)), none] [] (M0 L V b) = some (true, 104, [some (.inr (.inr 120)), some (.inl x1), some (.inl x2), some (.inl x3), some (.inr (.inl x4)), none, some (.inr (.inl x6)), none], [.inl 3], M0 L V b) := by
  rfl

-- 183: MendedOrNewModel.best(I)I
theorem B183_0 (L : Nat) (V : Mv) (b : Bool) (x1 : Int)  : nxs 1 183 0 [some (.inr (.inr 120)), some (.inl x1)] [] (M0 L V b) = some (true, 1, [some (.inr (.inr 120)), some (.inl x1)], [.inl x1], M0 L V b) := by
  rfl

theorem B183_4 (L : Nat) (V : Mv) (b : Bool) (x1 : Int) (s0 : Int) (g0 : in32 s0) : nxs 1 183 4 [some (.inr (.inr 120)), some (.inl x1)] [.inl s0] (M0 L V b) = some (true, cond (!decide (s0 = 0)) 9 7, [some (.inr (.inr 120)), some (.inl x1)], [], M0 L V b) := by
  have f0 : r32 s0 = true := r32_of g0
  have hG : (r32 s0 && true) = true := an f0 rfl
  show some (r32 s0 && true, _) = _
  rw [hG]
  try rfl

theorem B183_7 (L : Nat) (V : Mv) (b : Bool) (x1 : Int)  : nxs 1 183 7 [some (.inr (.inr 120)), some (.inl x1)] [] (M0 L V b) = some (true, 8, [some (.inr (.inr 120)), some (.inl x1)], [.inl (-1)], M0 L V b) := by
  rfl

theorem B183_9 (L : Nat) (V : Mv) (b : Bool) (x1 : Int)  : nxs 3 183 9 [some (.inr (.inr 120)), some (.inl x1)] [] (M0 L V b) = some (true, 12, [some (.inr (.inr 120)), some (.inl x1)], [.inl x1, .inr (.inr 120), .inr (.inr 120)], M0 L V b) := by
  rfl

theorem B183_15 (L : Nat) (V : Mv) (b : Bool) (x1 : Int) (s1 : Int) (g0 : 0 ≤ x1 ∧ x1 < 4) : nxs 6 183 15 [some (.inr (.inr 120)), some (.inl x1)] [.inl s1, .inr (.inr 120)] (M0 L V b) = some (true, 23, [some (.inr (.inr 120)), some (.inl x1)], [.inl (V 121 (x1).toNat), .inl (s1 + 1), .inr (.inr 120)], M0 L V b) := by
  have f0 : gX (M0 L V b) 121 1 x1 = true := gx_of rfl g0
  have hG : (gX (M0 L V b) 121 1 x1 && true) = true := an f0 rfl
  show some (gX (M0 L V b) 121 1 x1 && true, _) = _
  rw [hG]
  try rfl

theorem B183_26 (L : Nat) (V : Mv) (b : Bool) (x1 : Int) (s0 : Int) (g0 : in32 s0) : nxs 2 183 26 [some (.inr (.inr 120)), some (.inl x1)] [.inl s0] (M0 L V b) = some (true, cond (decide (s0 ≤ 1024)) 37 32, [some (.inr (.inr 120)), some (.inl x1)], [], M0 L V b) := by
  have f0 : (r32 s0 && r32 1024) = true := rr32_of g0 (by decide)
  have hG : ((r32 s0 && r32 1024) && true) = true := an f0 rfl
  show some ((r32 s0 && r32 1024) && true, _) = _
  rw [hG]
  try rfl

theorem B183_32 (L : Nat) (V : Mv) (b : Bool) (x1 : Int)  : nxs 2 183 32 [some (.inr (.inr 120)), some (.inl x1)] [] (M0 L V b) = some (true, 42, [some (.inr (.inr 120)), some (.inl x1)], [.inl (-3)], M0 L V b) := by
  rfl

theorem B183_37 (L : Nat) (V : Mv) (b : Bool) (x1 : Int)  : nxs 2 183 37 [some (.inr (.inr 120)), some (.inl x1)] [] (M0 L V b) = some (true, 39, [some (.inr (.inr 120)), some (.inl x1)], [.inl x1, .inr (.inr 120)], M0 L V b) := by
  rfl

-- 184: MendedOrNewModel.mendMany(I)I
theorem B184_0 (L : Nat) (V : Mv) (b : Bool) (x1 : Int)  : nxs 2 184 0 [some (.inr (.inr 120)), some (.inl x1), none] [] (M0 L V b) = some (true, 2, [some (.inr (.inr 120)), some (.inl x1), none], [.inl x1, .inr (.inr 120)], M0 L V b) := by
  rfl

theorem B184_5 (L : Nat) (V : Mv) (b : Bool) (x1 : Int) (s0 : Int)  : nxs 20 184 5 [some (.inr (.inr 120)), some (.inl x1), none] [.inl s0] (M0 L V b) = some (true, 25, [some (.inr (.inr 120)), some (.inl x1), some (.inl s0)], [.inl ((((oAnd s0 1) + (oAnd (oShr s0 1) 1)) + (oAnd (oShr s0 2) 1)) + (oShr s0 3))], M0 L V b) := by
  rfl

-- 185: MendedOrNewModel.power(II)I
theorem B185_0 (L : Nat) (V : Mv) (b : Bool) (x1 : Int) (x2 : Int)  : nxs 4 185 0 [some (.inr (.inr 120)), some (.inl x1), some (.inl x2), none, none] [] (M0 L V b) = some (true, 5, [some (.inr (.inr 120)), some (.inl x1), some (.inl x2), some (.inl 1), some (.inl 0)], [], M0 L V b) := by
  rfl

theorem B185_5 (L : Nat) (V : Mv) (b : Bool) (x1 : Int) (x2 : Int) (x3 : Int) (x4 : Int) (g0 : in32 x4) (g1 : in32 x2) : nxs 3 185 5 [some (.inr (.inr 120)), some (.inl x1), some (.inl x2), some (.inl x3), some (.inl x4)] [] (M0 L V b) = some (true, cond (decide (x2 ≤ x4)) 28 11, [some (.inr (.inr 120)), some (.inl x1), some (.inl x2), some (.inl x3), some (.inl x4)], [], M0 L V b) := by
  have f0 : (r32 x4 && r32 x2) = true := rr32_of g0 g1
  have hG : ((r32 x4 && r32 x2) && true) = true := an f0 rfl
  show some ((r32 x4 && r32 x2) && true, _) = _
  rw [hG]
  try rfl

theorem B185_11 (L : Nat) (V : Mv) (b : Bool) (x1 : Int) (x2 : Int) (x3 : Int) (x4 : Int) (g0 : in32 x3) : nxs 3 185 11 [some (.inr (.inr 120)), some (.inl x1), some (.inl x2), some (.inl x3), some (.inl x4)] [] (M0 L V b) = some (true, cond (decide (2000 ≤ x3)) 28 18, [some (.inr (.inr 120)), some (.inl x1), some (.inl x2), some (.inl x3), some (.inl x4)], [], M0 L V b) := by
  have f0 : (r32 x3 && r32 2000) = true := rr32_of g0 (by decide)
  have hG : ((r32 x3 && r32 2000) && true) = true := an f0 rfl
  show some ((r32 x3 && r32 2000) && true, _) = _
  rw [hG]
  try rfl

theorem B185_18 (L : Nat) (V : Mv) (b : Bool) (x1 : Int) (x2 : Int) (x3 : Int) (x4 : Int)  : nxs 6 185 18 [some (.inr (.inr 120)), some (.inl x1), some (.inl x2), some (.inl x3), some (.inl x4)] [] (M0 L V b) = some (true, 5, [some (.inr (.inr 120)), some (.inl x1), some (.inl x2), some (.inl (x3 * x1)), some (.inl (x4 + 1))], [], M0 L V b) := by
  rfl

theorem B185_28 (L : Nat) (V : Mv) (b : Bool) (x1 : Int) (x2 : Int) (x3 : Int) (x4 : Int)  : nxs 1 185 28 [some (.inr (.inr 120)), some (.inl x1), some (.inl x2), some (.inl x3), some (.inl x4)] [] (M0 L V b) = some (true, 29, [some (.inr (.inr 120)), some (.inl x1), some (.inl x2), some (.inl x3), some (.inl x4)], [.inl x3], M0 L V b) := by
  rfl

-- 186: MendedOrNewModel.layBest(I)I
theorem B186_0 (L : Nat) (V : Mv) (b : Bool) (x1 : Int)  : nxs 7 186 0 [some (.inr (.inr 120)), some (.inl x1), none, none, none, none, none, none, none, none] [] (M0 L V b) = some (true, 10, [some (.inr (.inr 120)), some (.inl x1), some (.inl (-9)), none, none, none, none, none, none, none], [.inl x1, .inr (.inr 120)], M0 L (uV V 120 28 0) b) := by
  rfl

theorem B186_13 (L : Nat) (V : Mv) (b : Bool) (x1 : Int) (x2 : Int) (s0 : Int)  : nxs 3 186 13 [some (.inr (.inr 120)), some (.inl x1), some (.inl x2), none, none, none, none, none, none, none] [.inl s0] (M0 L V b) = some (true, 16, [some (.inr (.inr 120)), some (.inl x1), some (.inl x2), some (.inl s0), none, none, none, none, none, none], [.inl x1, .inr (.inr 120)], M0 L V b) := by
  rfl

theorem B186_19 (L : Nat) (V : Mv) (b : Bool) (x1 : Int) (x2 : Int) (x3 : Int) (s0 : Int)  : nxs 3 186 19 [some (.inr (.inr 120)), some (.inl x1), some (.inl x2), some (.inl x3), none, none, none, none, none, none] [.inl s0] (M0 L V b) = some (true, 24, [some (.inr (.inr 120)), some (.inl x1), some (.inl x2), some (.inl x3), some (.inl s0), some (.inl 0), none, none, none, none], [], M0 L V b) := by
  rfl

theorem B186_24 (L : Nat) (V : Mv) (b : Bool) (x1 : Int) (x2 : Int) (x3 : Int) (x4 : Int) (x5 : Int) (g0 : in32 x5) (g1 : in32 x4) : nxs 3 186 24 [some (.inr (.inr 120)), some (.inl x1), some (.inl x2), some (.inl x3), some (.inl x4), some (.inl x5), none, none, none, none] [] (M0 L V b) = some (true, cond (decide (x4 ≤ x5)) 147 31, [some (.inr (.inr 120)), some (.inl x1), some (.inl x2), some (.inl x3), some (.inl x4), some (.inl x5), none, none, none, none], [], M0 L V b) := by
  have f0 : (r32 x5 && r32 x4) = true := rr32_of g0 g1
  have hG : ((r32 x5 && r32 x4) && true) = true := an f0 rfl
  show some ((r32 x5 && r32 x4) && true, _) = _
  rw [hG]
  try rfl

theorem B186_31 (L : Nat) (V : Mv) (b : Bool) (x1 : Int) (x2 : Int) (x3 : Int) (x4 : Int) (x5 : Int)  : nxs 6 186 31 [some (.inr (.inr 120)), some (.inl x1), some (.inl x2), some (.inl x3), some (.inl x4), some (.inl x5), none, none, none, none] [] (M0 L V b) = some (true, 40, [some (.inr (.inr 120)), some (.inl x1), some (.inl x2), some (.inl x3), some (.inl x4), some (.inl x5), some (.inl 0), some (.inl 1), some (.inl 0), none], [], M0 L V b) := by
  rfl

theorem B186_40 (L : Nat) (V : Mv) (b : Bool) (x1 : Int) (x2 : Int) (x3 : Int) (x4 : Int) (x5 : Int) (x6 : Int) (x7 : Int) (x8 : Int) (g0 : 0 ≤ x1 ∧ x1 < 4) (g1 : in32 x8) (g2 : in32 (V 121 (x1).toNat)) : nxs 6 186 40 [some (.inr (.inr 120)), some (.inl x1), some (.inl x2), some (.inl x3), some (.inl x4), some (.inl x5), some (.inl x6), some (.inl x7), some (.inl x8), none] [] (M0 L V b) = some (true, cond (decide (V 121 (x1).toNat ≤ x8)) 97 51, [some (.inr (.inr 120)), some (.inl x1), some (.inl x2), some (.inl x3), some (.inl x4), some (.inl x5), some (.inl x6), some (.inl x7), some (.inl x8), none], [], M0 L V b) := by
  have f0 : gX (M0 L V b) 121 1 x1 = true := gx_of rfl g0
  have f1 : (r32 x8 && r32 (V 121 (x1).toNat)) = true := rr32_of g1 g2
  have hG : (gX (M0 L V b) 121 1 x1 && ((r32 x8 && r32 (V 121 (x1).toNat)) && true)) = true := an f0 (an f1 rfl)
  show some (gX (M0 L V b) 121 1 x1 && ((r32 x8 && r32 (V 121 (x1).toNat)) && true), _) = _
  rw [hG]
  try rfl

theorem B186_51 (L : Nat) (V : Mv) (b : Bool) (x1 : Int) (x2 : Int) (x3 : Int) (x4 : Int) (x5 : Int) (x6 : Int) (x7 : Int) (x8 : Int) (g0 : in32 x5) (g1 : in32 x7) (g2 : ¬ x7 = 0) (g3 : in32 (Int.tdiv x5 x7)) (g4 : in32 (Int.tmod (Int.tdiv x5 x7) 5)) : nxs 8 186 51 [some (.inr (.inr 120)), some (.inl x1), some (.inl x2), some (.inl x3), some (.inl x4), some (.inl x5), some (.inl x6), some (.inl x7), some (.inl x8), none] [] (M0 L V b) = some (true, cond (decide (Int.tmod (Int.tdiv x5 x7) 5 ≤ 0)) 81 65, [some (.inr (.inr 120)), some (.inl x1), some (.inl x2), some (.inl x3), some (.inl x4), some (.inl x5), some (.inl x6), some (.inl x7), some (.inl x8), some (.inl (Int.tmod (Int.tdiv x5 x7) 5))], [], M0 L V b) := by
  have f0 : gD x5 x7 = true := gD_of g0 g1 g2
  have f1 : gD (Int.tdiv x5 x7) 5 = true := gD_of g3 (by decide) (by decide)
  have f2 : r32 (Int.tmod (Int.tdiv x5 x7) 5) = true := r32_of g4
  have hG : (gD x5 x7 && (gD (Int.tdiv x5 x7) 5 && (r32 (Int.tmod (Int.tdiv x5 x7) 5) && true))) = true := an f0 (an f1 (an f2 rfl))
  show some (gD x5 x7 && (gD (Int.tdiv x5 x7) 5 && (r32 (Int.tmod (Int.tdiv x5 x7) 5) && true)), _) = _
  rw [hG]
  try rfl

theorem B186_65 (L : Nat) (V : Mv) (b : Bool) (x1 : Int) (x2 : Int) (x3 : Int) (x4 : Int) (x5 : Int) (x6 : Int) (x7 : Int) (x8 : Int) (x9 : Int) (g0 : in32 (oAnd (oShr x3 (x9 - 1)) 1)) : nxs 8 186 65 [some (.inr (.inr 120)), some (.inl x1), some (.inl x2), some (.inl x3), some (.inl x4), some (.inl x5), some (.inl x6), some (.inl x7), some (.inl x8), some (.inl x9)] [] (M0 L V b) = some (true, cond (!decide (oAnd (oShr x3 (x9 - 1)) 1 = 0)) 81 76, [some (.inr (.inr 120)), some (.inl x1), some (.inl x2), some (.inl x3), some (.inl x4), some (.inl x5), some (.inl x6), some (.inl x7), some (.inl x8), some (.inl x9)], [], M0 L V b) := by
  have f0 : r32 (oAnd (oShr x3 (x9 - 1)) 1) = true := r32_of g0
  have hG : (r32 (oAnd (oShr x3 (x9 - 1)) 1) && true) = true := an f0 rfl
  show some (r32 (oAnd (oShr x3 (x9 - 1)) 1) && true, _) = _
  rw [hG]
  try rfl

theorem B186_76 (L : Nat) (V : Mv) (b : Bool) (x1 : Int) (x2 : Int) (x3 : Int) (x4 : Int) (x5 : Int) (x6 : Int) (x7 : Int) (x8 : Int) (x9 : Int)  : nxs 2 186 76 [some (.inr (.inr 120)), some (.inl x1), some (.inl x2), some (.inl x3), some (.inl x4), some (.inl x5), some (.inl x6), some (.inl x7), some (.inl x8), some (.inl x9)] [] (M0 L V b) = some (true, 83, [some (.inr (.inr 120)), some (.inl x1), some (.inl x2), some (.inl x3), some (.inl x4), some (.inl x5), some (.inl x6), some (.inl x7), some (.inl x8), some (.inl x9)], [.inl x7], M0 L V b) := by
  rfl

theorem B186_81 (L : Nat) (V : Mv) (b : Bool) (x1 : Int) (x2 : Int) (x3 : Int) (x4 : Int) (x5 : Int) (x6 : Int) (x7 : Int) (x8 : Int) (x9 : Int)  : nxs 1 186 81 [some (.inr (.inr 120)), some (.inl x1), some (.inl x2), some (.inl x3), some (.inl x4), some (.inl x5), some (.inl x6), some (.inl x7), some (.inl x8), some (.inl x9)] [] (M0 L V b) = some (true, 83, [some (.inr (.inr 120)), some (.inl x1), some (.inl x2), some (.inl x3), some (.inl x4), some (.inl x5), some (.inl x6), some (.inl x7), some (.inl x8), some (.inl x9)], [.inl x6], M0 L V b) := by
  rfl

theorem B186_83 (L : Nat) (V : Mv) (b : Bool) (x1 : Int) (x2 : Int) (x3 : Int) (x4 : Int) (x5 : Int) (x6 : Int) (x7 : Int) (x8 : Int) (x9 : Int) (s0 : Int)  : nxs 7 186 83 [some (.inr (.inr 120)), some (.inl x1), some (.inl x2), some (.inl x3), some (.inl x4), some (.inl x5), some (.inl x6), some (.inl x7), some (.inl x8), some (.inl x9)] [.inl s0] (M0 L V b) = some (true, 40, [some (.inr (.inr 120)), some (.inl x1), some (.inl x2), some (.inl x3), some (.inl x4), some (.inl x5), some (.inl s0), some (.inl (x7 * 5)), some (.inl (x8 + 1)), some (.inl x9)], [], M0 L V b) := by
  rfl

theorem B186_97 (L : Nat) (V : Mv) (b : Bool) (x1 : Int) (x2 : Int) (x3 : Int) (x4 : Int) (x5 : Int) (x6 : Int) (x7 : Int) (x8 : Int) (g0 : in32 x6) : nxs 2 186 97 [some (.inr (.inr 120)), some (.inl x1), some (.inl x2), some (.inl x3), some (.inl x4), some (.inl x5), some (.inl x6), some (.inl x7), some (.inl x8), none] [] (M0 L V b) = some (true, cond (decide (x6 ≤ 0)) 118 102, [some (.inr (.inr 120)), some (.inl x1), some (.inl x2), some (.inl x3), some (.inl x4), some (.inl x5), some (.inl x6), some (.inl x7), some (.inl x8), none], [], M0 L V b) := by
  have f0 : r32 x6 = true := r32_of g0
  have hG : (r32 x6 && true) = true := an f0 rfl
  show some (r32 x6 && true, _) = _
  rw [hG]
  try rfl

theorem B186_102 (L : Nat) (V : Mv) (b : Bool) (x1 : Int) (x2 : Int) (x3 : Int) (x4 : Int) (x5 : Int) (x6 : Int) (x7 : Int) (x8 : Int) (g0 : in32 x5) (g1 : in32 x6) (g2 : ¬ x6 = 0) : nxs 9 186 102 [some (.inr (.inr 120)), some (.inl x1), some (.inl x2), some (.inl x3), some (.inl x4), some (.inl x5), some (.inl x6), some (.inl x7), some (.inl x8), none] [] (M0 L V b) = some (true, 144, [some (.inr (.inr 120)), some (.inl x1), some (.inl x2), some (.inl x3), some (.inl x4), some (.inl (((Int.tdiv x5 x6) * x6) + x6)), some (.inl x6), some (.inl x7), some (.inl x8), none], [], M0 L V b) := by
  have f0 : gD x5 x6 = true := gD_of g0 g1 g2
  have hG : (gD x5 x6 && true) = true := an f0 rfl
  show some (gD x5 x6 && true, _) = _
  rw [hG]
  try rfl

theorem B186_118 (L : Nat) (V : Mv) (b : Bool) (x1 : Int) (x2 : Int) (x3 : Int) (x4 : Int) (x5 : Int) (x6 : Int) (x7 : Int) (x8 : Int)  : nxs 4 186 118 [some (.inr (.inr 120)), some (.inl x1), some (.inl x2), some (.inl x3), some (.inl x4), some (.inl x5), some (.inl x6), some (.inl x7), some (.inl x8), none] [] (M0 L V b) = some (true, 123, [some (.inr (.inr 120)), some (.inl x1), some (.inl x2), some (.inl x3), some (.inl x4), some (.inl x5), some (.inl x6), some (.inl x7), some (.inl x8), none], [.inl 4, .inl x5, .inl x1, .inr (.inr 120)], M0 L V b) := by
  rfl

theorem B186_126 (L : Nat) (V : Mv) (b : Bool) (x1 : Int) (x2 : Int) (x3 : Int) (x4 : Int) (x5 : Int) (x6 : Int) (x7 : Int) (x8 : Int)  : nxs 2 186 126 [some (.inr (.inr 120)), some (.inl x1), some (.inl x2), some (.inl x3), some (.inl x4), some (.inl x5), some (.inl x6), some (.inl x7), some (.inl x8), none] [] (M0 L V b) = some (true, 128, [some (.inr (.inr 120)), some (.inl x1), some (.inl x2), some (.inl x3), some (.inl x4), some (.inl x5), some (.inl x6), some (.inl x7), some (.inl x8), none], [.inl x1, .inr (.inr 120)], M0 L V b) := by
  rfl

theorem B186_131 (L : Nat) (V : Mv) (b : Bool) (x1 : Int) (x2 : Int) (x3 : Int) (x4 : Int) (x5 : Int) (x6 : Int) (x7 : Int) (x8 : Int) (s0 : Int) (g0 : in32 s0) : nxs 1 186 131 [some (.inr (.inr 120)), some (.inl x1), some (.inl x2), some (.inl x3), some (.inl x4), some (.inl x5), some (.inl x6), some (.inl x7), some (.inl x8), none] [.inl s0] (M0 L V b) = some (true, cond (decide (s0 = 0)) 139 134, [some (.inr (.inr 120)), some (.inl x1), some (.inl x2), some (.inl x3), some (.inl x4), some (.inl x5), some (.inl x6), some (.inl x7), some (.inl x8), none], [], M0 L V b) := by
  have f0 : r32 s0 = true := r32_of g0
  have hG : (r32 s0 && true) = true := an f0 rfl
  show some (r32 s0 && true, _) = _
  rw [hG]
  try rfl

theorem B186_134 (L : Nat) (V : Mv) (b : Bool) (x1 : Int) (x2 : Int) (x3 : Int) (x4 : Int) (x5 : Int) (x6 : Int) (x7 : Int) (x8 : Int)  : nxs 2 186 134 [some (.inr (.inr 120)), some (.inl x1), some (.inl x2), some (.inl x3), some (.inl x4), some (.inl x5), some (.inl x6), some (.inl x7), some (.inl x8), none] [] (M0 L V b) = some (true, 140, [some (.inr (.inr 120)), some (.inl x1), some (.inl x2), some (.inl x3), some (.inl x4), some (.inl x5), some (.inl x6), some (.inl x7), some (.inl x8), none], [.inl x5], M0 L V b) := by
  rfl

theorem B186_139 (L : Nat) (V : Mv) (b : Bool) (x1 : Int) (x2 : Int) (x3 : Int) (x4 : Int) (x5 : Int) (x6 : Int) (x7 : Int) (x8 : Int)  : nxs 1 186 139 [some (.inr (.inr 120)), some (.inl x1), some (.inl x2), some (.inl x3), some (.inl x4), some (.inl x5), some (.inl x6), some (.inl x7), some (.inl x8), none] [] (M0 L V b) = some (true, 140, [some (.inr (.inr 120)), some (.inl x1), some (.inl x2), some (.inl x3), some (.inl x4), some (.inl x5), some (.inl x6), some (.inl x7), some (.inl x8), none], [.inl x2], M0 L V b) := by
  rfl

theorem B186_140 (L : Nat) (V : Mv) (b : Bool) (x1 : Int) (x2 : Int) (x3 : Int) (x4 : Int) (x5 : Int) (x6 : Int) (x7 : Int) (x8 : Int) (s0 : Int)  : nxs 2 186 140 [some (.inr (.inr 120)), some (.inl x1), some (.inl x2), some (.inl x3), some (.inl x4), some (.inl x5), some (.inl x6), some (.inl x7), some (.inl x8), none] [.inl s0] (M0 L V b) = some (true, 144, [some (.inr (.inr 120)), some (.inl x1), some (.inl s0), some (.inl x3), some (.inl x4), some (.inl (x5 + 1)), some (.inl x6), some (.inl x7), some (.inl x8), none], [], M0 L V b) := by
  rfl

theorem B186_144 (L : Nat) (V : Mv) (b : Bool) (x1 : Int) (x2 : Int) (x3 : Int) (x4 : Int) (x5 : Int) (x6 : Int) (x7 : Int) (x8 : Int)  : nxs 1 186 144 [some (.inr (.inr 120)), some (.inl x1), some (.inl x2), some (.inl x3), some (.inl x4), some (.inl x5), some (.inl x6), some (.inl x7), some (.inl x8), none] [] (M0 L V b) = some (true, 24, [some (.inr (.inr 120)), some (.inl x1), some (.inl x2), some (.inl x3), some (.inl x4), some (.inl x5), some (.inl x6), some (.inl x7), some (.inl x8), none], [], M0 L V b) := by
  rfl

theorem B186_147 (L : Nat) (V : Mv) (b : Bool) (x1 : Int) (x2 : Int) (x3 : Int) (x4 : Int) (x5 : Int)  : nxs 1 186 147 [some (.inr (.inr 120)), some (.inl x1), some (.inl x2), some (.inl x3), some (.inl x4), some (.inl x5), none, none, none, none] [] (M0 L V b) = some (true, 148, [some (.inr (.inr 120)), some (.inl x1), some (.inl x2), some (.inl x3), some (.inl x4), some (.inl x5), none, none, none, none], [.inl x2], M0 L V b) := by
  rfl

-- 187: MendedOrNewModel.allNumbers(I)I
theorem B187_0 (L : Nat) (V : Mv) (b : Bool) (x1 : Int)  : nxs 4 187 0 [some (.inr (.inr 120)), some (.inl x1), none, none] [] (M0 L V b) = some (true, 4, [some (.inr (.inr 120)), some (.inl x1), some (.inl 1), some (.inl 0)], [], M0 L V b) := by
  rfl

theorem B187_4 (L : Nat) (V : Mv) (b : Bool) (x1 : Int) (x2 : Int) (x3 : Int) (g0 : 0 ≤ x1 ∧ x1 < 4) (g1 : in32 x3) (g2 : in32 (V 121 (x1).toNat)) : nxs 6 187 4 [some (.inr (.inr 120)), some (.inl x1), some (.inl x2), some (.inl x3)] [] (M0 L V b) = some (true, cond (decide (V 121 (x1).toNat ≤ x3)) 24 14, [some (.inr (.inr 120)), some (.inl x1), some (.inl x2), some (.inl x3)], [], M0 L V b) := by
  have f0 : gX (M0 L V b) 121 1 x1 = true := gx_of rfl g0
  have f1 : (r32 x3 && r32 (V 121 (x1).toNat)) = true := rr32_of g1 g2
  have hG : (gX (M0 L V b) 121 1 x1 && ((r32 x3 && r32 (V 121 (x1).toNat)) && true)) = true := an f0 (an f1 rfl)
  show some (gX (M0 L V b) 121 1 x1 && ((r32 x3 && r32 (V 121 (x1).toNat)) && true), _) = _
  rw [hG]
  try rfl

theorem B187_14 (L : Nat) (V : Mv) (b : Bool) (x1 : Int) (x2 : Int) (x3 : Int)  : nxs 6 187 14 [some (.inr (.inr 120)), some (.inl x1), some (.inl x2), some (.inl x3)] [] (M0 L V b) = some (true, 4, [some (.inr (.inr 120)), some (.inl x1), some (.inl (x2 * 5)), some (.inl (x3 + 1))], [], M0 L V b) := by
  rfl

theorem B187_24 (L : Nat) (V : Mv) (b : Bool) (x1 : Int) (x2 : Int) (x3 : Int)  : nxs 1 187 24 [some (.inr (.inr 120)), some (.inl x1), some (.inl x2), some (.inl x3)] [] (M0 L V b) = some (true, 25, [some (.inr (.inr 120)), some (.inl x1), some (.inl x2), some (.inl x3)], [.inl x2], M0 L V b) := by
  rfl

-- 188: MendedOrNewModel.tryNumber(III)V
theorem B188_0 (L : Nat) (V : Mv) (b : Bool) (x1 : Int) (x2 : Int) (x3 : Int)  : nxs 4 188 0 [some (.inr (.inr 120)), some (.inl x1), some (.inl x2), some (.inl x3), none, none] [] (M0 L V b) = some (true, 7, [some (.inr (.inr 120)), some (.inl x1), some (.inl x2), some (.inl x3), some (.inl x2), some (.inl 7)], [], M0 L V b) := by
  rfl

theorem B188_7 (L : Nat) (V : Mv) (b : Bool) (x1 : Int) (x2 : Int) (x3 : Int) (x4 : Int) (x5 : Int) (g0 : in32 x5) : nxs 2 188 7 [some (.inr (.inr 120)), some (.inl x1), some (.inl x2), some (.inl x3), some (.inl x4), some (.inl x5)] [] (M0 L V b) = some (true, cond (decide (x5 < 0)) 70 12, [some (.inr (.inr 120)), some (.inl x1), some (.inl x2), some (.inl x3), some (.inl x4), some (.inl x5)], [], M0 L V b) := by
  have f0 : r32 x5 = true := r32_of g0
  have hG : (r32 x5 && true) = true := an f0 rfl
  show some (r32 x5 && true, _) = _
  rw [hG]
  try rfl

theorem B188_12 (L : Nat) (V : Mv) (b : Bool) (x1 : Int) (x2 : Int) (x3 : Int) (x4 : Int) (x5 : Int) (g0 : 0 ≤ x1 ∧ x1 < 4) (g1 : in32 x5) (g2 : in32 (V 121 (x1).toNat)) : nxs 13 188 12 [some (.inr (.inr 120)), some (.inl x1), some (.inl x2), some (.inl x3), some (.inl x4), some (.inl x5)] [] (M0 L V b) = some (true, cond (decide (V 121 (x1).toNat ≤ x5)) 41 34, [some (.inr (.inr 120)), some (.inl x1), some (.inl x2), some (.inl x3), some (.inl x4), some (.inl x5)], [.inl ((8 * x3) + x5), .inr (.inr 135)], M0 L V b) := by
  have f0 : gX (M0 L V b) 121 1 x1 = true := gx_of rfl g0
  have f1 : (r32 x5 && r32 (V 121 (x1).toNat)) = true := rr32_of g1 g2
  have hG : (gX (M0 L V b) 121 1 x1 && ((r32 x5 && r32 (V 121 (x1).toNat)) && true)) = true := an f0 (an f1 rfl)
  show some (gX (M0 L V b) 121 1 x1 && ((r32 x5 && r32 (V 121 (x1).toNat)) && true), _) = _
  rw [hG]
  try rfl

theorem B188_34 (L : Nat) (V : Mv) (b : Bool) (x1 : Int) (x2 : Int) (x3 : Int) (x4 : Int) (x5 : Int) (s0 : Nat) (s1 : Int) (n_s0 : Nat) (t_s0 : TT L s0 = (1, n_s0)) (g0 : in32 x4) : nxs 4 188 34 [some (.inr (.inr 120)), some (.inl x1), some (.inl x2), some (.inl x3), some (.inl x4), some (.inl x5)] [.inl s1, .inr (.inr s0)] (M0 L V b) = some (true, 42, [some (.inr (.inr 120)), some (.inl x1), some (.inl x2), some (.inl x3), some (.inl x4), some (.inl x5)], [.inl (Int.tmod x4 5), .inl s1, .inr (.inr s0)], M0 L V b) := by
  have f0 : gD x4 5 = true := gD_of g0 (by decide) (by decide)
  have hG : (gD x4 5 && true) = true := an f0 rfl
  show some (gD x4 5 && true, _) = _
  rw [hG]
  try rfl

theorem B188_41 (L : Nat) (V : Mv) (b : Bool) (x1 : Int) (x2 : Int) (x3 : Int) (x4 : Int) (x5 : Int) (s0 : Nat) (s1 : Int) (n_s0 : Nat) (t_s0 : TT L s0 = (1, n_s0)) : nxs 1 188 41 [some (.inr (.inr 120)), some (.inl x1), some (.inl x2), some (.inl x3), some (.inl x4), some (.inl x5)] [.inl s1, .inr (.inr s0)] (M0 L V b) = some (true, 42, [some (.inr (.inr 120)), some (.inl x1), some (.inl x2), some (.inl x3), some (.inl x4), some (.inl x5)], [.inl 0, .inl s1, .inr (.inr s0)], M0 L V b) := by
  rfl

theorem B188_42 (L : Nat) (V : Mv) (b : Bool) (x1 : Int) (x2 : Int) (x3 : Int) (x4 : Int) (x5 : Int) (s0 : Nat) (s1 : Int) (s2 : Int) (n_s0 : Nat) (t_s0 : TT L s0 = (1, n_s0)) (g0 : 0 ≤ s1 ∧ s1 < (n_s0 : Int)) (z_s0 : s0 ≠ 0) (g1 : 0 ≤ x1 ∧ x1 < 4) (g2 : in32 x5) (g3 : in32 ((uV V s0 (s1).toNat s2) 121 (x1).toNat)) : nxs 8 188 42 [some (.inr (.inr 120)), some (.inl x1), some (.inl x2), some (.inl x3), some (.inl x4), some (.inl x5)] [.inl s2, .inl s1, .inr (.inr s0)] (M0 L V b) = some (true, cond (decide ((uV V s0 (s1).toNat s2) 121 (x1).toNat ≤ x5)) 60 56, [some (.inr (.inr 120)), some (.inl x1), some (.inl x2), some (.inl x3), some (.inl x4), some (.inl x5)], [.inl x4], M0 L (uV V s0 (s1).toNat s2) b) := by
  have f0 : (gX (M0 L V b) s0 1 s1 && !Nat.beq s0 0) = true := gs_of (gx_of (show aT _ _ = _ from t_s0) g0) z_s0
  have f1 : gX (M0 L (uV V s0 (s1).toNat s2) b) 121 1 x1 = true := gx_of rfl g1
  have f2 : (r32 x5 && r32 ((uV V s0 (s1).toNat s2) 121 (x1).toNat)) = true := rr32_of g2 g3
  have hG : ((gX (M0 L V b) s0 1 s1 && !Nat.beq s0 0) && (gX (M0 L (uV V s0 (s1).toNat s2) b) 121 1 x1 && ((r32 x5 && r32 ((uV V s0 (s1).toNat s2) 121 (x1).toNat)) && true))) = true := an f0 (an f1 (an f2 rfl))
  show some ((gX (M0 L V b) s0 1 s1 && !Nat.beq s0 0) && (gX (M0 L (uV V s0 (s1).toNat s2) b) 121 1 x1 && ((r32 x5 && r32 ((uV V s0 (s1).toNat s2) 121 (x1).toNat)) && true)), _) = _
  rw [hG]
  try rfl

theorem B188_56 (L : Nat) (V : Mv) (b : Bool) (x1 : Int) (x2 : Int) (x3 : Int) (x4 : Int) (x5 : Int) (s0 : Int)  : nxs 2 188 56 [some (.inr (.inr 120)), some (.inl x1), some (.inl x2), some (.inl x3), some (.inl x4), some (.inl x5)] [.inl s0] (M0 L V b) = some (true, 61, [some (.inr (.inr 120)), some (.inl x1), some (.inl x2), some (.inl x3), some (.inl x4), some (.inl x5)], [.inl 5, .inl s0], M0 L V b) := by
  rfl

theorem B188_60 (L : Nat) (V : Mv) (b : Bool) (x1 : Int) (x2 : Int) (x3 : Int) (x4 : Int) (x5 : Int) (s0 : Int)  : nxs 1 188 60 [some (.inr (.inr 120)), some (.inl x1), some (.inl x2), some (.inl x3), some (.inl x4), some (.inl x5)] [.inl s0] (M0 L V b) = some (true, 61, [some (.inr (.inr 120)), some (.inl x1), some (.inl x2), some (.inl x3), some (.inl x4), some (.inl x5)], [.inl 1, .inl s0], M0 L V b) := by
  rfl

theorem B188_61 (L : Nat) (V : Mv) (b : Bool) (x1 : Int) (x2 : Int) (x3 : Int) (x4 : Int) (x5 : Int) (s0 : Int) (s1 : Int) (g0 : in32 s0) (g1 : in32 s1) (g2 : ¬ s1 = 0) : nxs 4 188 61 [some (.inr (.inr 120)), some (.inl x1), some (.inl x2), some (.inl x3), some (.inl x4), some (.inl x5)] [.inl s1, .inl s0] (M0 L V b) = some (true, 7, [some (.inr (.inr 120)), some (.inl x1), some (.inl x2), some (.inl x3), some (.inl (Int.tdiv s0 s1)), some (.inl (x5 + (-1)))], [], M0 L V b) := by
  have f0 : gD s0 s1 = true := gD_of g0 g1 g2
  have hG : (gD s0 s1 && true) = true := an f0 rfl
  show some (gD s0 s1 && true, _) = _
  rw [hG]
  try rfl

-- 189: MendedOrNewModel.isLess(I)Z
theorem B189_0 (L : Nat) (V : Mv) (b : Bool) (x1 : Int)  : nxs 3 189 0 [some (.inr (.inr 120)), some (.inl x1), none] [] (M0 L V b) = some (true, 3, [some (.inr (.inr 120)), some (.inl x1), none], [.inl 4, .inl x1, .inr (.inr 120)], M0 L V b) := by
  rfl

theorem B189_6 (L : Nat) (V : Mv) (b : Bool) (x1 : Int) (s0 : Int) (g0 : in32 s0) : nxs 1 189 6 [some (.inr (.inr 120)), some (.inl x1), none] [.inl s0] (M0 L V b) = some (true, cond (decide (s0 = 0)) 44 9, [some (.inr (.inr 120)), some (.inl x1), none], [], M0 L V b) := by
  have f0 : r32 s0 = true := r32_of g0
  have hG : (r32 s0 && true) = true := an f0 rfl
  show some (r32 s0 && true, _) = _
  rw [hG]
  try rfl

theorem B189_9 (L : Nat) (V : Mv) (b : Bool) (x1 : Int) (g0 : in64 (V 120 28)) (g1 : in32 (cmpI (V 120 28) 0)) : nxs 5 189 9 [some (.inr (.inr 120)), some (.inl x1), none] [] (M0 L V b) = some (true, cond (decide (cmpI (V 120 28) 0 = 0)) 40 18, [some (.inr (.inr 120)), some (.inl x1), none], [], M0 L V b) := by
  have f0 : (r64 (V 120 28) && r64 0) = true := rr64_of g0 (by decide)
  have f1 : r32 (cmpI (V 120 28) 0) = true := r32_of g1
  have hG : ((r64 (V 120 28) && r64 0) && (r32 (cmpI (V 120 28) 0) && true)) = true := an f0 (an f1 rfl)
  show some ((r64 (V 120 28) && r64 0) && (r32 (cmpI (V 120 28) 0) && true), _) = _
  rw [hG]
  try rfl

theorem B189_18 (L : Nat) (V : Mv) (b : Bool) (x1 : Int) (g0 : in64 ((V 120 24) * (V 120 28))) (g1 : in64 ((V 120 27) * (V 120 25))) (g2 : in32 (cmpI ((V 120 24) * (V 120 28)) ((V 120 27) * (V 120 25)))) : nxs 12 189 18 [some (.inr (.inr 120)), some (.inl x1), none] [] (M0 L V b) = some (true, cond (decide (0 ≤ cmpI ((V 120 24) * (V 120 28)) ((V 120 27) * (V 120 25)))) 44 40, [some (.inr (.inr 120)), some (.inl x1), none], [], M0 L V b) := by
  have f0 : (r64 ((V 120 24) * (V 120 28)) && r64 ((V 120 27) * (V 120 25))) = true := rr64_of g0 g1
  have f1 : r32 (cmpI ((V 120 24) * (V 120 28)) ((V 120 27) * (V 120 25))) = true := r32_of g2
  have hG : ((r64 ((V 120 24) * (V 120 28)) && r64 ((V 120 27) * (V 120 25))) && (r32 (cmpI ((V 120 24) * (V 120 28)) ((V 120 27) * (V 120 25))) && true)) = true := an f0 (an f1 rfl)
  show some ((r64 ((V 120 24) * (V 120 28)) && r64 ((V 120 27) * (V 120 25))) && (r32 (cmpI ((V 120 24) * (V 120 28)) ((V 120 27) * (V 120 25))) && true), _) = _
  rw [hG]
  try rfl

theorem B189_40 (L : Nat) (V : Mv) (b : Bool) (x1 : Int)  : nxs 2 189 40 [some (.inr (.inr 120)), some (.inl x1), none] [] (M0 L V b) = some (true, 45, [some (.inr (.inr 120)), some (.inl x1), none], [.inl 1], M0 L V b) := by
  rfl

theorem B189_44 (L : Nat) (V : Mv) (b : Bool) (x1 : Int)  : nxs 1 189 44 [some (.inr (.inr 120)), some (.inl x1), none] [] (M0 L V b) = some (true, 45, [some (.inr (.inr 120)), some (.inl x1), none], [.inl 0], M0 L V b) := by
  rfl

theorem B189_45 (L : Nat) (V : Mv) (b : Bool) (x1 : Int) (s0 : Int) (g0 : in32 s0) : nxs 4 189 45 [some (.inr (.inr 120)), some (.inl x1), none] [.inl s0] (M0 L V b) = some (true, cond (decide (s0 = 0)) 58 51, [some (.inr (.inr 120)), some (.inl x1), some (.inl s0)], [.inr (.inr 120)], M0 L V b) := by
  have f0 : r32 s0 = true := r32_of g0
  have hG : (r32 s0 && true) = true := an f0 rfl
  show some (r32 s0 && true, _) = _
  rw [hG]
  try rfl

theorem B189_51 (L : Nat) (V : Mv) (b : Bool) (x1 : Int) (x2 : Int)  : nxs 3 189 51 [some (.inr (.inr 120)), some (.inl x1), some (.inl x2)] [.inr (.inr 120)] (M0 L V b) = some (true, 62, [some (.inr (.inr 120)), some (.inl x1), some (.inl x2)], [.inr (.inl (V 120 24)), .inr (.inr 120)], M0 L V b) := by
  rfl

theorem B189_58 (L : Nat) (V : Mv) (b : Bool) (x1 : Int) (x2 : Int)  : nxs 2 189 58 [some (.inr (.inr 120)), some (.inl x1), some (.inl x2)] [.inr (.inr 120)] (M0 L V b) = some (true, 62, [some (.inr (.inr 120)), some (.inl x1), some (.inl x2)], [.inr (.inl (V 120 27)), .inr (.inr 120)], M0 L V b) := by
  rfl

theorem B189_62 (L : Nat) (V : Mv) (b : Bool) (x1 : Int) (x2 : Int) (s1 : Int) (g0 : in32 x2) : nxs 4 189 62 [some (.inr (.inr 120)), some (.inl x1), some (.inl x2)] [.inr (.inl s1), .inr (.inr 120)] (M0 L V b) = some (true, cond (decide (x2 = 0)) 77 70, [some (.inr (.inr 120)), some (.inl x1), some (.inl x2)], [.inr (.inr 120)], M0 L (uV V 120 27 s1) b) := by
  have f0 : r32 x2 = true := r32_of g0
  have hG : (r32 x2 && true) = true := an f0 rfl
  show some (r32 x2 && true, _) = _
  rw [hG]
  try rfl

theorem B189_70 (L : Nat) (V : Mv) (b : Bool) (x1 : Int) (x2 : Int)  : nxs 3 189 70 [some (.inr (.inr 120)), some (.inl x1), some (.inl x2)] [.inr (.inr 120)] (M0 L V b) = some (true, 81, [some (.inr (.inr 120)), some (.inl x1), some (.inl x2)], [.inr (.inl (V 120 25)), .inr (.inr 120)], M0 L V b) := by
  rfl

theorem B189_77 (L : Nat) (V : Mv) (b : Bool) (x1 : Int) (x2 : Int)  : nxs 2 189 77 [some (.inr (.inr 120)), some (.inl x1), some (.inl x2)] [.inr (.inr 120)] (M0 L V b) = some (true, 81, [some (.inr (.inr 120)), some (.inl x1), some (.inl x2)], [.inr (.inl (V 120 28)), .inr (.inr 120)], M0 L V b) := by
  rfl

theorem B189_81 (L : Nat) (V : Mv) (b : Bool) (x1 : Int) (x2 : Int) (s1 : Int)  : nxs 2 189 81 [some (.inr (.inr 120)), some (.inl x1), some (.inl x2)] [.inr (.inl s1), .inr (.inr 120)] (M0 L V b) = some (true, 85, [some (.inr (.inr 120)), some (.inl x1), some (.inl x2)], [.inl x2], M0 L (uV V 120 28 s1) b) := by
  rfl

-- 190: MendedOrNewModel.bestCost(IZ)J
theorem B190_0 (L : Nat) (V : Mv) (b : Bool) (x1 : Int) (x2 : Int)  : nxs 1 190 0 [some (.inr (.inr 120)), some (.inl x1), some (.inl x2)] [] (M0 L V b) = some (true, 1, [some (.inr (.inr 120)), some (.inl x1), some (.inl x2)], [.inl x1], M0 L V b) := by
  rfl

theorem B190_4 (L : Nat) (V : Mv) (b : Bool) (x1 : Int) (x2 : Int) (s0 : Int) (g0 : in32 s0) : nxs 1 190 4 [some (.inr (.inr 120)), some (.inl x1), some (.inl x2)] [.inl s0] (M0 L V b) = some (true, cond (!decide (s0 = 0)) 11 7, [some (.inr (.inr 120)), some (.inl x1), some (.inl x2)], [], M0 L V b) := by
  have f0 : r32 s0 = true := r32_of g0
  have hG : (r32 s0 && true) = true := an f0 rfl
  show some (r32 s0 && true, _) = _
  rw [hG]
  try rfl

theorem B190_7 (L : Nat) (V : Mv) (b : Bool) (x1 : Int) (x2 : Int)  : nxs 1 190 7 [some (.inr (.inr 120)), some (.inl x1), some (.inl x2)] [] (M0 L V b) = some (true, 10, [some (.inr (.inr 120)), some (.inl x1), some (.inl x2)], [.inr (.inl (-1))], M0 L V b) := by
  rfl

theorem B190_11 (L : Nat) (V : Mv) (b : Bool) (x1 : Int) (x2 : Int)  : nxs 3 190 11 [some (.inr (.inr 120)), some (.inl x1), some (.inl x2)] [] (M0 L V b) = some (true, 14, [some (.inr (.inr 120)), some (.inl x1), some (.inl x2)], [.inl x1, .inr (.inr 120), .inr (.inr 120)], M0 L V b) := by
  rfl

theorem B190_17 (L : Nat) (V : Mv) (b : Bool) (x1 : Int) (x2 : Int) (s1 : Int) (g0 : 0 ≤ x1 ∧ x1 < 4) : nxs 6 190 17 [some (.inr (.inr 120)), some (.inl x1), some (.inl x2)] [.inl s1, .inr (.inr 120)] (M0 L V b) = some (true, 25, [some (.inr (.inr 120)), some (.inl x1), some (.inl x2)], [.inl (V 121 (x1).toNat), .inl (s1 + 1), .inr (.inr 120)], M0 L V b) := by
  have f0 : gX (M0 L V b) 121 1 x1 = true := gx_of rfl g0
  have hG : (gX (M0 L V b) 121 1 x1 && true) = true := an f0 rfl
  show some (gX (M0 L V b) 121 1 x1 && true, _) = _
  rw [hG]
  try rfl

theorem B190_28 (L : Nat) (V : Mv) (b : Bool) (x1 : Int) (x2 : Int) (s0 : Int) (g0 : in32 s0) : nxs 2 190 28 [some (.inr (.inr 120)), some (.inl x1), some (.inl x2)] [.inl s0] (M0 L V b) = some (true, cond (decide (s0 ≤ 1024)) 38 34, [some (.inr (.inr 120)), some (.inl x1), some (.inl x2)], [], M0 L V b) := by
  have f0 : (r32 s0 && r32 1024) = true := rr32_of g0 (by decide)
  have hG : ((r32 s0 && r32 1024) && true) = true := an f0 rfl
  show some ((r32 s0 && r32 1024) && true, _) = _
  rw [hG]
  try rfl

theorem B190_34 (L : Nat) (V : Mv) (b : Bool) (x1 : Int) (x2 : Int)  : nxs 1 190 34 [some (.inr (.inr 120)), some (.inl x1), some (.inl x2)] [] (M0 L V b) = some (true, 37, [some (.inr (.inr 120)), some (.inl x1), some (.inl x2)], [.inr (.inl (-3))], M0 L V b) := by
  rfl

theorem B190_38 (L : Nat) (V : Mv) (b : Bool) (x1 : Int) (x2 : Int)  : nxs 2 190 38 [some (.inr (.inr 120)), some (.inl x1), some (.inl x2)] [] (M0 L V b) = some (true, 40, [some (.inr (.inr 120)), some (.inl x1), some (.inl x2)], [.inl x1, .inr (.inr 120)], M0 L V b) := by
  rfl

theorem B190_43 (L : Nat) (V : Mv) (b : Bool) (x1 : Int) (x2 : Int) (s0 : Int) (g0 : in32 s0) : nxs 2 190 43 [some (.inr (.inr 120)), some (.inl x1), some (.inl x2)] [.inl s0] (M0 L V b) = some (true, cond (!decide (s0 = (-9))) 54 48, [some (.inr (.inr 120)), some (.inl x1), some (.inl x2)], [], M0 L V b) := by
  have f0 : (r32 s0 && r32 (-9)) = true := rr32_of g0 (by decide)
  have hG : ((r32 s0 && r32 (-9)) && true) = true := an f0 rfl
  show some ((r32 s0 && r32 (-9)) && true, _) = _
  rw [hG]
  try rfl

theorem B190_48 (L : Nat) (V : Mv) (b : Bool) (x1 : Int) (x2 : Int)  : nxs 2 190 48 [some (.inr (.inr 120)), some (.inl x1), some (.inl x2)] [] (M0 L V b) = some (true, 69, [some (.inr (.inr 120)), some (.inl x1), some (.inl x2)], [.inr (.inl (-9))], M0 L V b) := by
  rfl

theorem B190_54 (L : Nat) (V : Mv) (b : Bool) (x1 : Int) (x2 : Int) (g0 : in32 x2) : nxs 2 190 54 [some (.inr (.inr 120)), some (.inl x1), some (.inl x2)] [] (M0 L V b) = some (true, cond (decide (x2 = 0)) 65 58, [some (.inr (.inr 120)), some (.inl x1), some (.inl x2)], [], M0 L V b) := by
  have f0 : r32 x2 = true := r32_of g0
  have hG : (r32 x2 && true) = true := an f0 rfl
  show some (r32 x2 && true, _) = _
  rw [hG]
  try rfl

theorem B190_58 (L : Nat) (V : Mv) (b : Bool) (x1 : Int) (x2 : Int)  : nxs 3 190 58 [some (.inr (.inr 120)), some (.inl x1), some (.inl x2)] [] (M0 L V b) = some (true, 69, [some (.inr (.inr 120)), some (.inl x1), some (.inl x2)], [.inr (.inl (V 120 27))], M0 L V b) := by
  rfl

theorem B190_65 (L : Nat) (V : Mv) (b : Bool) (x1 : Int) (x2 : Int)  : nxs 2 190 65 [some (.inr (.inr 120)), some (.inl x1), some (.inl x2)] [] (M0 L V b) = some (true, 69, [some (.inr (.inr 120)), some (.inl x1), some (.inl x2)], [.inr (.inl (V 120 28))], M0 L V b) := by
  rfl

-- 191: MendedOrNewModel.put(III)I
theorem B191_0 (L : Nat) (V : Mv) (b : Bool) (x1 : Int) (x2 : Int) (x3 : Int)  : nxs 1 191 0 [some (.inr (.inr 120)), some (.inl x1), some (.inl x2), some (.inl x3), none, none] [] (M0 L V b) = some (true, 1, [some (.inr (.inr 120)), some (.inl x1), some (.inl x2), some (.inl x3), none, none], [.inl x1], M0 L V b) := by
  rfl

theorem B191_4 (L : Nat) (V : Mv) (b : Bool) (x1 : Int) (x2 : Int) (x3 : Int) (s0 : Int) (g0 : in32 s0) : nxs 1 191 4 [some (.inr (.inr 120)), some (.inl x1), some (.inl x2), some (.inl x3), none, none] [.inl s0] (M0 L V b) = some (true, cond (decide (s0 = 0)) 14 7, [some (.inr (.inr 120)), some (.inl x1), some (.inl x2), some (.inl x3), none, none], [], M0 L V b) := by
  have f0 : r32 s0 = true := r32_of g0
  have hG : (r32 s0 && true) = true := an f0 rfl
  show some (r32 s0 && true, _) = _
  rw [hG]
  try rfl

theorem B191_7 (L : Nat) (V : Mv) (b : Bool) (x1 : Int) (x2 : Int) (x3 : Int)  : nxs 1 191 7 [some (.inr (.inr 120)), some (.inl x1), some (.inl x2), some (.inl x3), none, none] [] (M0 L V b) = some (true, 8, [some (.inr (.inr 120)), some (.inl x1), some (.inl x2), some (.inl x3), none, none], [.inl x2], M0 L V b) := by
  rfl

theorem B191_11 (L : Nat) (V : Mv) (b : Bool) (x1 : Int) (x2 : Int) (x3 : Int) (s0 : Int) (g0 : in32 s0) : nxs 1 191 11 [some (.inr (.inr 120)), some (.inl x1), some (.inl x2), some (.inl x3), none, none] [.inl s0] (M0 L V b) = some (true, cond (!decide (s0 = 0)) 16 14, [some (.inr (.inr 120)), some (.inl x1), some (.inl x2), some (.inl x3), none, none], [], M0 L V b) := by
  have f0 : r32 s0 = true := r32_of g0
  have hG : (r32 s0 && true) = true := an f0 rfl
  show some (r32 s0 && true, _) = _
  rw [hG]
  try rfl

theorem B191_14 (L : Nat) (V : Mv) (b : Bool) (x1 : Int) (x2 : Int) (x3 : Int)  : nxs 1 191 14 [some (.inr (.inr 120)), some (.inl x1), some (.inl x2), some (.inl x3), none, none] [] (M0 L V b) = some (true, 15, [some (.inr (.inr 120)), some (.inl x1), some (.inl x2), some (.inl x3), none, none], [.inl (-1)], M0 L V b) := by
  rfl

theorem B191_16 (L : Nat) (V : Mv) (b : Bool) (x1 : Int) (x2 : Int) (x3 : Int) (g0 : in32 x3) : nxs 5 191 16 [some (.inr (.inr 120)), some (.inl x1), some (.inl x2), some (.inl x3), none, none] [] (M0 L V b) = some (true, 21, [some (.inr (.inr 120)), some (.inl x1), some (.inl x2), some (.inl x3), none, none], [.inl x1, .inr (.inr 120), .inr (.inl 0), .inr (.inl x3)], M0 L V b) := by
  have f0 : r32 x3 = true := r32_of g0
  have hG : (r32 x3 && true) = true := an f0 rfl
  show some (r32 x3 && true, _) = _
  rw [hG]
  try rfl

theorem B191_24 (L : Nat) (V : Mv) (b : Bool) (x1 : Int) (x2 : Int) (x3 : Int) (s0 : Int) (s1 : Int) (s2 : Int) (g0 : in32 (s2 - 1)) : nxs 3 191 24 [some (.inr (.inr 120)), some (.inl x1), some (.inl x2), some (.inl x3), none, none] [.inl s2, .inr (.inl s1), .inr (.inl s0)] (M0 L V b) = some (true, 27, [some (.inr (.inr 120)), some (.inl x1), some (.inl x2), some (.inl x3), none, none], [.inr (.inl (s2 - 1)), .inr (.inl s1), .inr (.inl s0)], M0 L V b) := by
  have f0 : r32 (s2 - 1) = true := r32_of g0
  have hG : (r32 (s2 - 1) && true) = true := an f0 rfl
  show some (r32 (s2 - 1) && true, _) = _
  rw [hG]
  try rfl

theorem B191_30 (L : Nat) (V : Mv) (b : Bool) (x1 : Int) (x2 : Int) (x3 : Int) (s0 : Int) (g0 : in32 s0) : nxs 1 191 30 [some (.inr (.inr 120)), some (.inl x1), some (.inl x2), some (.inl x3), none, none] [.inl s0] (M0 L V b) = some (true, cond (!decide (s0 = 0)) 36 33, [some (.inr (.inr 120)), some (.inl x1), some (.inl x2), some (.inl x3), none, none], [], M0 L V b) := by
  have f0 : r32 s0 = true := r32_of g0
  have hG : (r32 s0 && true) = true := an f0 rfl
  show some (r32 s0 && true, _) = _
  rw [hG]
  try rfl

theorem B191_33 (L : Nat) (V : Mv) (b : Bool) (x1 : Int) (x2 : Int) (x3 : Int)  : nxs 1 191 33 [some (.inr (.inr 120)), some (.inl x1), some (.inl x2), some (.inl x3), none, none] [] (M0 L V b) = some (true, 35, [some (.inr (.inr 120)), some (.inl x1), some (.inl x2), some (.inl x3), none, none], [.inl (-2)], M0 L V b) := by
  rfl

theorem B191_36 (L : Nat) (V : Mv) (b : Bool) (x1 : Int) (x2 : Int) (x3 : Int)  : nxs 4 191 36 [some (.inr (.inr 120)), some (.inl x1), some (.inl x2), some (.inl x3), none, none] [] (M0 L V b) = some (true, 40, [some (.inr (.inr 120)), some (.inl x1), some (.inl x2), some (.inl x3), none, none], [.inl x2, .inl x3, .inl x1, .inr (.inr 120)], M0 L V b) := by
  rfl

theorem B191_43 (L : Nat) (V : Mv) (b : Bool) (x1 : Int) (x2 : Int) (x3 : Int)  : nxs 4 191 43 [some (.inr (.inr 120)), some (.inl x1), some (.inl x2), some (.inl x3), none, none] [] (M0 L V b) = some (true, 49, [some (.inr (.inr 120)), some (.inl x1), some (.inl x2), some (.inl x3), some (.inl 0), some (.inl 0)], [], M0 L V b) := by
  rfl

theorem B191_49 (L : Nat) (V : Mv) (b : Bool) (x1 : Int) (x2 : Int) (x3 : Int) (x4 : Int) (x5 : Int) (g0 : in32 x5) : nxs 3 191 49 [some (.inr (.inr 120)), some (.inl x1), some (.inl x2), some (.inl x3), some (.inl x4), some (.inl x5)] [] (M0 L V b) = some (true, cond (decide (8 ≤ x5)) 87 56, [some (.inr (.inr 120)), some (.inl x1), some (.inl x2), some (.inl x3), some (.inl x4), some (.inl x5)], [], M0 L V b) := by
  have f0 : (r32 x5 && r32 8) = true := rr32_of g0 (by decide)
  have hG : ((r32 x5 && r32 8) && true) = true := an f0 rfl
  show some ((r32 x5 && r32 8) && true, _) = _
  rw [hG]
  try rfl

theorem B191_56 (L : Nat) (V : Mv) (b : Bool) (x1 : Int) (x2 : Int) (x3 : Int) (x4 : Int) (x5 : Int) (g0 : 0 ≤ (8 * x2) + x5 ∧ (8 * x2) + x5 < 40) (g1 : in32 (V 135 ((8 * x2) + x5).toNat)) : nxs 10 191 56 [some (.inr (.inr 120)), some (.inl x1), some (.inl x2), some (.inl x3), some (.inl x4), some (.inl x5)] [] (M0 L V b) = some (true, cond (decide (V 135 ((8 * x2) + x5).toNat ≤ 0)) 77 73, [some (.inr (.inr 120)), some (.inl x1), some (.inl x2), some (.inl x3), some (.inl x4), some (.inl x5)], [.inl x4], M0 L V b) := by
  have f0 : gX (M0 L V b) 135 1 ((8 * x2) + x5) = true := gx_of rfl g0
  have f1 : r32 (V 135 ((8 * x2) + x5).toNat) = true := r32_of g1
  have hG : (gX (M0 L V b) 135 1 ((8 * x2) + x5) && (r32 (V 135 ((8 * x2) + x5).toNat) && true)) = true := an f0 (an f1 rfl)
  show some (gX (M0 L V b) 135 1 ((8 * x2) + x5) && (r32 (V 135 ((8 * x2) + x5).toNat) && true), _) = _
  rw [hG]
  try rfl

theorem B191_73 (L : Nat) (V : Mv) (b : Bool) (x1 : Int) (x2 : Int) (x3 : Int) (x4 : Int) (x5 : Int) (s0 : Int)  : nxs 2 191 73 [some (.inr (.inr 120)), some (.inl x1), some (.inl x2), some (.inl x3), some (.inl x4), some (.inl x5)] [.inl s0] (M0 L V b) = some (true, 78, [some (.inr (.inr 120)), some (.inl x1), some (.inl x2), some (.inl x3), some (.inl x4), some (.inl x5)], [.inl 1, .inl s0], M0 L V b) := by
  rfl

theorem B191_77 (L : Nat) (V : Mv) (b : Bool) (x1 : Int) (x2 : Int) (x3 : Int) (x4 : Int) (x5 : Int) (s0 : Int)  : nxs 1 191 77 [some (.inr (.inr 120)), some (.inl x1), some (.inl x2), some (.inl x3), some (.inl x4), some (.inl x5)] [.inl s0] (M0 L V b) = some (true, 78, [some (.inr (.inr 120)), some (.inl x1), some (.inl x2), some (.inl x3), some (.inl x4), some (.inl x5)], [.inl 0, .inl s0], M0 L V b) := by
  rfl

theorem B191_78 (L : Nat) (V : Mv) (b : Bool) (x1 : Int) (x2 : Int) (x3 : Int) (x4 : Int) (x5 : Int) (s0 : Int) (s1 : Int)  : nxs 4 191 78 [some (.inr (.inr 120)), some (.inl x1), some (.inl x2), some (.inl x3), some (.inl x4), some (.inl x5)] [.inl s1, .inl s0] (M0 L V b) = some (true, 49, [some (.inr (.inr 120)), some (.inl x1), some (.inl x2), some (.inl x3), some (.inl (s0 + s1)), some (.inl (x5 + 1))], [], M0 L V b) := by
  rfl

theorem B191_87 (L : Nat) (V : Mv) (b : Bool) (x1 : Int) (x2 : Int) (x3 : Int) (x4 : Int) (x5 : Int)  : nxs 1 191 87 [some (.inr (.inr 120)), some (.inl x1), some (.inl x2), some (.inl x3), some (.inl x4), some (.inl x5)] [] (M0 L V b) = some (true, 89, [some (.inr (.inr 120)), some (.inl x1), some (.inl x2), some (.inl x3), some (.inl x4), some (.inl x5)], [.inl x4], M0 L V b) := by
  rfl

-- 192: MendedOrNewModel.barCost(IIIZ)J
theorem B192_0 (L : Nat) (V : Mv) (b : Bool) (x1 : Int) (x2 : Int) (x3 : Int) (x4 : Int)  : nxs 3 192 0 [some (.inr (.inr 120)), some (.inl x1), some (.inl x2), some (.inl x3), some (.inl x4)] [] (M0 L V b) = some (true, 3, [some (.inr (.inr 120)), some (.inl x1), some (.inl x2), some (.inl x3), some (.inl x4)], [.inl x2, .inl x1, .inr (.inr 120)], M0 L V b) := by
  rfl

theorem B192_6 (L : Nat) (V : Mv) (b : Bool) (x1 : Int) (x2 : Int) (x3 : Int) (x4 : Int) (s0 : Int) (g0 : in32 s0) : nxs 1 192 6 [some (.inr (.inr 120)), some (.inl x1), some (.inl x2), some (.inl x3), some (.inl x4)] [.inl s0] (M0 L V b) = some (true, cond (!decide (s0 = 0)) 13 9, [some (.inr (.inr 120)), some (.inl x1), some (.inl x2), some (.inl x3), some (.inl x4)], [], M0 L V b) := by
  have f0 : r32 s0 = true := r32_of g0
  have hG : (r32 s0 && true) = true := an f0 rfl
  show some (r32 s0 && true, _) = _
  rw [hG]
  try rfl

theorem B192_9 (L : Nat) (V : Mv) (b : Bool) (x1 : Int) (x2 : Int) (x3 : Int) (x4 : Int)  : nxs 1 192 9 [some (.inr (.inr 120)), some (.inl x1), some (.inl x2), some (.inl x3), some (.inl x4)] [] (M0 L V b) = some (true, 12, [some (.inr (.inr 120)), some (.inl x1), some (.inl x2), some (.inl x3), some (.inl x4)], [.inr (.inl (-1))], M0 L V b) := by
  rfl

theorem B192_13 (L : Nat) (V : Mv) (b : Bool) (x1 : Int) (x2 : Int) (x3 : Int) (x4 : Int) (g0 : in32 x3) (g1 : 0 ≤ x1 ∧ x1 < 4) (g2 : in32 ((V 121 (x1).toNat) - 1)) : nxs 10 192 13 [some (.inr (.inr 120)), some (.inl x1), some (.inl x2), some (.inl x3), some (.inl x4)] [] (M0 L V b) = some (true, 25, [some (.inr (.inr 120)), some (.inl x1), some (.inl x2), some (.inl x3), some (.inl x4)], [.inr (.inl ((V 121 (x1).toNat) - 1)), .inr (.inl 1), .inr (.inl x3)], M0 L V b) := by
  have f0 : r32 x3 = true := r32_of g0
  have f1 : gX (M0 L V b) 121 1 x1 = true := gx_of rfl g1
  have f2 : r32 ((V 121 (x1).toNat) - 1) = true := r32_of g2
  have hG : (r32 x3 && (gX (M0 L V b) 121 1 x1 && (r32 ((V 121 (x1).toNat) - 1) && true))) = true := an f0 (an f1 (an f2 rfl))
  show some (r32 x3 && (gX (M0 L V b) 121 1 x1 && (r32 ((V 121 (x1).toNat) - 1) && true)), _) = _
  rw [hG]
  try rfl

theorem B192_28 (L : Nat) (V : Mv) (b : Bool) (x1 : Int) (x2 : Int) (x3 : Int) (x4 : Int) (s0 : Int) (g0 : in32 s0) : nxs 1 192 28 [some (.inr (.inr 120)), some (.inl x1), some (.inl x2), some (.inl x3), some (.inl x4)] [.inl s0] (M0 L V b) = some (true, cond (!decide (s0 = 0)) 35 31, [some (.inr (.inr 120)), some (.inl x1), some (.inl x2), some (.inl x3), some (.inl x4)], [], M0 L V b) := by
  have f0 : r32 s0 = true := r32_of g0
  have hG : (r32 s0 && true) = true := an f0 rfl
  show some (r32 s0 && true, _) = _
  rw [hG]
  try rfl

theorem B192_31 (L : Nat) (V : Mv) (b : Bool) (x1 : Int) (x2 : Int) (x3 : Int) (x4 : Int)  : nxs 1 192 31 [some (.inr (.inr 120)), some (.inl x1), some (.inl x2), some (.inl x3), some (.inl x4)] [] (M0 L V b) = some (true, 34, [some (.inr (.inr 120)), some (.inl x1), some (.inl x2), some (.inl x3), some (.inl x4)], [.inr (.inl (-2))], M0 L V b) := by
  rfl

theorem B192_35 (L : Nat) (V : Mv) (b : Bool) (x1 : Int) (x2 : Int) (x3 : Int) (x4 : Int)  : nxs 3 192 35 [some (.inr (.inr 120)), some (.inl x1), some (.inl x2), some (.inl x3), some (.inl x4)] [] (M0 L V b) = some (true, 38, [some (.inr (.inr 120)), some (.inl x1), some (.inl x2), some (.inl x3), some (.inl x4)], [.inl x3, .inl x2, .inr (.inr 120)], M0 L V b) := by
  rfl

theorem B192_41 (L : Nat) (V : Mv) (b : Bool) (x1 : Int) (x2 : Int) (x3 : Int) (x4 : Int)  : nxs 3 192 41 [some (.inr (.inr 120)), some (.inl x1), some (.inl x2), some (.inl x3), some (.inl x4)] [] (M0 L V b) = some (true, 44, [some (.inr (.inr 120)), some (.inl x1), some (.inl x2), some (.inl x3), some (.inl x4)], [.inl 4, .inl x1, .inr (.inr 120)], M0 L V b) := by
  rfl

theorem B192_47 (L : Nat) (V : Mv) (b : Bool) (x1 : Int) (x2 : Int) (x3 : Int) (x4 : Int) (s0 : Int) (g0 : in32 s0) : nxs 1 192 47 [some (.inr (.inr 120)), some (.inl x1), some (.inl x2), some (.inl x3), some (.inl x4)] [.inl s0] (M0 L V b) = some (true, cond (decide (s0 = 0)) 69 50, [some (.inr (.inr 120)), some (.inl x1), some (.inl x2), some (.inl x3), some (.inl x4)], [], M0 L V b) := by
  have f0 : r32 s0 = true := r32_of g0
  have hG : (r32 s0 && true) = true := an f0 rfl
  show some (r32 s0 && true, _) = _
  rw [hG]
  try rfl

theorem B192_50 (L : Nat) (V : Mv) (b : Bool) (x1 : Int) (x2 : Int) (x3 : Int) (x4 : Int) (g0 : in32 x4) : nxs 2 192 50 [some (.inr (.inr 120)), some (.inl x1), some (.inl x2), some (.inl x3), some (.inl x4)] [] (M0 L V b) = some (true, cond (decide (x4 = 0)) 62 55, [some (.inr (.inr 120)), some (.inl x1), some (.inl x2), some (.inl x3), some (.inl x4)], [], M0 L V b) := by
  have f0 : r32 x4 = true := r32_of g0
  have hG : (r32 x4 && true) = true := an f0 rfl
  show some (r32 x4 && true, _) = _
  rw [hG]
  try rfl

theorem B192_55 (L : Nat) (V : Mv) (b : Bool) (x1 : Int) (x2 : Int) (x3 : Int) (x4 : Int)  : nxs 3 192 55 [some (.inr (.inr 120)), some (.inl x1), some (.inl x2), some (.inl x3), some (.inl x4)] [] (M0 L V b) = some (true, 72, [some (.inr (.inr 120)), some (.inl x1), some (.inl x2), some (.inl x3), some (.inl x4)], [.inr (.inl (V 120 24))], M0 L V b) := by
  rfl

theorem B192_62 (L : Nat) (V : Mv) (b : Bool) (x1 : Int) (x2 : Int) (x3 : Int) (x4 : Int)  : nxs 3 192 62 [some (.inr (.inr 120)), some (.inl x1), some (.inl x2), some (.inl x3), some (.inl x4)] [] (M0 L V b) = some (true, 72, [some (.inr (.inr 120)), some (.inl x1), some (.inl x2), some (.inl x3), some (.inl x4)], [.inr (.inl (V 120 25))], M0 L V b) := by
  rfl

theorem B192_69 (L : Nat) (V : Mv) (b : Bool) (x1 : Int) (x2 : Int) (x3 : Int) (x4 : Int)  : nxs 1 192 69 [some (.inr (.inr 120)), some (.inl x1), some (.inl x2), some (.inl x3), some (.inl x4)] [] (M0 L V b) = some (true, 72, [some (.inr (.inr 120)), some (.inl x1), some (.inl x2), some (.inl x3), some (.inl x4)], [.inr (.inl (-3))], M0 L V b) := by
  rfl

-- 193: MendedOrNewModel.tryBar(II)V
theorem B193_0 (L : Nat) (V : Mv) (b : Bool) (x1 : Int) (x2 : Int)  : nxs 2 193 0 [some (.inr (.inr 120)), some (.inl x1), some (.inl x2), none] [] (M0 L V b) = some (true, 2, [some (.inr (.inr 120)), some (.inl x1), some (.inl x2), some (.inl 0)], [], M0 L V b) := by
  rfl

theorem B193_2 (L : Nat) (V : Mv) (b : Bool) (x1 : Int) (x2 : Int) (x3 : Int) (g0 : in32 x3) : nxs 3 193 2 [some (.inr (.inr 120)), some (.inl x1), some (.inl x2), some (.inl x3)] [] (M0 L V b) = some (true, cond (decide (8 ≤ x3)) 35 8, [some (.inr (.inr 120)), some (.inl x1), some (.inl x2), some (.inl x3)], [], M0 L V b) := by
  have f0 : (r32 x3 && r32 8) = true := rr32_of g0 (by decide)
  have hG : ((r32 x3 && r32 8) && true) = true := an f0 rfl
  show some ((r32 x3 && r32 8) && true, _) = _
  rw [hG]
  try rfl

theorem B193_8 (L : Nat) (V : Mv) (b : Bool) (x1 : Int) (x2 : Int) (x3 : Int) (g0 : in32 x3) (g1 : in32 x2) : nxs 8 193 8 [some (.inr (.inr 120)), some (.inl x1), some (.inl x2), some (.inl x3)] [] (M0 L V b) = some (true, cond (decide (x3 < x2)) 27 21, [some (.inr (.inr 120)), some (.inl x1), some (.inl x2), some (.inl x3)], [.inl (32 + x3), .inr (.inr 135)], M0 L V b) := by
  have f0 : (r32 x3 && r32 x2) = true := rr32_of g0 g1
  have hG : ((r32 x3 && r32 x2) && true) = true := an f0 rfl
  show some ((r32 x3 && r32 x2) && true, _) = _
  rw [hG]
  try rfl

theorem B193_21 (L : Nat) (V : Mv) (b : Bool) (x1 : Int) (x2 : Int) (x3 : Int) (s0 : Nat) (s1 : Int) (n_s0 : Nat) (t_s0 : TT L s0 = (1, n_s0)) : nxs 4 193 21 [some (.inr (.inr 120)), some (.inl x1), some (.inl x2), some (.inl x3)] [.inl s1, .inr (.inr s0)] (M0 L V b) = some (true, 28, [some (.inr (.inr 120)), some (.inl x1), some (.inl x2), some (.inl x3)], [.inl (x1 + 1), .inl s1, .inr (.inr s0)], M0 L V b) := by
  rfl

theorem B193_27 (L : Nat) (V : Mv) (b : Bool) (x1 : Int) (x2 : Int) (x3 : Int) (s0 : Nat) (s1 : Int) (n_s0 : Nat) (t_s0 : TT L s0 = (1, n_s0)) : nxs 1 193 27 [some (.inr (.inr 120)), some (.inl x1), some (.inl x2), some (.inl x3)] [.inl s1, .inr (.inr s0)] (M0 L V b) = some (true, 28, [some (.inr (.inr 120)), some (.inl x1), some (.inl x2), some (.inl x3)], [.inl 0, .inl s1, .inr (.inr s0)], M0 L V b) := by
  rfl

theorem B193_28 (L : Nat) (V : Mv) (b : Bool) (x1 : Int) (x2 : Int) (x3 : Int) (s0 : Nat) (s1 : Int) (s2 : Int) (n_s0 : Nat) (t_s0 : TT L s0 = (1, n_s0)) (g0 : 0 ≤ s1 ∧ s1 < (n_s0 : Int)) (z_s0 : s0 ≠ 0) : nxs 3 193 28 [some (.inr (.inr 120)), some (.inl x1), some (.inl x2), some (.inl x3)] [.inl s2, .inl s1, .inr (.inr s0)] (M0 L V b) = some (true, 2, [some (.inr (.inr 120)), some (.inl x1), some (.inl x2), some (.inl (x3 + 1))], [], M0 L (uV V s0 (s1).toNat s2) b) := by
  have f0 : (gX (M0 L V b) s0 1 s1 && !Nat.beq s0 0) = true := gs_of (gx_of (show aT _ _ = _ from t_s0) g0) z_s0
  have hG : ((gX (M0 L V b) s0 1 s1 && !Nat.beq s0 0) && true) = true := an f0 rfl
  show some ((gX (M0 L V b) s0 1 s1 && !Nat.beq s0 0) && true, _) = _
  rw [hG]
  try rfl

-- 194: MendedOrNewModel.bar(I)I
theorem B194_0 (L : Nat) (V : Mv) (b : Bool) (x1 : Int)  : nxs 1 194 0 [some (.inr (.inr 120)), some (.inl x1), none, none, none] [] (M0 L V b) = some (true, 1, [some (.inr (.inr 120)), some (.inl x1), none, none, none], [.inl x1], M0 L V b) := by
  rfl

theorem B194_4 (L : Nat) (V : Mv) (b : Bool) (x1 : Int) (s0 : Int) (g0 : in32 s0) : nxs 1 194 4 [some (.inr (.inr 120)), some (.inl x1), none, none, none] [.inl s0] (M0 L V b) = some (true, cond (!decide (s0 = 0)) 9 7, [some (.inr (.inr 120)), some (.inl x1), none, none, none], [], M0 L V b) := by
  have f0 : r32 s0 = true := r32_of g0
  have hG : (r32 s0 && true) = true := an f0 rfl
  show some (r32 s0 && true, _) = _
  rw [hG]
  try rfl

theorem B194_7 (L : Nat) (V : Mv) (b : Bool) (x1 : Int)  : nxs 1 194 7 [some (.inr (.inr 120)), some (.inl x1), none, none, none] [] (M0 L V b) = some (true, 8, [some (.inr (.inr 120)), some (.inl x1), none, none, none], [.inl (-1)], M0 L V b) := by
  rfl

theorem B194_9 (L : Nat) (V : Mv) (b : Bool) (x1 : Int)  : nxs 7 194 9 [some (.inr (.inr 120)), some (.inl x1), none, none, none] [] (M0 L V b) = some (true, 19, [some (.inr (.inr 120)), some (.inl x1), some (.inl (-9)), some (.inl 0), none], [], M0 L (uV V 120 28 0) b) := by
  rfl

theorem B194_19 (L : Nat) (V : Mv) (b : Bool) (x1 : Int) (x2 : Int) (x3 : Int) (g0 : in32 x3) : nxs 3 194 19 [some (.inr (.inr 120)), some (.inl x1), some (.inl x2), some (.inl x3), none] [] (M0 L V b) = some (true, cond (decide (4 ≤ x3)) 86 24, [some (.inr (.inr 120)), some (.inl x1), some (.inl x2), some (.inl x3), none], [], M0 L V b) := by
  have f0 : (r32 x3 && r32 4) = true := rr32_of g0 (by decide)
  have hG : ((r32 x3 && r32 4) && true) = true := an f0 rfl
  show some ((r32 x3 && r32 4) && true, _) = _
  rw [hG]
  try rfl

theorem B194_24 (L : Nat) (V : Mv) (b : Bool) (x1 : Int) (x2 : Int) (x3 : Int)  : nxs 2 194 24 [some (.inr (.inr 120)), some (.inl x1), some (.inl x2), some (.inl x3), none] [] (M0 L V b) = some (true, 27, [some (.inr (.inr 120)), some (.inl x1), some (.inl x2), some (.inl x3), some (.inl 1)], [], M0 L V b) := by
  rfl

theorem B194_27 (L : Nat) (V : Mv) (b : Bool) (x1 : Int) (x2 : Int) (x3 : Int) (x4 : Int) (g0 : 0 ≤ x1 ∧ x1 < 4) (g1 : in32 x4) (g2 : in32 (V 121 (x1).toNat)) : nxs 6 194 27 [some (.inr (.inr 120)), some (.inl x1), some (.inl x2), some (.inl x3), some (.inl x4)] [] (M0 L V b) = some (true, cond (decide (V 121 (x1).toNat ≤ x4)) 80 38, [some (.inr (.inr 120)), some (.inl x1), some (.inl x2), some (.inl x3), some (.inl x4)], [], M0 L V b) := by
  have f0 : gX (M0 L V b) 121 1 x1 = true := gx_of rfl g0
  have f1 : (r32 x4 && r32 (V 121 (x1).toNat)) = true := rr32_of g1 g2
  have hG : (gX (M0 L V b) 121 1 x1 && ((r32 x4 && r32 (V 121 (x1).toNat)) && true)) = true := an f0 (an f1 rfl)
  show some (gX (M0 L V b) 121 1 x1 && ((r32 x4 && r32 (V 121 (x1).toNat)) && true), _) = _
  rw [hG]
  try rfl

theorem B194_38 (L : Nat) (V : Mv) (b : Bool) (x1 : Int) (x2 : Int) (x3 : Int) (x4 : Int)  : nxs 3 194 38 [some (.inr (.inr 120)), some (.inl x1), some (.inl x2), some (.inl x3), some (.inl x4)] [] (M0 L V b) = some (true, 41, [some (.inr (.inr 120)), some (.inl x1), some (.inl x2), some (.inl x3), some (.inl x4)], [.inl x3, .inl x1, .inr (.inr 120)], M0 L V b) := by
  rfl

theorem B194_44 (L : Nat) (V : Mv) (b : Bool) (x1 : Int) (x2 : Int) (x3 : Int) (x4 : Int) (s0 : Int) (g0 : in32 s0) : nxs 1 194 44 [some (.inr (.inr 120)), some (.inl x1), some (.inl x2), some (.inl x3), some (.inl x4)] [.inl s0] (M0 L V b) = some (true, cond (decide (s0 = 0)) 80 47, [some (.inr (.inr 120)), some (.inl x1), some (.inl x2), some (.inl x3), some (.inl x4)], [], M0 L V b) := by
  have f0 : r32 s0 = true := r32_of g0
  have hG : (r32 s0 && true) = true := an f0 rfl
  show some (r32 s0 && true, _) = _
  rw [hG]
  try rfl

theorem B194_47 (L : Nat) (V : Mv) (b : Bool) (x1 : Int) (x2 : Int) (x3 : Int) (x4 : Int)  : nxs 3 194 47 [some (.inr (.inr 120)), some (.inl x1), some (.inl x2), some (.inl x3), some (.inl x4)] [] (M0 L V b) = some (true, 51, [some (.inr (.inr 120)), some (.inl x1), some (.inl x2), some (.inl x3), some (.inl x4)], [.inl x4, .inl x3, .inr (.inr 120)], M0 L V b) := by
  rfl

theorem B194_54 (L : Nat) (V : Mv) (b : Bool) (x1 : Int) (x2 : Int) (x3 : Int) (x4 : Int)  : nxs 2 194 54 [some (.inr (.inr 120)), some (.inl x1), some (.inl x2), some (.inl x3), some (.inl x4)] [] (M0 L V b) = some (true, 56, [some (.inr (.inr 120)), some (.inl x1), some (.inl x2), some (.inl x3), some (.inl x4)], [.inl x1, .inr (.inr 120)], M0 L V b) := by
  rfl

theorem B194_59 (L : Nat) (V : Mv) (b : Bool) (x1 : Int) (x2 : Int) (x3 : Int) (x4 : Int) (s0 : Int) (g0 : in32 s0) : nxs 1 194 59 [some (.inr (.inr 120)), some (.inl x1), some (.inl x2), some (.inl x3), some (.inl x4)] [.inl s0] (M0 L V b) = some (true, cond (decide (s0 = 0)) 72 62, [some (.inr (.inr 120)), some (.inl x1), some (.inl x2), some (.inl x3), some (.inl x4)], [], M0 L V b) := by
  have f0 : r32 s0 = true := r32_of g0
  have hG : (r32 s0 && true) = true := an f0 rfl
  show some (r32 s0 && true, _) = _
  rw [hG]
  try rfl

theorem B194_62 (L : Nat) (V : Mv) (b : Bool) (x1 : Int) (x2 : Int) (x3 : Int) (x4 : Int)  : nxs 6 194 62 [some (.inr (.inr 120)), some (.inl x1), some (.inl x2), some (.inl x3), some (.inl x4)] [] (M0 L V b) = some (true, 73, [some (.inr (.inr 120)), some (.inl x1), some (.inl x2), some (.inl x3), some (.inl x4)], [.inl ((10 * x3) + x4)], M0 L V b) := by
  rfl

theorem B194_72 (L : Nat) (V : Mv) (b : Bool) (x1 : Int) (x2 : Int) (x3 : Int) (x4 : Int)  : nxs 1 194 72 [some (.inr (.inr 120)), some (.inl x1), some (.inl x2), some (.inl x3), some (.inl x4)] [] (M0 L V b) = some (true, 73, [some (.inr (.inr 120)), some (.inl x1), some (.inl x2), some (.inl x3), some (.inl x4)], [.inl x2], M0 L V b) := by
  rfl

theorem B194_73 (L : Nat) (V : Mv) (b : Bool) (x1 : Int) (x2 : Int) (x3 : Int) (x4 : Int) (s0 : Int)  : nxs 3 194 73 [some (.inr (.inr 120)), some (.inl x1), some (.inl x2), some (.inl x3), some (.inl x4)] [.inl s0] (M0 L V b) = some (true, 27, [some (.inr (.inr 120)), some (.inl x1), some (.inl s0), some (.inl x3), some (.inl (x4 + 1))], [], M0 L V b) := by
  rfl

theorem B194_80 (L : Nat) (V : Mv) (b : Bool) (x1 : Int) (x2 : Int) (x3 : Int) (x4 : Int)  : nxs 2 194 80 [some (.inr (.inr 120)), some (.inl x1), some (.inl x2), some (.inl x3), some (.inl x4)] [] (M0 L V b) = some (true, 19, [some (.inr (.inr 120)), some (.inl x1), some (.inl x2), some (.inl (x3 + 1)), some (.inl x4)], [], M0 L V b) := by
  rfl

theorem B194_86 (L : Nat) (V : Mv) (b : Bool) (x1 : Int) (x2 : Int) (x3 : Int)  : nxs 1 194 86 [some (.inr (.inr 120)), some (.inl x1), some (.inl x2), some (.inl x3), none] [] (M0 L V b) = some (true, 87, [some (.inr (.inr 120)), some (.inl x1), some (.inl x2), some (.inl x3), none], [.inl x2], M0 L V b) := by
  rfl

-- 195: MendedOrNewModel.plan(IIIIIZ)J
theorem B195_0 (L : Nat) (V : Mv) (b : Bool) (x1 : Int) (x2 : Int) (x3 : Int) (x4 : Int) (x5 : Int) (x6 : Int)  : nxs 3 195 0 [some (.inr (.inr 120)), some (.inl x1), some (.inl x2), some (.inl x3), some (.inl x4), some (.inl x5), some (.inl x6)] [] (M0 L V b) = some (true, 3, [some (.inr (.inr 120)), some (.inl x1), some (.inl x2), some (.inl x3), some (.inl x4), some (.inl x5), some (.inl x6)], [.inl x2, .inl x1, .inr (.inr 120)], M0 L V b) := by
  rfl

theorem B195_6 (L : Nat) (V : Mv) (b : Bool) (x1 : Int) (x2 : Int) (x3 : Int) (x4 : Int) (x5 : Int) (x6 : Int) (s0 : Int) (g0 : in32 s0) : nxs 1 195 6 [some (.inr (.inr 120)), some (.inl x1), some (.inl x2), some (.inl x3), some (.inl x4), some (.inl x5), some (.inl x6)] [.inl s0] (M0 L V b) = some (true, cond (!decide (s0 = 0)) 13 9, [some (.inr (.inr 120)), some (.inl x1), some (.inl x2), some (.inl x3), some (.inl x4), some (.inl x5), some (.inl x6)], [], M0 L V b) := by
  have f0 : r32 s0 = true := r32_of g0
  have hG : (r32 s0 && true) = true := an f0 rfl
  show some (r32 s0 && true, _) = _
  rw [hG]
  try rfl

theorem B195_9 (L : Nat) (V : Mv) (b : Bool) (x1 : Int) (x2 : Int) (x3 : Int) (x4 : Int) (x5 : Int) (x6 : Int)  : nxs 1 195 9 [some (.inr (.inr 120)), some (.inl x1), some (.inl x2), some (.inl x3), some (.inl x4), some (.inl x5), some (.inl x6)] [] (M0 L V b) = some (true, 12, [some (.inr (.inr 120)), some (.inl x1), some (.inl x2), some (.inl x3), some (.inl x4), some (.inl x5), some (.inl x6)], [.inr (.inl (-1))], M0 L V b) := by
  rfl

theorem B195_13 (L : Nat) (V : Mv) (b : Bool) (x1 : Int) (x2 : Int) (x3 : Int) (x4 : Int) (x5 : Int) (x6 : Int)  : nxs 3 195 13 [some (.inr (.inr 120)), some (.inl x1), some (.inl x2), some (.inl x3), some (.inl x4), some (.inl x5), some (.inl x6)] [] (M0 L V b) = some (true, 18, [some (.inr (.inr 120)), some (.inl x1), some (.inl x2), some (.inl x3), some (.inl x4), some (.inl x5), some (.inl x6)], [.inl x5, .inl x4, .inl x3], M0 L V b) := by
  rfl

theorem B195_21 (L : Nat) (V : Mv) (b : Bool) (x1 : Int) (x2 : Int) (x3 : Int) (x4 : Int) (x5 : Int) (x6 : Int) (s0 : Int) (g0 : in32 s0) : nxs 1 195 21 [some (.inr (.inr 120)), some (.inl x1), some (.inl x2), some (.inl x3), some (.inl x4), some (.inl x5), some (.inl x6)] [.inl s0] (M0 L V b) = some (true, cond (!decide (s0 = 0)) 28 24, [some (.inr (.inr 120)), some (.inl x1), some (.inl x2), some (.inl x3), some (.inl x4), some (.inl x5), some (.inl x6)], [], M0 L V b) := by
  have f0 : r32 s0 = true := r32_of g0
  have hG : (r32 s0 && true) = true := an f0 rfl
  show some (r32 s0 && true, _) = _
  rw [hG]
  try rfl

theorem B195_24 (L : Nat) (V : Mv) (b : Bool) (x1 : Int) (x2 : Int) (x3 : Int) (x4 : Int) (x5 : Int) (x6 : Int)  : nxs 1 195 24 [some (.inr (.inr 120)), some (.inl x1), some (.inl x2), some (.inl x3), some (.inl x4), some (.inl x5), some (.inl x6)] [] (M0 L V b) = some (true, 27, [some (.inr (.inr 120)), some (.inl x1), some (.inl x2), some (.inl x3), some (.inl x4), some (.inl x5), some (.inl x6)], [.inr (.inl (-2))], M0 L V b) := by
  rfl

theorem B195_28 (L : Nat) (V : Mv) (b : Bool) (x1 : Int) (x2 : Int) (x3 : Int) (x4 : Int) (x5 : Int) (x6 : Int)  : nxs 6 195 28 [some (.inr (.inr 120)), some (.inl x1), some (.inl x2), some (.inl x3), some (.inl x4), some (.inl x5), some (.inl x6)] [] (M0 L V b) = some (true, 36, [some (.inr (.inr 120)), some (.inl x1), some (.inl x2), some (.inl x3), some (.inl x4), some (.inl x5), some (.inl x6)], [.inl x5, .inl x4, .inl x3, .inl x2, .inl x1, .inr (.inr 120)], M0 L V b) := by
  rfl

theorem B195_39 (L : Nat) (V : Mv) (b : Bool) (x1 : Int) (x2 : Int) (x3 : Int) (x4 : Int) (x5 : Int) (x6 : Int) (s0 : Int)  : nxs 1 195 39 [some (.inr (.inr 120)), some (.inl x1), some (.inl x2), some (.inl x3), some (.inl x4), some (.inl x5), some (.inl x6)] [.inr (.inl s0)] (M0 L V b) = some (true, 40, [some (.inr (.inr 120)), some (.inl x1), some (.inl x2), some (.inl x3), some (.inl x4), some (.inl x5), some (.inl x6)], [.inl x3, .inr (.inl s0)], M0 L V b) := by
  rfl

theorem B195_43 (L : Nat) (V : Mv) (b : Bool) (x1 : Int) (x2 : Int) (x3 : Int) (x4 : Int) (x5 : Int) (x6 : Int) (s0 : Int) (s1 : Int)  : nxs 1 195 43 [some (.inr (.inr 120)), some (.inl x1), some (.inl x2), some (.inl x3), some (.inl x4), some (.inl x5), some (.inl x6)] [.inr (.inl s1), .inr (.inl s0)] (M0 L V b) = some (true, 45, [some (.inr (.inr 120)), some (.inl x1), some (.inl x2), some (.inl x3), some (.inl x4), some (.inl x5), some (.inl x6)], [.inl x6, .inr (.inl s1), .inr (.inl s0)], M0 L V b) := by
  rfl

-- 196: MendedOrNewModel.isPlan(III)Z
theorem B196_0 (L : Nat) (V : Mv) (b : Bool) (x0 : Int) (x1 : Int) (x2 : Int) (g0 : in32 x0) : nxs 4 196 0 [some (.inl x0), some (.inl x1), some (.inl x2)] [] (M0 L V b) = some (true, 6, [some (.inl x0), some (.inl x1), some (.inl x2)], [.inr (.inl 8), .inr (.inl 1), .inr (.inl x0)], M0 L V b) := by
  have f0 : r32 x0 = true := r32_of g0
  have hG : (r32 x0 && true) = true := an f0 rfl
  show some (r32 x0 && true, _) = _
  rw [hG]
  try rfl

theorem B196_9 (L : Nat) (V : Mv) (b : Bool) (x0 : Int) (x1 : Int) (x2 : Int) (s0 : Int) (g0 : in32 s0) : nxs 1 196 9 [some (.inl x0), some (.inl x1), some (.inl x2)] [.inl s0] (M0 L V b) = some (true, cond (decide (s0 = 0)) 40 12, [some (.inl x0), some (.inl x1), some (.inl x2)], [], M0 L V b) := by
  have f0 : r32 s0 = true := r32_of g0
  have hG : (r32 s0 && true) = true := an f0 rfl
  show some (r32 s0 && true, _) = _
  rw [hG]
  try rfl

theorem B196_12 (L : Nat) (V : Mv) (b : Bool) (x0 : Int) (x1 : Int) (x2 : Int) (g0 : in32 x1) : nxs 4 196 12 [some (.inl x0), some (.inl x1), some (.inl x2)] [] (M0 L V b) = some (true, 18, [some (.inl x0), some (.inl x1), some (.inl x2)], [.inr (.inl 8), .inr (.inl 1), .inr (.inl x1)], M0 L V b) := by
  have f0 : r32 x1 = true := r32_of g0
  have hG : (r32 x1 && true) = true := an f0 rfl
  show some (r32 x1 && true, _) = _
  rw [hG]
  try rfl

theorem B196_21 (L : Nat) (V : Mv) (b : Bool) (x0 : Int) (x1 : Int) (x2 : Int) (s0 : Int) (g0 : in32 s0) : nxs 1 196 21 [some (.inl x0), some (.inl x1), some (.inl x2)] [.inl s0] (M0 L V b) = some (true, cond (decide (s0 = 0)) 40 24, [some (.inl x0), some (.inl x1), some (.inl x2)], [], M0 L V b) := by
  have f0 : r32 s0 = true := r32_of g0
  have hG : (r32 s0 && true) = true := an f0 rfl
  show some (r32 s0 && true, _) = _
  rw [hG]
  try rfl

theorem B196_24 (L : Nat) (V : Mv) (b : Bool) (x0 : Int) (x1 : Int) (x2 : Int) (g0 : in32 x2) : nxs 4 196 24 [some (.inl x0), some (.inl x1), some (.inl x2)] [] (M0 L V b) = some (true, 30, [some (.inl x0), some (.inl x1), some (.inl x2)], [.inr (.inl 9), .inr (.inl 0), .inr (.inl x2)], M0 L V b) := by
  have f0 : r32 x2 = true := r32_of g0
  have hG : (r32 x2 && true) = true := an f0 rfl
  show some (r32 x2 && true, _) = _
  rw [hG]
  try rfl

theorem B196_33 (L : Nat) (V : Mv) (b : Bool) (x0 : Int) (x1 : Int) (x2 : Int) (s0 : Int) (g0 : in32 s0) : nxs 1 196 33 [some (.inl x0), some (.inl x1), some (.inl x2)] [.inl s0] (M0 L V b) = some (true, cond (decide (s0 = 0)) 40 36, [some (.inl x0), some (.inl x1), some (.inl x2)], [], M0 L V b) := by
  have f0 : r32 s0 = true := r32_of g0
  have hG : (r32 s0 && true) = true := an f0 rfl
  show some (r32 s0 && true, _) = _
  rw [hG]
  try rfl

theorem B196_36 (L : Nat) (V : Mv) (b : Bool) (x0 : Int) (x1 : Int) (x2 : Int)  : nxs 2 196 36 [some (.inl x0), some (.inl x1), some (.inl x2)] [] (M0 L V b) = some (true, 41, [some (.inl x0), some (.inl x1), some (.inl x2)], [.inl 1], M0 L V b) := by
  rfl

theorem B196_40 (L : Nat) (V : Mv) (b : Bool) (x0 : Int) (x1 : Int) (x2 : Int)  : nxs 1 196 40 [some (.inl x0), some (.inl x1), some (.inl x2)] [] (M0 L V b) = some (true, 41, [some (.inl x0), some (.inl x1), some (.inl x2)], [.inl 0], M0 L V b) := by
  rfl

-- 197: MendedOrNewModel.layPlan(IIIII)J
theorem B197_0 (L : Nat) (V : Mv) (b : Bool) (x1 : Int) (x2 : Int) (x3 : Int) (x4 : Int) (x5 : Int)  : nxs 2 197 0 [some (.inr (.inr 120)), some (.inl x1), some (.inl x2), some (.inl x3), some (.inl x4), some (.inl x5), none, none, none, none, none, none, none, none] [] (M0 L V b) = some (true, 3, [some (.inr (.inr 120)), some (.inl x1), some (.inl x2), some (.inl x3), some (.inl x4), some (.inl x5), some (.inl 0), none, none, none, none, none, none, none], [], M0 L V b) := by
  rfl

theorem B197_3 (L : Nat) (V : Mv) (b : Bool) (x1 : Int) (x2 : Int) (x3 : Int) (x4 : Int) (x5 : Int) (x6 : Int) (g0 : in32 x6) : nxs 3 197 3 [some (.inr (.inr 120)), some (.inl x1), some (.inl x2), some (.inl x3), some (.inl x4), some (.inl x5), some (.inl x6), none, none, none, none, none, none, none] [] (M0 L V b) = some (true, cond (decide (8 ≤ x6)) 24 10, [some (.inr (.inr 120)), some (.inl x1), some (.inl x2), some (.inl x3), some (.inl x4), some (.inl x5), some (.inl x6), none, none, none, none, none, none, none], [], M0 L V b) := by
  have f0 : (r32 x6 && r32 8) = true := rr32_of g0 (by decide)
  have hG : ((r32 x6 && r32 8) && true) = true := an f0 rfl
  show some ((r32 x6 && r32 8) && true, _) = _
  rw [hG]
  try rfl

theorem B197_10 (L : Nat) (V : Mv) (b : Bool) (x1 : Int) (x2 : Int) (x3 : Int) (x4 : Int) (x5 : Int) (x6 : Int) (g0 : 0 ≤ x6 ∧ x6 < 8) : nxs 7 197 10 [some (.inr (.inr 120)), some (.inl x1), some (.inl x2), some (.inl x3), some (.inl x4), some (.inl x5), some (.inl x6), none, none, none, none, none, none, none] [] (M0 L V b) = some (true, 3, [some (.inr (.inr 120)), some (.inl x1), some (.inl x2), some (.inl x3), some (.inl x4), some (.inl x5), some (.inl (x6 + 1)), none, none, none, none, none, none, none], [], M0 L (uV V 140 (x6).toNat 0) b) := by
  have f0 : (gX (M0 L V b) 140 2 x6 && !Nat.beq 140 0) = true := gs_of (gx_of rfl g0) (by decide)
  have hG : ((gX (M0 L V b) 140 2 x6 && !Nat.beq 140 0) && true) = true := an f0 rfl
  show some ((gX (M0 L V b) 140 2 x6 && !Nat.beq 140 0) && true, _) = _
  rw [hG]
  try rfl

theorem B197_24 (L : Nat) (V : Mv) (b : Bool) (x1 : Int) (x2 : Int) (x3 : Int) (x4 : Int) (x5 : Int) (x6 : Int)  : nxs 6 197 24 [some (.inr (.inr 120)), some (.inl x1), some (.inl x2), some (.inl x3), some (.inl x4), some (.inl x5), some (.inl x6), none, none, none, none, none, none, none] [] (M0 L V b) = some (true, 32, [some (.inr (.inr 120)), some (.inl x1), some (.inl x2), some (.inl x3), some (.inl x4), some (.inl x5), some (.inr (.inl 1)), none, some (.inl (x3 - 1)), none, none, none, none, none], [], M0 L V b) := by
  rfl

theorem B197_32 (L : Nat) (V : Mv) (b : Bool) (x1 : Int) (x2 : Int) (x3 : Int) (x4 : Int) (x5 : Int) (x6 : Int) (x8 : Int) (g0 : in32 x8) : nxs 2 197 32 [some (.inr (.inr 120)), some (.inl x1), some (.inl x2), some (.inl x3), some (.inl x4), some (.inl x5), some (.inr (.inl x6)), none, some (.inl x8), none, none, none, none, none] [] (M0 L V b) = some (true, cond (decide (x8 < 0)) 295 37, [some (.inr (.inr 120)), some (.inl x1), some (.inl x2), some (.inl x3), some (.inl x4), some (.inl x5), some (.inr (.inl x6)), none, some (.inl x8), none, none, none, none, none], [], M0 L V b) := by
  have f0 : r32 x8 = true := r32_of g0
  have hG : (r32 x8 && true) = true := an f0 rfl
  show some (r32 x8 && true, _) = _
  rw [hG]
  try rfl

theorem B197_37 (L : Nat) (V : Mv) (b : Bool) (x1 : Int) (x2 : Int) (x3 : Int) (x4 : Int) (x5 : Int) (x6 : Int) (x8 : Int)  : nxs 6 197 37 [some (.inr (.inr 120)), some (.inl x1), some (.inl x2), some (.inl x3), some (.inl x4), some (.inl x5), some (.inr (.inl x6)), none, some (.inl x8), none, none, none, none, none] [] (M0 L V b) = some (true, 48, [some (.inr (.inr 120)), some (.inl x1), some (.inl x2), some (.inl x3), some (.inl x4), some (.inl x5), some (.inr (.inl (x6 * 10))), none, some (.inl x8), some (.inl 0), none, none, none, none], [], M0 L V b) := by
  rfl

theorem B197_48 (L : Nat) (V : Mv) (b : Bool) (x1 : Int) (x2 : Int) (x3 : Int) (x4 : Int) (x5 : Int) (x6 : Int) (x8 : Int) (x9 : Int) (g0 : 0 ≤ x1 ∧ x1 < 4) (g1 : in32 x9) (g2 : in32 (V 121 (x1).toNat)) : nxs 6 197 48 [some (.inr (.inr 120)), some (.inl x1), some (.inl x2), some (.inl x3), some (.inl x4), some (.inl x5), some (.inr (.inl x6)), none, some (.inl x8), some (.inl x9), none, none, none, none] [] (M0 L V b) = some (true, cond (decide (V 121 (x1).toNat ≤ x9)) 259 59, [some (.inr (.inr 120)), some (.inl x1), some (.inl x2), some (.inl x3), some (.inl x4), some (.inl x5), some (.inr (.inl x6)), none, some (.inl x8), some (.inl x9), none, none, none, none], [], M0 L V b) := by
  have f0 : gX (M0 L V b) 121 1 x1 = true := gx_of rfl g0
  have f1 : (r32 x9 && r32 (V 121 (x1).toNat)) = true := rr32_of g1 g2
  have hG : (gX (M0 L V b) 121 1 x1 && ((r32 x9 && r32 (V 121 (x1).toNat)) && true)) = true := an f0 (an f1 rfl)
  show some (gX (M0 L V b) 121 1 x1 && ((r32 x9 && r32 (V 121 (x1).toNat)) && true), _) = _
  rw [hG]
  try rfl

theorem B197_59 (L : Nat) (V : Mv) (b : Bool) (x1 : Int) (x2 : Int) (x3 : Int) (x4 : Int) (x5 : Int) (x6 : Int) (x8 : Int) (x9 : Int)  : nxs 7 197 59 [some (.inr (.inr 120)), some (.inl x1), some (.inl x2), some (.inl x3), some (.inl x4), some (.inl x5), some (.inr (.inl x6)), none, some (.inl x8), some (.inl x9), none, none, none, none] [] (M0 L V b) = some (true, 71, [some (.inr (.inr 120)), some (.inl x1), some (.inl x2), some (.inl x3), some (.inl x4), some (.inl x5), some (.inr (.inl x6)), none, some (.inl x8), some (.inl x9), none, none, none, none], [.inr (.inl x6), .inl x9, .inl x1, .inr (.inr 120), .inl x9, .inr (.inr 141)], M0 L V b) := by
  rfl

theorem B197_74 (L : Nat) (V : Mv) (b : Bool) (x1 : Int) (x2 : Int) (x3 : Int) (x4 : Int) (x5 : Int) (x6 : Int) (x8 : Int) (x9 : Int) (s1 : Int) (s2 : Int) (g0 : 0 ≤ s1 ∧ s1 < 8) (g1 : in32 x9) (g2 : in32 x2) : nxs 5 197 74 [some (.inr (.inr 120)), some (.inl x1), some (.inl x2), some (.inl x3), some (.inl x4), some (.inl x5), some (.inr (.inl x6)), none, some (.inl x8), some (.inl x9), none, none, none, none] [.inr (.inl s2), .inl s1, .inr (.inr 119)] (M0 L V b) = some (true, cond (!decide (x9 = x2)) 86 82, [some (.inr (.inr 120)), some (.inl x1), some (.inl x2), some (.inl x3), some (.inl x4), some (.inl x5), some (.inr (.inl x6)), none, some (.inl x8), some (.inl x9), none, none, none, none], [.inr (.inr 120)], M0 L (uV V 119 (s1).toNat s2) b) := by
  have f0 : (gX (M0 L V b) 119 2 s1 && !Nat.beq 119 0) = true := gs_of (gx_of rfl g0) (by decide)
  have f1 : (r32 x9 && r32 x2) = true := rr32_of g1 g2
  have hG : ((gX (M0 L V b) 119 2 s1 && !Nat.beq 119 0) && ((r32 x9 && r32 x2) && true)) = true := an f0 (an f1 rfl)
  show some ((gX (M0 L V b) 119 2 s1 && !Nat.beq 119 0) && ((r32 x9 && r32 x2) && true), _) = _
  rw [hG]
  try rfl

theorem B197_82 (L : Nat) (V : Mv) (b : Bool) (x1 : Int) (x2 : Int) (x3 : Int) (x4 : Int) (x5 : Int) (x6 : Int) (x8 : Int) (x9 : Int)  : nxs 2 197 82 [some (.inr (.inr 120)), some (.inl x1), some (.inl x2), some (.inl x3), some (.inl x4), some (.inl x5), some (.inr (.inl x6)), none, some (.inl x8), some (.inl x9), none, none, none, none] [.inr (.inr 120)] (M0 L V b) = some (true, 90, [some (.inr (.inr 120)), some (.inl x1), some (.inl x2), some (.inl x3), some (.inl x4), some (.inl x5), some (.inr (.inl x6)), none, some (.inl x8), some (.inl x9), none, none, none, none], [.inl 0, .inr (.inr 120)], M0 L V b) := by
  rfl

theorem B197_86 (L : Nat) (V : Mv) (b : Bool) (x1 : Int) (x2 : Int) (x3 : Int) (x4 : Int) (x5 : Int) (x6 : Int) (x8 : Int) (x9 : Int)  : nxs 2 197 86 [some (.inr (.inr 120)), some (.inl x1), some (.inl x2), some (.inl x3), some (.inl x4), some (.inl x5), some (.inr (.inl x6)), none, some (.inl x8), some (.inl x9), none, none, none, none] [.inr (.inr 120)] (M0 L V b) = some (true, 90, [some (.inr (.inr 120)), some (.inl x1), some (.inl x2), some (.inl x3), some (.inl x4), some (.inl x5), some (.inr (.inl x6)), none, some (.inl x8), some (.inl x9), none, none, none, none], [.inl (V 120 31), .inr (.inr 120)], M0 L V b) := by
  rfl

theorem B197_90 (L : Nat) (V : Mv) (b : Bool) (x1 : Int) (x2 : Int) (x3 : Int) (x4 : Int) (x5 : Int) (x6 : Int) (x8 : Int) (x9 : Int) (s1 : Int)  : nxs 3 197 90 [some (.inr (.inr 120)), some (.inl x1), some (.inl x2), some (.inl x3), some (.inl x4), some (.inl x5), some (.inr (.inl x6)), none, some (.inl x8), some (.inl x9), none, none, none, none] [.inl s1, .inr (.inr 120)] (M0 L V b) = some (true, 96, [some (.inr (.inr 120)), some (.inl x1), some (.inl x2), some (.inl x3), some (.inl x4), some (.inl x5), some (.inr (.inl x6)), none, some (.inl x8), some (.inl x9), some (.inl 0), none, none, none], [], M0 L (uV V 120 31 s1) b) := by
  rfl

theorem B197_96 (L : Nat) (V : Mv) (b : Bool) (x1 : Int) (x2 : Int) (x3 : Int) (x4 : Int) (x5 : Int) (x6 : Int) (x8 : Int) (x9 : Int) (x10 : Int) (g0 : in32 x10) : nxs 3 197 96 [some (.inr (.inr 120)), some (.inl x1), some (.inl x2), some (.inl x3), some (.inl x4), some (.inl x5), some (.inr (.inl x6)), none, some (.inl x8), some (.inl x9), some (.inl x10), none, none, none] [] (M0 L V b) = some (true, cond (decide (4 ≤ x10)) 253 102, [some (.inr (.inr 120)), some (.inl x1), some (.inl x2), some (.inl x3), some (.inl x4), some (.inl x5), some (.inr (.inl x6)), none, some (.inl x8), some (.inl x9), some (.inl x10), none, none, none], [], M0 L V b) := by
  have f0 : (r32 x10 && r32 4) = true := rr32_of g0 (by decide)
  have hG : ((r32 x10 && r32 4) && true) = true := an f0 rfl
  show some ((r32 x10 && r32 4) && true, _) = _
  rw [hG]
  try rfl

theorem B197_102 (L : Nat) (V : Mv) (b : Bool) (x1 : Int) (x2 : Int) (x3 : Int) (x4 : Int) (x5 : Int) (x6 : Int) (x8 : Int) (x9 : Int) (x10 : Int) (g0 : in32 x8) (g1 : in32 x4) (g2 : ¬ x4 = 0) (g3 : in32 (Int.tmod x8 x4)) : nxs 4 197 102 [some (.inr (.inr 120)), some (.inl x1), some (.inl x2), some (.inl x3), some (.inl x4), some (.inl x5), some (.inr (.inl x6)), none, some (.inl x8), some (.inl x9), some (.inl x10), none, none, none] [] (M0 L V b) = some (true, cond (!decide (Int.tmod x8 x4 = 0)) 253 110, [some (.inr (.inr 120)), some (.inl x1), some (.inl x2), some (.inl x3), some (.inl x4), some (.inl x5), some (.inr (.inl x6)), none, some (.inl x8), some (.inl x9), some (.inl x10), none, none, none], [], M0 L V b) := by
  have f0 : gD x8 x4 = true := gD_of g0 g1 g2
  have f1 : r32 (Int.tmod x8 x4) = true := r32_of g3
  have hG : (gD x8 x4 && (r32 (Int.tmod x8 x4) && true)) = true := an f0 (an f1 rfl)
  show some (gD x8 x4 && (r32 (Int.tmod x8 x4) && true), _) = _
  rw [hG]
  try rfl

theorem B197_110 (L : Nat) (V : Mv) (b : Bool) (x1 : Int) (x2 : Int) (x3 : Int) (x4 : Int) (x5 : Int) (x6 : Int) (x8 : Int) (x9 : Int) (x10 : Int) (g0 : 0 ≤ (4 * x1) + x10 ∧ (4 * x1) + x10 < 16) (g1 : in32 (V 126 ((4 * x1) + x10).toNat)) : nxs 10 197 110 [some (.inr (.inr 120)), some (.inl x1), some (.inl x2), some (.inl x3), some (.inl x4), some (.inl x5), some (.inr (.inl x6)), none, some (.inl x8), some (.inl x9), some (.inl x10), none, none, none] [] (M0 L V b) = some (true, cond (decide (V 126 ((4 * x1) + x10).toNat = (-9))) 247 126, [some (.inr (.inr 120)), some (.inl x1), some (.inl x2), some (.inl x3), some (.inl x4), some (.inl x5), some (.inr (.inl x6)), none, some (.inl x8), some (.inl x9), some (.inl x10), none, none, none], [], M0 L V b) := by
  have f0 : gX (M0 L V b) 126 1 ((4 * x1) + x10) = true := gx_of rfl g0
  have f1 : (r32 (V 126 ((4 * x1) + x10).toNat) && r32 (-9)) = true := rr32_of g1 (by decide)
  have hG : (gX (M0 L V b) 126 1 ((4 * x1) + x10) && ((r32 (V 126 ((4 * x1) + x10).toNat) && r32 (-9)) && true)) = true := an f0 (an f1 rfl)
  show some (gX (M0 L V b) 126 1 ((4 * x1) + x10) && ((r32 (V 126 ((4 * x1) + x10).toNat) && r32 (-9)) && true), _) = _
  rw [hG]
  try rfl

theorem B197_126 (L : Nat) (V : Mv) (b : Bool) (x1 : Int) (x2 : Int) (x3 : Int) (x4 : Int) (x5 : Int) (x6 : Int) (x8 : Int) (x9 : Int) (x10 : Int) (g0 : 0 ≤ (4 * x1) + x10 ∧ (4 * x1) + x10 < 16) (g1 : in32 ((V 127 ((4 * x1) + x10).toNat) - (x8 * x5))) : nxs 15 197 126 [some (.inr (.inr 120)), some (.inl x1), some (.inl x2), some (.inl x3), some (.inl x4), some (.inl x5), some (.inr (.inl x6)), none, some (.inl x8), some (.inl x9), some (.inl x10), none, none, none] [] (M0 L V b) = some (true, cond (decide (0 ≤ (V 127 ((4 * x1) + x10).toNat) - (x8 * x5))) 154 150, [some (.inr (.inr 120)), some (.inl x1), some (.inl x2), some (.inl x3), some (.inl x4), some (.inl x5), some (.inr (.inl x6)), none, some (.inl x8), some (.inl x9), some (.inl x10), some (.inl ((V 127 ((4 * x1) + x10).toNat) - (x8 * x5))), none, none], [], M0 L V b) := by
  have f0 : gX (M0 L V b) 127 1 ((4 * x1) + x10) = true := gx_of rfl g0
  have f1 : r32 ((V 127 ((4 * x1) + x10).toNat) - (x8 * x5)) = true := r32_of g1
  have hG : (gX (M0 L V b) 127 1 ((4 * x1) + x10) && (r32 ((V 127 ((4 * x1) + x10).toNat) - (x8 * x5)) && true)) = true := an f0 (an f1 rfl)
  show some (gX (M0 L V b) 127 1 ((4 * x1) + x10) && (r32 ((V 127 ((4 * x1) + x10).toNat) - (x8 * x5)) && true), _) = _
  rw [hG]
  try rfl

theorem B197_150 (L : Nat) (V : Mv) (b : Bool) (x1 : Int) (x2 : Int) (x3 : Int) (x4 : Int) (x5 : Int) (x6 : Int) (x8 : Int) (x9 : Int) (x10 : Int) (x11 : Int)  : nxs 2 197 150 [some (.inr (.inr 120)), some (.inl x1), some (.inl x2), some (.inl x3), some (.inl x4), some (.inl x5), some (.inr (.inl x6)), none, some (.inl x8), some (.inl x9), some (.inl x10), some (.inl x11), none, none] [] (M0 L V b) = some (true, 156, [some (.inr (.inr 120)), some (.inl x1), some (.inl x2), some (.inl x3), some (.inl x4), some (.inl x5), some (.inr (.inl x6)), none, some (.inl x8), some (.inl x9), some (.inl x10), some (.inl x11), none, none], [.inl 0], M0 L V b) := by
  rfl

theorem B197_154 (L : Nat) (V : Mv) (b : Bool) (x1 : Int) (x2 : Int) (x3 : Int) (x4 : Int) (x5 : Int) (x6 : Int) (x8 : Int) (x9 : Int) (x10 : Int) (x11 : Int)  : nxs 1 197 154 [some (.inr (.inr 120)), some (.inl x1), some (.inl x2), some (.inl x3), some (.inl x4), some (.inl x5), some (.inr (.inl x6)), none, some (.inl x8), some (.inl x9), some (.inl x10), some (.inl x11), none, none] [] (M0 L V b) = some (true, 156, [some (.inr (.inr 120)), some (.inl x1), some (.inl x2), some (.inl x3), some (.inl x4), some (.inl x5), some (.inr (.inl x6)), none, some (.inl x8), some (.inl x9), some (.inl x10), some (.inl x11), none, none], [.inl x11], M0 L V b) := by
  rfl

theorem B197_156 (L : Nat) (V : Mv) (b : Bool) (x1 : Int) (x2 : Int) (x3 : Int) (x4 : Int) (x5 : Int) (x6 : Int) (x8 : Int) (x9 : Int) (x10 : Int) (x11 : Int) (s0 : Int) (g0 : in32 s0) (g1 : 0 ≤ (4 * x1) + x10 ∧ (4 * x1) + x10 < 16) : nxs 14 197 156 [some (.inr (.inr 120)), some (.inl x1), some (.inl x2), some (.inl x3), some (.inl x4), some (.inl x5), some (.inr (.inl x6)), none, some (.inl x8), some (.inl x9), some (.inl x10), some (.inl x11), none, none] [.inl s0] (M0 L V b) = some (true, 175, [some (.inr (.inr 120)), some (.inl x1), some (.inl x2), some (.inl x3), some (.inl x4), some (.inl x5), some (.inr (.inl x6)), none, some (.inl x8), some (.inl x9), some (.inl x10), some (.inl x11), none, none], [.inr (.inl x6), .inl (V 126 ((4 * x1) + x10).toNat), .inl x1, .inr (.inr 120), .inr (.inl (s0 * x6))], M0 L V b) := by
  have f0 : r32 s0 = true := r32_of g0
  have f1 : gX (M0 L V b) 126 1 ((4 * x1) + x10) = true := gx_of rfl g1
  have hG : (r32 s0 && (gX (M0 L V b) 126 1 ((4 * x1) + x10) && true)) = true := an f0 (an f1 rfl)
  show some (r32 s0 && (gX (M0 L V b) 126 1 ((4 * x1) + x10) && true), _) = _
  rw [hG]
  try rfl

theorem B197_178 (L : Nat) (V : Mv) (b : Bool) (x1 : Int) (x2 : Int) (x3 : Int) (x4 : Int) (x5 : Int) (x6 : Int) (x8 : Int) (x9 : Int) (x10 : Int) (x11 : Int) (s0 : Int) (s1 : Int) (g0 : in32 x9) (g1 : in32 x2) : nxs 6 197 178 [some (.inr (.inr 120)), some (.inl x1), some (.inl x2), some (.inl x3), some (.inl x4), some (.inl x5), some (.inr (.inl x6)), none, some (.inl x8), some (.inl x9), some (.inl x10), some (.inl x11), none, none] [.inr (.inl s1), .inr (.inl s0)] (M0 L V b) = some (true, cond (!decide (x9 = x2)) 208 188, [some (.inr (.inr 120)), some (.inl x1), some (.inl x2), some (.inl x3), some (.inl x4), some (.inl x5), some (.inr (.inl x6)), none, some (.inl x8), some (.inl x9), some (.inl x10), some (.inl x11), some (.inr (.inl (s0 + s1))), none], [.inr (.inr 120)], M0 L V b) := by
  have f0 : (r32 x9 && r32 x2) = true := rr32_of g0 g1
  have hG : ((r32 x9 && r32 x2) && true) = true := an f0 rfl
  show some ((r32 x9 && r32 x2) && true, _) = _
  rw [hG]
  try rfl

theorem B197_188 (L : Nat) (V : Mv) (b : Bool) (x1 : Int) (x2 : Int) (x3 : Int) (x4 : Int) (x5 : Int) (x6 : Int) (x8 : Int) (x9 : Int) (x10 : Int) (x11 : Int) (x12 : Int) (g0 : 0 ≤ x9 ∧ x9 < 8) (g1 : in64 x12) (g2 : in64 (V 141 (x9).toNat)) (g3 : in32 (cmpI x12 (V 141 (x9).toNat))) : nxs 7 197 188 [some (.inr (.inr 120)), some (.inl x1), some (.inl x2), some (.inl x3), some (.inl x4), some (.inl x5), some (.inr (.inl x6)), none, some (.inl x8), some (.inl x9), some (.inl x10), some (.inl x11), some (.inr (.inl x12)), none] [.inr (.inr 120)] (M0 L V b) = some (true, cond (decide (0 ≤ cmpI x12 (V 141 (x9).toNat))) 208 201, [some (.inr (.inr 120)), some (.inl x1), some (.inl x2), some (.inl x3), some (.inl x4), some (.inl x5), some (.inr (.inl x6)), none, some (.inl x8), some (.inl x9), some (.inl x10), some (.inl x11), some (.inr (.inl x12)), none], [.inr (.inr 120)], M0 L V b) := by
  have f0 : gX (M0 L V b) 141 2 x9 = true := gx_of rfl g0
  have f1 : (r64 x12 && r64 (V 141 (x9).toNat)) = true := rr64_of g1 g2
  have f2 : r32 (cmpI x12 (V 141 (x9).toNat)) = true := r32_of g3
  have hG : (gX (M0 L V b) 141 2 x9 && ((r64 x12 && r64 (V 141 (x9).toNat)) && (r32 (cmpI x12 (V 141 (x9).toNat)) && true))) = true := an f0 (an f1 (an f2 rfl))
  show some (gX (M0 L V b) 141 2 x9 && ((r64 x12 && r64 (V 141 (x9).toNat)) && (r32 (cmpI x12 (V 141 (x9).toNat)) && true)), _) = _
  rw [hG]
  try rfl

theorem B197_201 (L : Nat) (V : Mv) (b : Bool) (x1 : Int) (x2 : Int) (x3 : Int) (x4 : Int) (x5 : Int) (x6 : Int) (x8 : Int) (x9 : Int) (x10 : Int) (x11 : Int) (x12 : Int)  : nxs 4 197 201 [some (.inr (.inr 120)), some (.inl x1), some (.inl x2), some (.inl x3), some (.inl x4), some (.inl x5), some (.inr (.inl x6)), none, some (.inl x8), some (.inl x9), some (.inl x10), some (.inl x11), some (.inr (.inl x12)), none] [.inr (.inr 120)] (M0 L V b) = some (true, 212, [some (.inr (.inr 120)), some (.inl x1), some (.inl x2), some (.inl x3), some (.inl x4), some (.inl x5), some (.inr (.inl x6)), none, some (.inl x8), some (.inl x9), some (.inl x10), some (.inl x11), some (.inr (.inl x12)), none], [.inl (x10 + 1), .inr (.inr 120)], M0 L V b) := by
  rfl

theorem B197_208 (L : Nat) (V : Mv) (b : Bool) (x1 : Int) (x2 : Int) (x3 : Int) (x4 : Int) (x5 : Int) (x6 : Int) (x8 : Int) (x9 : Int) (x10 : Int) (x11 : Int) (x12 : Int)  : nxs 2 197 208 [some (.inr (.inr 120)), some (.inl x1), some (.inl x2), some (.inl x3), some (.inl x4), some (.inl x5), some (.inr (.inl x6)), none, some (.inl x8), some (.inl x9), some (.inl x10), some (.inl x11), some (.inr (.inl x12)), none] [.inr (.inr 120)] (M0 L V b) = some (true, 212, [some (.inr (.inr 120)), some (.inl x1), some (.inl x2), some (.inl x3), some (.inl x4), some (.inl x5), some (.inr (.inl x6)), none, some (.inl x8), some (.inl x9), some (.inl x10), some (.inl x11), some (.inr (.inl x12)), none], [.inl (V 120 31), .inr (.inr 120)], M0 L V b) := by
  rfl

theorem B197_212 (L : Nat) (V : Mv) (b : Bool) (x1 : Int) (x2 : Int) (x3 : Int) (x4 : Int) (x5 : Int) (x6 : Int) (x8 : Int) (x9 : Int) (x10 : Int) (x11 : Int) (x12 : Int) (s1 : Int) (g0 : 0 ≤ x9 ∧ x9 < 8) (g1 : in64 x12) (g2 : in64 ((uV V 120 31 s1) 141 (x9).toNat)) (g3 : in32 (cmpI x12 ((uV V 120 31 s1) 141 (x9).toNat))) : nxs 11 197 212 [some (.inr (.inr 120)), some (.inl x1), some (.inl x2), some (.inl x3), some (.inl x4), some (.inl x5), some (.inr (.inl x6)), none, some (.inl x8), some (.inl x9), some (.inl x10), some (.inl x11), some (.inr (.inl x12)), none] [.inl s1, .inr (.inr 120)] (M0 L V b) = some (true, cond (decide (0 ≤ cmpI x12 ((uV V 120 31 s1) 141 (x9).toNat))) 239 234, [some (.inr (.inr 120)), some (.inl x1), some (.inl x2), some (.inl x3), some (.inl x4), some (.inl x5), some (.inr (.inl x6)), none, some (.inl x8), some (.inl x9), some (.inl x10), some (.inl x11), some (.inr (.inl x12)), none], [.inl x9, .inr (.inr 141)], M0 L (uV V 120 31 s1) b) := by
  have f0 : gX (M0 L (uV V 120 31 s1) b) 141 2 x9 = true := gx_of rfl g0
  have f1 : (r64 x12 && r64 ((uV V 120 31 s1) 141 (x9).toNat)) = true := rr64_of g1 g2
  have f2 : r32 (cmpI x12 ((uV V 120 31 s1) 141 (x9).toNat)) = true := r32_of g3
  have hG : (gX (M0 L (uV V 120 31 s1) b) 141 2 x9 && ((r64 x12 && r64 ((uV V 120 31 s1) 141 (x9).toNat)) && (r32 (cmpI x12 ((uV V 120 31 s1) 141 (x9).toNat)) && true))) = true := an f0 (an f1 (an f2 rfl))
  show some (gX (M0 L (uV V 120 31 s1) b) 141 2 x9 && ((r64 x12 && r64 ((uV V 120 31 s1) 141 (x9).toNat)) && (r32 (cmpI x12 ((uV V 120 31 s1) 141 (x9).toNat)) && true)), _) = _
  rw [hG]
  try rfl

theorem B197_234 (L : Nat) (V : Mv) (b : Bool) (x1 : Int) (x2 : Int) (x3 : Int) (x4 : Int) (x5 : Int) (x6 : Int) (x8 : Int) (x9 : Int) (x10 : Int) (x11 : Int) (x12 : Int) (s1 : Int)  : nxs 2 197 234 [some (.inr (.inr 120)), some (.inl x1), some (.inl x2), some (.inl x3), some (.inl x4), some (.inl x5), some (.inr (.inl x6)), none, some (.inl x8), some (.inl x9), some (.inl x10), some (.inl x11), some (.inr (.inl x12)), none] [.inl s1, .inr (.inr 119)] (M0 L V b) = some (true, 246, [some (.inr (.inr 120)), some (.inl x1), some (.inl x2), some (.inl x3), some (.inl x4), some (.inl x5), some (.inr (.inl x6)), none, some (.inl x8), some (.inl x9), some (.inl x10), some (.inl x11), some (.inr (.inl x12)), none], [.inr (.inl x12), .inl s1, .inr (.inr 119)], M0 L V b) := by
  rfl

theorem B197_239 (L : Nat) (V : Mv) (b : Bool) (x1 : Int) (x2 : Int) (x3 : Int) (x4 : Int) (x5 : Int) (x6 : Int) (x8 : Int) (x9 : Int) (x10 : Int) (x11 : Int) (x12 : Int) (s1 : Int) (g0 : 0 ≤ x9 ∧ x9 < 8) : nxs 4 197 239 [some (.inr (.inr 120)), some (.inl x1), some (.inl x2), some (.inl x3), some (.inl x4), some (.inl x5), some (.inr (.inl x6)), none, some (.inl x8), some (.inl x9), some (.inl x10), some (.inl x11), some (.inr (.inl x12)), none] [.inl s1, .inr (.inr 119)] (M0 L V b) = some (true, 246, [some (.inr (.inr 120)), some (.inl x1), some (.inl x2), some (.inl x3), some (.inl x4), some (.inl x5), some (.inr (.inl x6)), none, some (.inl x8), some (.inl x9), some (.inl x10), some (.inl x11), some (.inr (.inl x12)), none], [.inr (.inl (V 141 (x9).toNat)), .inl s1, .inr (.inr 119)], M0 L V b) := by
  have f0 : gX (M0 L V b) 141 2 x9 = true := gx_of rfl g0
  have hG : (gX (M0 L V b) 141 2 x9 && true) = true := an f0 rfl
  show some (gX (M0 L V b) 141 2 x9 && true, _) = _
  rw [hG]
  try rfl

theorem B197_246 (L : Nat) (V : Mv) (b : Bool) (x1 : Int) (x2 : Int) (x3 : Int) (x4 : Int) (x5 : Int) (x6 : Int) (x8 : Int) (x9 : Int) (x10 : Int) (x11 : Int) (x12 : Int) (s1 : Int) (s2 : Int) (g0 : 0 ≤ s1 ∧ s1 < 8) : nxs 1 197 246 [some (.inr (.inr 120)), some (.inl x1), some (.inl x2), some (.inl x3), some (.inl x4), some (.inl x5), some (.inr (.inl x6)), none, some (.inl x8), some (.inl x9), some (.inl x10), some (.inl x11), some (.inr (.inl x12)), none] [.inr (.inl s2), .inl s1, .inr (.inr 119)] (M0 L V b) = some (true, 247, [some (.inr (.inr 120)), some (.inl x1), some (.inl x2), some (.inl x3), some (.inl x4), some (.inl x5), some (.inr (.inl x6)), none, some (.inl x8), some (.inl x9), some (.inl x10), some (.inl x11), some (.inr (.inl x12)), none], [], M0 L (uV V 119 (s1).toNat s2) b) := by
  have f0 : (gX (M0 L V b) 119 2 s1 && !Nat.beq 119 0) = true := gs_of (gx_of rfl g0) (by decide)
  have hG : ((gX (M0 L V b) 119 2 s1 && !Nat.beq 119 0) && true) = true := an f0 rfl
  show some ((gX (M0 L V b) 119 2 s1 && !Nat.beq 119 0) && true, _) = _
  rw [hG]
  try rfl

theorem B197_247 (L : Nat) (V : Mv) (b : Bool) (x1 : Int) (x2 : Int) (x3 : Int) (x4 : Int) (x5 : Int) (x6 : Int) (x8 : Int) (x9 : Int) (x10 : Int)  : nxs 2 197 247 [some (.inr (.inr 120)), some (.inl x1), some (.inl x2), some (.inl x3), some (.inl x4), some (.inl x5), some (.inr (.inl x6)), none, some (.inl x8), some (.inl x9), some (.inl x10), none, none, none] [] (M0 L V b) = some (true, 96, [some (.inr (.inr 120)), some (.inl x1), some (.inl x2), some (.inl x3), some (.inl x4), some (.inl x5), some (.inr (.inl x6)), none, some (.inl x8), some (.inl x9), some (.inl (x10 + 1)), none, none, none], [], M0 L V b) := by
  rfl

theorem B197_253 (L : Nat) (V : Mv) (b : Bool) (x1 : Int) (x2 : Int) (x3 : Int) (x4 : Int) (x5 : Int) (x6 : Int) (x8 : Int) (x9 : Int) (x10 : Int)  : nxs 2 197 253 [some (.inr (.inr 120)), some (.inl x1), some (.inl x2), some (.inl x3), some (.inl x4), some (.inl x5), some (.inr (.inl x6)), none, some (.inl x8), some (.inl x9), some (.inl x10), none, none, none] [] (M0 L V b) = some (true, 48, [some (.inr (.inr 120)), some (.inl x1), some (.inl x2), some (.inl x3), some (.inl x4), some (.inl x5), some (.inr (.inl x6)), none, some (.inl x8), some (.inl (x9 + 1)), some (.inl x10), none, none, none], [], M0 L V b) := by
  rfl

theorem B197_259 (L : Nat) (V : Mv) (b : Bool) (x1 : Int) (x2 : Int) (x3 : Int) (x4 : Int) (x5 : Int) (x6 : Int) (x8 : Int) (x9 : Int)  : nxs 2 197 259 [some (.inr (.inr 120)), some (.inl x1), some (.inl x2), some (.inl x3), some (.inl x4), some (.inl x5), some (.inr (.inl x6)), none, some (.inl x8), some (.inl x9), none, none, none, none] [] (M0 L V b) = some (true, 262, [some (.inr (.inr 120)), some (.inl x1), some (.inl x2), some (.inl x3), some (.inl x4), some (.inl x5), some (.inr (.inl x6)), none, some (.inl x8), some (.inl 0), none, none, none, none], [], M0 L V b) := by
  rfl

theorem B197_262 (L : Nat) (V : Mv) (b : Bool) (x1 : Int) (x2 : Int) (x3 : Int) (x4 : Int) (x5 : Int) (x6 : Int) (x8 : Int) (x9 : Int) (g0 : in32 x9) : nxs 3 197 262 [some (.inr (.inr 120)), some (.inl x1), some (.inl x2), some (.inl x3), some (.inl x4), some (.inl x5), some (.inr (.inl x6)), none, some (.inl x8), some (.inl x9), none, none, none, none] [] (M0 L V b) = some (true, cond (decide (8 ≤ x9)) 289 269, [some (.inr (.inr 120)), some (.inl x1), some (.inl x2), some (.inl x3), some (.inl x4), some (.inl x5), some (.inr (.inl x6)), none, some (.inl x8), some (.inl x9), none, none, none, none], [], M0 L V b) := by
  have f0 : (r32 x9 && r32 8) = true := rr32_of g0 (by decide)
  have hG : ((r32 x9 && r32 8) && true) = true := an f0 rfl
  show some ((r32 x9 && r32 8) && true, _) = _
  rw [hG]
  try rfl

theorem B197_269 (L : Nat) (V : Mv) (b : Bool) (x1 : Int) (x2 : Int) (x3 : Int) (x4 : Int) (x5 : Int) (x6 : Int) (x8 : Int) (x9 : Int) (g0 : 0 ≤ x9 ∧ x9 < 8) : nxs 10 197 269 [some (.inr (.inr 120)), some (.inl x1), some (.inl x2), some (.inl x3), some (.inl x4), some (.inl x5), some (.inr (.inl x6)), none, some (.inl x8), some (.inl x9), none, none, none, none] [] (M0 L V b) = some (true, 262, [some (.inr (.inr 120)), some (.inl x1), some (.inl x2), some (.inl x3), some (.inl x4), some (.inl x5), some (.inr (.inl x6)), none, some (.inl x8), some (.inl (x9 + 1)), none, none, none, none], [], M0 L (uV V 140 (x9).toNat (V 141 (x9).toNat)) b) := by
  have f0 : gX (M0 L V b) 141 2 x9 = true := gx_of rfl g0
  have f1 : (gX (M0 L V b) 140 2 x9 && !Nat.beq 140 0) = true := gs_of (gx_of rfl g0) (by decide)
  have hG : (gX (M0 L V b) 141 2 x9 && ((gX (M0 L V b) 140 2 x9 && !Nat.beq 140 0) && true)) = true := an f0 (an f1 rfl)
  show some (gX (M0 L V b) 141 2 x9 && ((gX (M0 L V b) 140 2 x9 && !Nat.beq 140 0) && true), _) = _
  rw [hG]
  try rfl

theorem B197_289 (L : Nat) (V : Mv) (b : Bool) (x1 : Int) (x2 : Int) (x3 : Int) (x4 : Int) (x5 : Int) (x6 : Int) (x8 : Int) (x9 : Int)  : nxs 2 197 289 [some (.inr (.inr 120)), some (.inl x1), some (.inl x2), some (.inl x3), some (.inl x4), some (.inl x5), some (.inr (.inl x6)), none, some (.inl x8), some (.inl x9), none, none, none, none] [] (M0 L V b) = some (true, 32, [some (.inr (.inr 120)), some (.inl x1), some (.inl x2), some (.inl x3), some (.inl x4), some (.inl x5), some (.inr (.inl x6)), none, some (.inl (x8 + (-1))), some (.inl x9), none, none, none, none], [], M0 L V b) := by
  rfl

theorem B197_295 (L : Nat) (V : Mv) (b : Bool) (x1 : Int) (x2 : Int) (x3 : Int) (x4 : Int) (x5 : Int) (x6 : Int) (x8 : Int) (g0 : 0 ≤ x2 ∧ x2 < 8) : nxs 4 197 295 [some (.inr (.inr 120)), some (.inl x1), some (.inl x2), some (.inl x3), some (.inl x4), some (.inl x5), some (.inr (.inl x6)), none, some (.inl x8), none, none, none, none, none] [] (M0 L V b) = some (true, 301, [some (.inr (.inr 120)), some (.inl x1), some (.inl x2), some (.inl x3), some (.inl x4), some (.inl x5), some (.inr (.inl x6)), none, some (.inl x8), none, none, none, none, none], [.inr (.inl (V 140 (x2).toNat))], M0 L V b) := by
  have f0 : gX (M0 L V b) 140 2 x2 = true := gx_of rfl g0
  have hG : (gX (M0 L V b) 140 2 x2 && true) = true := an f0 rfl
  show some (gX (M0 L V b) 140 2 x2 && true, _) = _
  rw [hG]
  try rfl

-- 198: MendedOrNewModel.dayFrom(IIJ)J
theorem B198_0 (L : Nat) (V : Mv) (b : Bool) (x1 : Int) (x2 : Int) (x3 : Int) (g0 : 0 ≤ (8 * x1) + x2 ∧ (8 * x1) + x2 < 32) (g1 : in32 (V 124 ((8 * x1) + x2).toNat)) : nxs 14 198 0 [some (.inr (.inr 120)), some (.inl x1), some (.inl x2), some (.inr (.inl x3)), none, none, none, none] [] (M0 L V b) = some (true, 19, [some (.inr (.inr 120)), some (.inl x1), some (.inl x2), some (.inr (.inl x3)), none, some (.inr (.inl ((V 124 ((8 * x1) + x2).toNat) * x3))), none, some (.inl x2)], [], M0 L V b) := by
  have f0 : gX (M0 L V b) 124 1 ((8 * x1) + x2) = true := gx_of rfl g0
  have f1 : r32 (V 124 ((8 * x1) + x2).toNat) = true := r32_of g1
  have hG : (gX (M0 L V b) 124 1 ((8 * x1) + x2) && (r32 (V 124 ((8 * x1) + x2).toNat) && true)) = true := an f0 (an f1 rfl)
  show some (gX (M0 L V b) 124 1 ((8 * x1) + x2) && (r32 (V 124 ((8 * x1) + x2).toNat) && true), _) = _
  rw [hG]
  try rfl

theorem B198_19 (L : Nat) (V : Mv) (b : Bool) (x1 : Int) (x2 : Int) (x3 : Int) (x5 : Int) (x7 : Int) (g0 : 0 ≤ x1 ∧ x1 < 4) (g1 : in32 x7) (g2 : in32 (V 121 (x1).toNat)) : nxs 6 198 19 [some (.inr (.inr 120)), some (.inl x1), some (.inl x2), some (.inr (.inl x3)), none, some (.inr (.inl x5)), none, some (.inl x7)] [] (M0 L V b) = some (true, cond (decide (V 121 (x1).toNat ≤ x7)) 58 30, [some (.inr (.inr 120)), some (.inl x1), some (.inl x2), some (.inr (.inl x3)), none, some (.inr (.inl x5)), none, some (.inl x7)], [], M0 L V b) := by
  have f0 : gX (M0 L V b) 121 1 x1 = true := gx_of rfl g0
  have f1 : (r32 x7 && r32 (V 121 (x1).toNat)) = true := rr32_of g1 g2
  have hG : (gX (M0 L V b) 121 1 x1 && ((r32 x7 && r32 (V 121 (x1).toNat)) && true)) = true := an f0 (an f1 rfl)
  show some (gX (M0 L V b) 121 1 x1 && ((r32 x7 && r32 (V 121 (x1).toNat)) && true), _) = _
  rw [hG]
  try rfl

theorem B198_30 (L : Nat) (V : Mv) (b : Bool) (x1 : Int) (x2 : Int) (x3 : Int) (x5 : Int) (x7 : Int)  : nxs 5 198 30 [some (.inr (.inr 120)), some (.inl x1), some (.inl x2), some (.inr (.inl x3)), none, some (.inr (.inl x5)), none, some (.inl x7)] [] (M0 L V b) = some (true, 37, [some (.inr (.inr 120)), some (.inl x1), some (.inl x2), some (.inr (.inl x3)), none, some (.inr (.inl x5)), none, some (.inl x7)], [.inl x7, .inl x2, .inl x1, .inr (.inr 120), .inr (.inl x5)], M0 L V b) := by
  rfl

theorem B198_40 (L : Nat) (V : Mv) (b : Bool) (x1 : Int) (x2 : Int) (x3 : Int) (x5 : Int) (x7 : Int) (s0 : Int) (s1 : Int) (g0 : in32 s1) (g1 : 0 ≤ x7 ∧ x7 < 8) : nxs 10 198 40 [some (.inr (.inr 120)), some (.inl x1), some (.inl x2), some (.inr (.inl x3)), none, some (.inr (.inl x5)), none, some (.inl x7)] [.inl s1, .inr (.inl s0)] (M0 L V b) = some (true, 19, [some (.inr (.inr 120)), some (.inl x1), some (.inl x2), some (.inr (.inl x3)), none, some (.inr (.inl (s0 + (s1 * (V 140 (x7).toNat))))), none, some (.inl (x7 + 1))], [], M0 L V b) := by
  have f0 : r32 s1 = true := r32_of g0
  have f1 : gX (M0 L V b) 140 2 x7 = true := gx_of rfl g1
  have hG : (r32 s1 && (gX (M0 L V b) 140 2 x7 && true)) = true := an f0 (an f1 rfl)
  show some (r32 s1 && (gX (M0 L V b) 140 2 x7 && true), _) = _
  rw [hG]
  try rfl

theorem B198_58 (L : Nat) (V : Mv) (b : Bool) (x1 : Int) (x2 : Int) (x3 : Int) (x5 : Int) (x7 : Int)  : nxs 1 198 58 [some (.inr (.inr 120)), some (.inl x1), some (.inl x2), some (.inr (.inl x3)), none, some (.inr (.inl x5)), none, some (.inl x7)] [] (M0 L V b) = some (true, 60, [some (.inr (.inr 120)), some (.inl x1), some (.inl x2), some (.inr (.inl x3)), none, some (.inr (.inl x5)), none, some (.inl x7)], [.inr (.inl x5)], M0 L V b) := by
  rfl

-- 199: MendedOrNewModel.tens(I)J
theorem B199_0 (L : Nat) (V : Mv) (b : Bool) (x0 : Int)  : nxs 4 199 0 [some (.inl x0), none, none, none] [] (M0 L V b) = some (true, 4, [some (.inl x0), some (.inr (.inl 1)), none, some (.inl 0)], [], M0 L V b) := by
  rfl

theorem B199_4 (L : Nat) (V : Mv) (b : Bool) (x0 : Int) (x1 : Int) (x3 : Int) (g0 : in32 x3) (g1 : in32 x0) : nxs 3 199 4 [some (.inl x0), some (.inr (.inl x1)), none, some (.inl x3)] [] (M0 L V b) = some (true, cond (decide (x0 ≤ x3)) 21 9, [some (.inl x0), some (.inr (.inl x1)), none, some (.inl x3)], [], M0 L V b) := by
  have f0 : (r32 x3 && r32 x0) = true := rr32_of g0 g1
  have hG : ((r32 x3 && r32 x0) && true) = true := an f0 rfl
  show some ((r32 x3 && r32 x0) && true, _) = _
  rw [hG]
  try rfl

theorem B199_9 (L : Nat) (V : Mv) (b : Bool) (x0 : Int) (x1 : Int) (x3 : Int)  : nxs 6 199 9 [some (.inl x0), some (.inr (.inl x1)), none, some (.inl x3)] [] (M0 L V b) = some (true, 4, [some (.inl x0), some (.inr (.inl (x1 * 10))), none, some (.inl (x3 + 1))], [], M0 L V b) := by
  rfl

theorem B199_21 (L : Nat) (V : Mv) (b : Bool) (x0 : Int) (x1 : Int) (x3 : Int)  : nxs 1 199 21 [some (.inl x0), some (.inr (.inl x1)), none, some (.inl x3)] [] (M0 L V b) = some (true, 22, [some (.inl x0), some (.inr (.inl x1)), none, some (.inl x3)], [.inr (.inl x1)], M0 L V b) := by
  rfl

-- 200: MendedOrNewModel.planAct(IIIII)I
theorem B200_0 (L : Nat) (V : Mv) (b : Bool) (x1 : Int) (x2 : Int) (x3 : Int) (x4 : Int) (x5 : Int)  : nxs 3 200 0 [some (.inr (.inr 120)), some (.inl x1), some (.inl x2), some (.inl x3), some (.inl x4), some (.inl x5)] [] (M0 L V b) = some (true, 3, [some (.inr (.inr 120)), some (.inl x1), some (.inl x2), some (.inl x3), some (.inl x4), some (.inl x5)], [.inl x2, .inl x1, .inr (.inr 120)], M0 L V b) := by
  rfl

theorem B200_6 (L : Nat) (V : Mv) (b : Bool) (x1 : Int) (x2 : Int) (x3 : Int) (x4 : Int) (x5 : Int) (s0 : Int) (g0 : in32 s0) : nxs 1 200 6 [some (.inr (.inr 120)), some (.inl x1), some (.inl x2), some (.inl x3), some (.inl x4), some (.inl x5)] [.inl s0] (M0 L V b) = some (true, cond (!decide (s0 = 0)) 11 9, [some (.inr (.inr 120)), some (.inl x1), some (.inl x2), some (.inl x3), some (.inl x4), some (.inl x5)], [], M0 L V b) := by
  have f0 : r32 s0 = true := r32_of g0
  have hG : (r32 s0 && true) = true := an f0 rfl
  show some (r32 s0 && true, _) = _
  rw [hG]
  try rfl

theorem B200_9 (L : Nat) (V : Mv) (b : Bool) (x1 : Int) (x2 : Int) (x3 : Int) (x4 : Int) (x5 : Int)  : nxs 1 200 9 [some (.inr (.inr 120)), some (.inl x1), some (.inl x2), some (.inl x3), some (.inl x4), some (.inl x5)] [] (M0 L V b) = some (true, 10, [some (.inr (.inr 120)), some (.inl x1), some (.inl x2), some (.inl x3), some (.inl x4), some (.inl x5)], [.inl (-1)], M0 L V b) := by
  rfl

theorem B200_11 (L : Nat) (V : Mv) (b : Bool) (x1 : Int) (x2 : Int) (x3 : Int) (x4 : Int) (x5 : Int)  : nxs 3 200 11 [some (.inr (.inr 120)), some (.inl x1), some (.inl x2), some (.inl x3), some (.inl x4), some (.inl x5)] [] (M0 L V b) = some (true, 16, [some (.inr (.inr 120)), some (.inl x1), some (.inl x2), some (.inl x3), some (.inl x4), some (.inl x5)], [.inl x5, .inl x4, .inl x3], M0 L V b) := by
  rfl

theorem B200_19 (L : Nat) (V : Mv) (b : Bool) (x1 : Int) (x2 : Int) (x3 : Int) (x4 : Int) (x5 : Int) (s0 : Int) (g0 : in32 s0) : nxs 1 200 19 [some (.inr (.inr 120)), some (.inl x1), some (.inl x2), some (.inl x3), some (.inl x4), some (.inl x5)] [.inl s0] (M0 L V b) = some (true, cond (!decide (s0 = 0)) 25 22, [some (.inr (.inr 120)), some (.inl x1), some (.inl x2), some (.inl x3), some (.inl x4), some (.inl x5)], [], M0 L V b) := by
  have f0 : r32 s0 = true := r32_of g0
  have hG : (r32 s0 && true) = true := an f0 rfl
  show some (r32 s0 && true, _) = _
  rw [hG]
  try rfl

theorem B200_22 (L : Nat) (V : Mv) (b : Bool) (x1 : Int) (x2 : Int) (x3 : Int) (x4 : Int) (x5 : Int)  : nxs 1 200 22 [some (.inr (.inr 120)), some (.inl x1), some (.inl x2), some (.inl x3), some (.inl x4), some (.inl x5)] [] (M0 L V b) = some (true, 24, [some (.inr (.inr 120)), some (.inl x1), some (.inl x2), some (.inl x3), some (.inl x4), some (.inl x5)], [.inl (-2)], M0 L V b) := by
  rfl

theorem B200_25 (L : Nat) (V : Mv) (b : Bool) (x1 : Int) (x2 : Int) (x3 : Int) (x4 : Int) (x5 : Int)  : nxs 6 200 25 [some (.inr (.inr 120)), some (.inl x1), some (.inl x2), some (.inl x3), some (.inl x4), some (.inl x5)] [] (M0 L V b) = some (true, 33, [some (.inr (.inr 120)), some (.inl x1), some (.inl x2), some (.inl x3), some (.inl x4), some (.inl x5)], [.inl x5, .inl x4, .inl x3, .inl x2, .inl x1, .inr (.inr 120)], M0 L V b) := by
  rfl

theorem B200_36 (L : Nat) (V : Mv) (b : Bool) (x1 : Int) (x2 : Int) (x3 : Int) (x4 : Int) (x5 : Int) (s0 : Int)  : nxs 3 200 36 [some (.inr (.inr 120)), some (.inl x1), some (.inl x2), some (.inl x3), some (.inl x4), some (.inl x5)] [.inr (.inl s0)] (M0 L V b) = some (true, 41, [some (.inr (.inr 120)), some (.inl x1), some (.inl x2), some (.inl x3), some (.inl x4), some (.inl x5)], [.inl (V 120 31)], M0 L V b) := by
  rfl

-- 201: MendedOrNewModel.unseen(IIZ)J
theorem B201_0 (L : Nat) (V : Mv) (b : Bool) (x1 : Int) (x2 : Int) (x3 : Int)  : nxs 3 201 0 [some (.inr (.inr 120)), some (.inl x1), some (.inl x2), some (.inl x3), none, none, none] [] (M0 L V b) = some (true, 3, [some (.inr (.inr 120)), some (.inl x1), some (.inl x2), some (.inl x3), none, none, none], [.inl x2, .inl x1, .inr (.inr 120)], M0 L V b) := by
  rfl

theorem B201_6 (L : Nat) (V : Mv) (b : Bool) (x1 : Int) (x2 : Int) (x3 : Int) (s0 : Int) (g0 : in32 s0) : nxs 3 201 6 [some (.inr (.inr 120)), some (.inl x1), some (.inl x2), some (.inl x3), none, none, none] [.inl s0] (M0 L V b) = some (true, cond (decide (0 ≤ s0)) 17 13, [some (.inr (.inr 120)), some (.inl x1), some (.inl x2), some (.inl x3), some (.inl s0), none, none], [], M0 L V b) := by
  have f0 : r32 s0 = true := r32_of g0
  have hG : (r32 s0 && true) = true := an f0 rfl
  show some (r32 s0 && true, _) = _
  rw [hG]
  try rfl

theorem B201_13 (L : Nat) (V : Mv) (b : Bool) (x1 : Int) (x2 : Int) (x3 : Int) (x4 : Int) (g0 : in32 x4) : nxs 2 201 13 [some (.inr (.inr 120)), some (.inl x1), some (.inl x2), some (.inl x3), some (.inl x4), none, none] [] (M0 L V b) = some (true, 16, [some (.inr (.inr 120)), some (.inl x1), some (.inl x2), some (.inl x3), some (.inl x4), none, none], [.inr (.inl x4)], M0 L V b) := by
  have f0 : r32 x4 = true := r32_of g0
  have hG : (r32 x4 && true) = true := an f0 rfl
  show some (r32 x4 && true, _) = _
  rw [hG]
  try rfl

theorem B201_17 (L : Nat) (V : Mv) (b : Bool) (x1 : Int) (x2 : Int) (x3 : Int) (x4 : Int)  : nxs 3 201 17 [some (.inr (.inr 120)), some (.inl x1), some (.inl x2), some (.inl x3), some (.inl x4), none, none] [] (M0 L V b) = some (true, 20, [some (.inr (.inr 120)), some (.inl x1), some (.inl x2), some (.inl x3), some (.inl x4), none, none], [.inl x2, .inl x1, .inr (.inr 120)], M0 L V b) := by
  rfl

theorem B201_23 (L : Nat) (V : Mv) (b : Bool) (x1 : Int) (x2 : Int) (x3 : Int) (x4 : Int) (s0 : Int)  : nxs 4 201 23 [some (.inr (.inr 120)), some (.inl x1), some (.inl x2), some (.inl x3), some (.inl x4), none, none] [.inr (.inl s0)] (M0 L V b) = some (true, 29, [some (.inr (.inr 120)), some (.inl x1), some (.inl x2), some (.inl x3), some (.inl x4), some (.inr (.inl s0)), none], [.inl x1, .inr (.inr 120), .inr (.inl s0)], M0 L V b) := by
  rfl

theorem B201_32 (L : Nat) (V : Mv) (b : Bool) (x1 : Int) (x2 : Int) (x3 : Int) (x4 : Int) (x5 : Int) (s0 : Int) (s1 : Int) (g0 : in32 x2) : nxs 3 201 32 [some (.inr (.inr 120)), some (.inl x1), some (.inl x2), some (.inl x3), some (.inl x4), some (.inr (.inl x5)), none] [.inr (.inl s1), .inr (.inl s0)] (M0 L V b) = some (true, cond (!decide (x2 = 3)) 43 37, [some (.inr (.inr 120)), some (.inl x1), some (.inl x2), some (.inl x3), some (.inl x4), some (.inr (.inl x5)), none], [.inr (.inl s1), .inr (.inl s0)], M0 L V b) := by
  have f0 : (r32 x2 && r32 3) = true := rr32_of g0 (by decide)
  have hG : ((r32 x2 && r32 3) && true) = true := an f0 rfl
  show some ((r32 x2 && r32 3) && true, _) = _
  rw [hG]
  try rfl

theorem B201_37 (L : Nat) (V : Mv) (b : Bool) (x1 : Int) (x2 : Int) (x3 : Int) (x4 : Int) (x5 : Int) (s0 : Int) (s1 : Int)  : nxs 2 201 37 [some (.inr (.inr 120)), some (.inl x1), some (.inl x2), some (.inl x3), some (.inl x4), some (.inr (.inl x5)), none] [.inr (.inl s1), .inr (.inl s0)] (M0 L V b) = some (true, 55, [some (.inr (.inr 120)), some (.inl x1), some (.inl x2), some (.inl x3), some (.inl x4), some (.inr (.inl x5)), none], [.inr (.inl 10000), .inr (.inl s1), .inr (.inl s0)], M0 L V b) := by
  rfl

theorem B201_43 (L : Nat) (V : Mv) (b : Bool) (x1 : Int) (x2 : Int) (x3 : Int) (x4 : Int) (x5 : Int) (s0 : Int) (s1 : Int) (g0 : in32 x2) : nxs 3 201 43 [some (.inr (.inr 120)), some (.inl x1), some (.inl x2), some (.inl x3), some (.inl x4), some (.inr (.inl x5)), none] [.inr (.inl s1), .inr (.inl s0)] (M0 L V b) = some (true, cond (!decide (x2 = 2)) 54 48, [some (.inr (.inr 120)), some (.inl x1), some (.inl x2), some (.inl x3), some (.inl x4), some (.inr (.inl x5)), none], [.inr (.inl s1), .inr (.inl s0)], M0 L V b) := by
  have f0 : (r32 x2 && r32 2) = true := rr32_of g0 (by decide)
  have hG : ((r32 x2 && r32 2) && true) = true := an f0 rfl
  show some ((r32 x2 && r32 2) && true, _) = _
  rw [hG]
  try rfl

theorem B201_48 (L : Nat) (V : Mv) (b : Bool) (x1 : Int) (x2 : Int) (x3 : Int) (x4 : Int) (x5 : Int) (s0 : Int) (s1 : Int)  : nxs 2 201 48 [some (.inr (.inr 120)), some (.inl x1), some (.inl x2), some (.inl x3), some (.inl x4), some (.inr (.inl x5)), none] [.inr (.inl s1), .inr (.inl s0)] (M0 L V b) = some (true, 55, [some (.inr (.inr 120)), some (.inl x1), some (.inl x2), some (.inl x3), some (.inl x4), some (.inr (.inl x5)), none], [.inr (.inl 100), .inr (.inl s1), .inr (.inl s0)], M0 L V b) := by
  rfl

theorem B201_54 (L : Nat) (V : Mv) (b : Bool) (x1 : Int) (x2 : Int) (x3 : Int) (x4 : Int) (x5 : Int) (s0 : Int) (s1 : Int)  : nxs 1 201 54 [some (.inr (.inr 120)), some (.inl x1), some (.inl x2), some (.inl x3), some (.inl x4), some (.inr (.inl x5)), none] [.inr (.inl s1), .inr (.inl s0)] (M0 L V b) = some (true, 55, [some (.inr (.inr 120)), some (.inl x1), some (.inl x2), some (.inl x3), some (.inl x4), some (.inr (.inl x5)), none], [.inr (.inl 1), .inr (.inl s1), .inr (.inl s0)], M0 L V b) := by
  rfl

theorem B201_55 (L : Nat) (V : Mv) (b : Bool) (x1 : Int) (x2 : Int) (x3 : Int) (x4 : Int) (x5 : Int) (s0 : Int) (s1 : Int) (s2 : Int)  : nxs 2 201 55 [some (.inr (.inr 120)), some (.inl x1), some (.inl x2), some (.inl x3), some (.inl x4), some (.inr (.inl x5)), none] [.inr (.inl s2), .inr (.inl s1), .inr (.inl s0)] (M0 L V b) = some (true, 57, [some (.inr (.inr 120)), some (.inl x1), some (.inl x2), some (.inl x3), some (.inl x4), some (.inr (.inl x5)), none], [.inl x3, .inr (.inl (s1 * s2)), .inr (.inl s0)], M0 L V b) := by
  rfl

-- 202: MendedOrNewModel.mayUnseen(II)I
theorem B202_0 (L : Nat) (V : Mv) (b : Bool) (x1 : Int) (x2 : Int)  : nxs 1 202 0 [some (.inr (.inr 120)), some (.inl x1), some (.inl x2)] [] (M0 L V b) = some (true, 1, [some (.inr (.inr 120)), some (.inl x1), some (.inl x2)], [.inl x1], M0 L V b) := by
  rfl

theorem B202_4 (L : Nat) (V : Mv) (b : Bool) (x1 : Int) (x2 : Int) (s0 : Int) (g0 : in32 s0) : nxs 1 202 4 [some (.inr (.inr 120)), some (.inl x1), some (.inl x2)] [.inl s0] (M0 L V b) = some (true, cond (!decide (s0 = 0)) 9 7, [some (.inr (.inr 120)), some (.inl x1), some (.inl x2)], [], M0 L V b) := by
  have f0 : r32 s0 = true := r32_of g0
  have hG : (r32 s0 && true) = true := an f0 rfl
  show some (r32 s0 && true, _) = _
  rw [hG]
  try rfl

theorem B202_7 (L : Nat) (V : Mv) (b : Bool) (x1 : Int) (x2 : Int)  : nxs 1 202 7 [some (.inr (.inr 120)), some (.inl x1), some (.inl x2)] [] (M0 L V b) = some (true, 8, [some (.inr (.inr 120)), some (.inl x1), some (.inl x2)], [.inl (-1)], M0 L V b) := by
  rfl

theorem B202_9 (L : Nat) (V : Mv) (b : Bool) (x1 : Int) (x2 : Int) (g0 : in32 x2) : nxs 4 202 9 [some (.inr (.inr 120)), some (.inl x1), some (.inl x2)] [] (M0 L V b) = some (true, 15, [some (.inr (.inr 120)), some (.inl x1), some (.inl x2)], [.inr (.inl 3), .inr (.inl 1), .inr (.inl x2)], M0 L V b) := by
  have f0 : r32 x2 = true := r32_of g0
  have hG : (r32 x2 && true) = true := an f0 rfl
  show some (r32 x2 && true, _) = _
  rw [hG]
  try rfl

theorem B202_18 (L : Nat) (V : Mv) (b : Bool) (x1 : Int) (x2 : Int) (s0 : Int) (g0 : in32 s0) : nxs 1 202 18 [some (.inr (.inr 120)), some (.inl x1), some (.inl x2)] [.inl s0] (M0 L V b) = some (true, cond (!decide (s0 = 0)) 26 21, [some (.inr (.inr 120)), some (.inl x1), some (.inl x2)], [], M0 L V b) := by
  have f0 : r32 s0 = true := r32_of g0
  have hG : (r32 s0 && true) = true := an f0 rfl
  show some (r32 s0 && true, _) = _
  rw [hG]
  try rfl

theorem B202_21 (L : Nat) (V : Mv) (b : Bool) (x1 : Int) (x2 : Int)  : nxs 2 202 21 [some (.inr (.inr 120)), some (.inl x1), some (.inl x2)] [] (M0 L V b) = some (true, 44, [some (.inr (.inr 120)), some (.inl x1), some (.inl x2)], [.inl (-2)], M0 L V b) := by
  rfl

theorem B202_26 (L : Nat) (V : Mv) (b : Bool) (x1 : Int) (x2 : Int)  : nxs 2 202 26 [some (.inr (.inr 120)), some (.inl x1), some (.inl x2)] [] (M0 L V b) = some (true, 28, [some (.inr (.inr 120)), some (.inl x1), some (.inl x2)], [.inl x1, .inr (.inr 120)], M0 L V b) := by
  rfl

theorem B202_31 (L : Nat) (V : Mv) (b : Bool) (x1 : Int) (x2 : Int) (s0 : Int) (g0 : in64 s0) (g1 : in32 (cmpI s0 1000000000)) : nxs 3 202 31 [some (.inr (.inr 120)), some (.inl x1), some (.inl x2)] [.inr (.inl s0)] (M0 L V b) = some (true, cond (decide (cmpI s0 1000000000 ≤ 0)) 43 38, [some (.inr (.inr 120)), some (.inl x1), some (.inl x2)], [], M0 L V b) := by
  have f0 : (r64 s0 && r64 1000000000) = true := rr64_of g0 (by decide)
  have f1 : r32 (cmpI s0 1000000000) = true := r32_of g1
  have hG : ((r64 s0 && r64 1000000000) && (r32 (cmpI s0 1000000000) && true)) = true := an f0 (an f1 rfl)
  show some ((r64 s0 && r64 1000000000) && (r32 (cmpI s0 1000000000) && true), _) = _
  rw [hG]
  try rfl

theorem B202_38 (L : Nat) (V : Mv) (b : Bool) (x1 : Int) (x2 : Int)  : nxs 2 202 38 [some (.inr (.inr 120)), some (.inl x1), some (.inl x2)] [] (M0 L V b) = some (true, 44, [some (.inr (.inr 120)), some (.inl x1), some (.inl x2)], [.inl (-3)], M0 L V b) := by
  rfl

theorem B202_43 (L : Nat) (V : Mv) (b : Bool) (x1 : Int) (x2 : Int)  : nxs 1 202 43 [some (.inr (.inr 120)), some (.inl x1), some (.inl x2)] [] (M0 L V b) = some (true, 44, [some (.inr (.inr 120)), some (.inl x1), some (.inl x2)], [.inl 0], M0 L V b) := by
  rfl

-- 203: MendedOrNewModel.layUnseen(II)J
theorem B203_0 (L : Nat) (V : Mv) (b : Bool) (x1 : Int) (x2 : Int) (g0 : in32 x2) : nxs 3 203 0 [some (.inr (.inr 120)), some (.inl x1), some (.inl x2), none, none] [] (M0 L V b) = some (true, cond (!decide (x2 = 3)) 9 5, [some (.inr (.inr 120)), some (.inl x1), some (.inl x2), none, none], [], M0 L V b) := by
  have f0 : (r32 x2 && r32 3) = true := rr32_of g0 (by decide)
  have hG : ((r32 x2 && r32 3) && true) = true := an f0 rfl
  show some ((r32 x2 && r32 3) && true, _) = _
  rw [hG]
  try rfl

theorem B203_5 (L : Nat) (V : Mv) (b : Bool) (x1 : Int) (x2 : Int)  : nxs 2 203 5 [some (.inr (.inr 120)), some (.inl x1), some (.inl x2), none, none] [] (M0 L V b) = some (true, 21, [some (.inr (.inr 120)), some (.inl x1), some (.inl x2), none, none], [.inl 0], M0 L V b) := by
  rfl

theorem B203_9 (L : Nat) (V : Mv) (b : Bool) (x1 : Int) (x2 : Int) (g0 : in32 x2) : nxs 3 203 9 [some (.inr (.inr 120)), some (.inl x1), some (.inl x2), none, none] [] (M0 L V b) = some (true, cond (!decide (x2 = 2)) 19 14, [some (.inr (.inr 120)), some (.inl x1), some (.inl x2), none, none], [], M0 L V b) := by
  have f0 : (r32 x2 && r32 2) = true := rr32_of g0 (by decide)
  have hG : ((r32 x2 && r32 2) && true) = true := an f0 rfl
  show some ((r32 x2 && r32 2) && true, _) = _
  rw [hG]
  try rfl

theorem B203_14 (L : Nat) (V : Mv) (b : Bool) (x1 : Int) (x2 : Int)  : nxs 2 203 14 [some (.inr (.inr 120)), some (.inl x1), some (.inl x2), none, none] [] (M0 L V b) = some (true, 21, [some (.inr (.inr 120)), some (.inl x1), some (.inl x2), none, none], [.inl 16], M0 L V b) := by
  rfl

theorem B203_19 (L : Nat) (V : Mv) (b : Bool) (x1 : Int) (x2 : Int)  : nxs 1 203 19 [some (.inr (.inr 120)), some (.inl x1), some (.inl x2), none, none] [] (M0 L V b) = some (true, 21, [some (.inr (.inr 120)), some (.inl x1), some (.inl x2), none, none], [.inl 32], M0 L V b) := by
  rfl

theorem B203_21 (L : Nat) (V : Mv) (b : Bool) (x1 : Int) (x2 : Int) (s0 : Int)  : nxs 3 203 21 [some (.inr (.inr 120)), some (.inl x1), some (.inl x2), none, none] [.inl s0] (M0 L V b) = some (true, 25, [some (.inr (.inr 120)), some (.inl x1), some (.inl x2), some (.inl s0), some (.inl 0)], [], M0 L V b) := by
  rfl

theorem B203_25 (L : Nat) (V : Mv) (b : Bool) (x1 : Int) (x2 : Int) (x3 : Int) (x4 : Int) (g0 : in32 x4) : nxs 3 203 25 [some (.inr (.inr 120)), some (.inl x1), some (.inl x2), some (.inl x3), some (.inl x4)] [] (M0 L V b) = some (true, cond (decide (8 ≤ x4)) 59 32, [some (.inr (.inr 120)), some (.inl x1), some (.inl x2), some (.inl x3), some (.inl x4)], [], M0 L V b) := by
  have f0 : (r32 x4 && r32 8) = true := rr32_of g0 (by decide)
  have hG : ((r32 x4 && r32 8) && true) = true := an f0 rfl
  show some ((r32 x4 && r32 8) && true, _) = _
  rw [hG]
  try rfl

theorem B203_32 (L : Nat) (V : Mv) (b : Bool) (x1 : Int) (x2 : Int) (x3 : Int) (x4 : Int) (g0 : 0 ≤ (8 * x1) + x4 ∧ (8 * x1) + x4 < 24) (g1 : 0 ≤ x3 + x4 ∧ x3 + x4 < 48) : nxs 16 203 32 [some (.inr (.inr 120)), some (.inl x1), some (.inl x2), some (.inl x3), some (.inl x4)] [] (M0 L V b) = some (true, 25, [some (.inr (.inr 120)), some (.inl x1), some (.inl x2), some (.inl x3), some (.inl (x4 + 1))], [], M0 L (uV V 142 (x3 + x4).toNat (V 130 ((8 * x1) + x4).toNat)) b) := by
  have f0 : gX (M0 L V b) 130 2 ((8 * x1) + x4) = true := gx_of rfl g0
  have f1 : (gX (M0 L V b) 142 2 (x3 + x4) && !Nat.beq 142 0) = true := gs_of (gx_of rfl g1) (by decide)
  have hG : (gX (M0 L V b) 130 2 ((8 * x1) + x4) && ((gX (M0 L V b) 142 2 (x3 + x4) && !Nat.beq 142 0) && true)) = true := an f0 (an f1 rfl)
  show some (gX (M0 L V b) 130 2 ((8 * x1) + x4) && ((gX (M0 L V b) 142 2 (x3 + x4) && !Nat.beq 142 0) && true), _) = _
  rw [hG]
  try rfl

theorem B203_59 (L : Nat) (V : Mv) (b : Bool) (x1 : Int) (x2 : Int) (x3 : Int) (x4 : Int) (g0 : in32 x2) : nxs 3 203 59 [some (.inr (.inr 120)), some (.inl x1), some (.inl x2), some (.inl x3), some (.inl x4)] [] (M0 L V b) = some (true, cond (!decide (x2 = 3)) 72 64, [some (.inr (.inr 120)), some (.inl x1), some (.inl x2), some (.inl x3), some (.inl x4)], [], M0 L V b) := by
  have f0 : (r32 x2 && r32 3) = true := rr32_of g0 (by decide)
  have hG : ((r32 x2 && r32 3) && true) = true := an f0 rfl
  show some ((r32 x2 && r32 3) && true, _) = _
  rw [hG]
  try rfl

theorem B203_64 (L : Nat) (V : Mv) (b : Bool) (x1 : Int) (x2 : Int) (x3 : Int) (x4 : Int)  : nxs 2 203 64 [some (.inr (.inr 120)), some (.inl x1), some (.inl x2), some (.inl x3), some (.inl x4)] [] (M0 L V b) = some (true, 66, [some (.inr (.inr 120)), some (.inl x1), some (.inl x2), some (.inl x3), some (.inl x4)], [.inl x1, .inr (.inr 120)], M0 L V b) := by
  rfl

theorem B203_69 (L : Nat) (V : Mv) (b : Bool) (x1 : Int) (x2 : Int) (x3 : Int) (x4 : Int) (s0 : Int)  : nxs 1 203 69 [some (.inr (.inr 120)), some (.inl x1), some (.inl x2), some (.inl x3), some (.inl x4)] [.inr (.inl s0)] (M0 L V b) = some (true, 90, [some (.inr (.inr 120)), some (.inl x1), some (.inl x2), some (.inl x3), some (.inl x4)], [.inr (.inl s0)], M0 L V b) := by
  rfl

theorem B203_72 (L : Nat) (V : Mv) (b : Bool) (x1 : Int) (x2 : Int) (x3 : Int) (x4 : Int) (g0 : in32 x2) : nxs 3 203 72 [some (.inr (.inr 120)), some (.inl x1), some (.inl x2), some (.inl x3), some (.inl x4)] [] (M0 L V b) = some (true, cond (!decide (x2 = 2)) 85 77, [some (.inr (.inr 120)), some (.inl x1), some (.inl x2), some (.inl x3), some (.inl x4)], [], M0 L V b) := by
  have f0 : (r32 x2 && r32 2) = true := rr32_of g0 (by decide)
  have hG : ((r32 x2 && r32 2) && true) = true := an f0 rfl
  show some ((r32 x2 && r32 2) && true, _) = _
  rw [hG]
  try rfl

theorem B203_77 (L : Nat) (V : Mv) (b : Bool) (x1 : Int) (x2 : Int) (x3 : Int) (x4 : Int)  : nxs 2 203 77 [some (.inr (.inr 120)), some (.inl x1), some (.inl x2), some (.inl x3), some (.inl x4)] [] (M0 L V b) = some (true, 79, [some (.inr (.inr 120)), some (.inl x1), some (.inl x2), some (.inl x3), some (.inl x4)], [.inl x1, .inr (.inr 120)], M0 L V b) := by
  rfl

theorem B203_82 (L : Nat) (V : Mv) (b : Bool) (x1 : Int) (x2 : Int) (x3 : Int) (x4 : Int) (s0 : Int)  : nxs 1 203 82 [some (.inr (.inr 120)), some (.inl x1), some (.inl x2), some (.inl x3), some (.inl x4)] [.inr (.inl s0)] (M0 L V b) = some (true, 90, [some (.inr (.inr 120)), some (.inl x1), some (.inl x2), some (.inl x3), some (.inl x4)], [.inr (.inl s0)], M0 L V b) := by
  rfl

theorem B203_85 (L : Nat) (V : Mv) (b : Bool) (x1 : Int) (x2 : Int) (x3 : Int) (x4 : Int)  : nxs 2 203 85 [some (.inr (.inr 120)), some (.inl x1), some (.inl x2), some (.inl x3), some (.inl x4)] [] (M0 L V b) = some (true, 87, [some (.inr (.inr 120)), some (.inl x1), some (.inl x2), some (.inl x3), some (.inl x4)], [.inl x1, .inr (.inr 120)], M0 L V b) := by
  rfl

-- 204: MendedOrNewModel.leastThree(I)J
theorem B204_0 (L : Nat) (V : Mv) (b : Bool) (x1 : Int)  : nxs 3 204 0 [some (.inr (.inr 120)), some (.inl x1), none, none, none, none, none, none] [] (M0 L V b) = some (true, 4, [some (.inr (.inr 120)), some (.inl x1), none, none, none, none, none, none], [.inl (-9), .inl x1, .inr (.inr 120)], M0 L V b) := by
  rfl

theorem B204_7 (L : Nat) (V : Mv) (b : Bool) (x1 : Int) (s0 : Int) (g0 : 0 ≤ x1 ∧ x1 < 4) (g1 : in32 (V 122 (x1).toNat)) : nxs 10 204 7 [some (.inr (.inr 120)), some (.inl x1), none, none, none, none, none, none] [.inr (.inl s0)] (M0 L V b) = some (true, cond (decide (V 122 (x1).toNat = (-9))) 121 25, [some (.inr (.inr 120)), some (.inl x1), some (.inr (.inl s0)), none, some (.inl (V 120 33)), none, none, none], [], M0 L V b) := by
  have f0 : gX (M0 L V b) 122 1 x1 = true := gx_of rfl g0
  have f1 : (r32 (V 122 (x1).toNat) && r32 (-9)) = true := rr32_of g1 (by decide)
  have hG : (gX (M0 L V b) 122 1 x1 && ((r32 (V 122 (x1).toNat) && r32 (-9)) && true)) = true := an f0 (an f1 rfl)
  show some (gX (M0 L V b) 122 1 x1 && ((r32 (V 122 (x1).toNat) && r32 (-9)) && true), _) = _
  rw [hG]
  try rfl

theorem B204_25 (L : Nat) (V : Mv) (b : Bool) (x1 : Int) (x2 : Int) (x4 : Int) (g0 : 0 ≤ x1 ∧ x1 < 4) (g1 : in32 (V 122 (x1).toNat)) : nxs 9 204 25 [some (.inr (.inr 120)), some (.inl x1), some (.inr (.inl x2)), none, some (.inl x4), none, none, none] [] (M0 L V b) = some (true, 38, [some (.inr (.inr 120)), some (.inl x1), some (.inr (.inl x2)), none, some (.inl x4), none, none, none], [.inl 0, .inr (.inr 120), .inr (.inl (10000 * (V 122 (x1).toNat)))], M0 L V b) := by
  have f0 : gX (M0 L V b) 122 1 x1 = true := gx_of rfl g0
  have f1 : r32 (V 122 (x1).toNat) = true := r32_of g1
  have hG : (gX (M0 L V b) 122 1 x1 && (r32 (V 122 (x1).toNat) && true)) = true := an f0 (an f1 rfl)
  show some (gX (M0 L V b) 122 1 x1 && (r32 (V 122 (x1).toNat) && true), _) = _
  rw [hG]
  try rfl

theorem B204_41 (L : Nat) (V : Mv) (b : Bool) (x1 : Int) (x2 : Int) (x4 : Int) (s0 : Int) (s1 : Int)  : nxs 4 204 41 [some (.inr (.inr 120)), some (.inl x1), some (.inr (.inl x2)), none, some (.inl x4), none, none, none] [.inr (.inl s1), .inr (.inl s0)] (M0 L V b) = some (true, 47, [some (.inr (.inr 120)), some (.inl x1), some (.inr (.inl x2)), none, some (.inl x4), some (.inr (.inl (s0 * s1))), none, some (.inl 0)], [], M0 L V b) := by
  rfl

theorem B204_47 (L : Nat) (V : Mv) (b : Bool) (x1 : Int) (x2 : Int) (x4 : Int) (x5 : Int) (x7 : Int) (g0 : 0 ≤ x1 ∧ x1 < 4) (g1 : in32 x7) (g2 : in32 (V 121 (x1).toNat)) : nxs 6 204 47 [some (.inr (.inr 120)), some (.inl x1), some (.inr (.inl x2)), none, some (.inl x4), some (.inr (.inl x5)), none, some (.inl x7)] [] (M0 L V b) = some (true, cond (decide (V 121 (x1).toNat ≤ x7)) 92 58, [some (.inr (.inr 120)), some (.inl x1), some (.inr (.inl x2)), none, some (.inl x4), some (.inr (.inl x5)), none, some (.inl x7)], [], M0 L V b) := by
  have f0 : gX (M0 L V b) 121 1 x1 = true := gx_of rfl g0
  have f1 : (r32 x7 && r32 (V 121 (x1).toNat)) = true := rr32_of g1 g2
  have hG : (gX (M0 L V b) 121 1 x1 && ((r32 x7 && r32 (V 121 (x1).toNat)) && true)) = true := an f0 (an f1 rfl)
  show some (gX (M0 L V b) 121 1 x1 && ((r32 x7 && r32 (V 121 (x1).toNat)) && true), _) = _
  rw [hG]
  try rfl

theorem B204_58 (L : Nat) (V : Mv) (b : Bool) (x1 : Int) (x2 : Int) (x4 : Int) (x5 : Int) (x7 : Int) (g0 : 0 ≤ x7 ∧ x7 < 48) (g1 : in64 (V 142 (x7).toNat)) (g2 : in32 (cmpI (V 142 (x7).toNat) 0)) : nxs 8 204 58 [some (.inr (.inr 120)), some (.inl x1), some (.inr (.inl x2)), none, some (.inl x4), some (.inr (.inl x5)), none, some (.inl x7)] [] (M0 L V b) = some (true, cond (decide (cmpI (V 142 (x7).toNat) 0 ≤ 0)) 82 72, [some (.inr (.inr 120)), some (.inl x1), some (.inr (.inl x2)), none, some (.inl x4), some (.inr (.inl x5)), none, some (.inl x7)], [.inr (.inl x5)], M0 L V b) := by
  have f0 : gX (M0 L V b) 142 2 x7 = true := gx_of rfl g0
  have f1 : (r64 (V 142 (x7).toNat) && r64 0) = true := rr64_of g1 (by decide)
  have f2 : r32 (cmpI (V 142 (x7).toNat) 0) = true := r32_of g2
  have hG : (gX (M0 L V b) 142 2 x7 && ((r64 (V 142 (x7).toNat) && r64 0) && (r32 (cmpI (V 142 (x7).toNat) 0) && true))) = true := an f0 (an f1 (an f2 rfl))
  show some (gX (M0 L V b) 142 2 x7 && ((r64 (V 142 (x7).toNat) && r64 0) && (r32 (cmpI (V 142 (x7).toNat) 0) && true)), _) = _
  rw [hG]
  try rfl

theorem B204_72 (L : Nat) (V : Mv) (b : Bool) (x1 : Int) (x2 : Int) (x4 : Int) (x5 : Int) (x7 : Int) (s0 : Int)  : nxs 3 204 72 [some (.inr (.inr 120)), some (.inl x1), some (.inr (.inl x2)), none, some (.inl x4), some (.inr (.inl x5)), none, some (.inl x7)] [.inr (.inl s0)] (M0 L V b) = some (true, 76, [some (.inr (.inr 120)), some (.inl x1), some (.inr (.inl x2)), none, some (.inl x4), some (.inr (.inl x5)), none, some (.inl x7)], [.inl x7, .inl x1, .inr (.inr 120), .inr (.inl s0)], M0 L V b) := by
  rfl

theorem B204_79 (L : Nat) (V : Mv) (b : Bool) (x1 : Int) (x2 : Int) (x4 : Int) (x5 : Int) (x7 : Int) (s0 : Int) (s1 : Int)  : nxs 1 204 79 [some (.inr (.inr 120)), some (.inl x1), some (.inr (.inl x2)), none, some (.inl x4), some (.inr (.inl x5)), none, some (.inl x7)] [.inr (.inl s1), .inr (.inl s0)] (M0 L V b) = some (true, 83, [some (.inr (.inr 120)), some (.inl x1), some (.inr (.inl x2)), none, some (.inl x4), some (.inr (.inl x5)), none, some (.inl x7)], [.inr (.inl s1), .inr (.inl s0)], M0 L V b) := by
  rfl

theorem B204_82 (L : Nat) (V : Mv) (b : Bool) (x1 : Int) (x2 : Int) (x4 : Int) (x5 : Int) (x7 : Int) (s0 : Int)  : nxs 1 204 82 [some (.inr (.inr 120)), some (.inl x1), some (.inr (.inl x2)), none, some (.inl x4), some (.inr (.inl x5)), none, some (.inl x7)] [.inr (.inl s0)] (M0 L V b) = some (true, 83, [some (.inr (.inr 120)), some (.inl x1), some (.inr (.inl x2)), none, some (.inl x4), some (.inr (.inl x5)), none, some (.inl x7)], [.inr (.inl 0), .inr (.inl s0)], M0 L V b) := by
  rfl

theorem B204_83 (L : Nat) (V : Mv) (b : Bool) (x1 : Int) (x2 : Int) (x4 : Int) (x5 : Int) (x7 : Int) (s0 : Int) (s1 : Int)  : nxs 4 204 83 [some (.inr (.inr 120)), some (.inl x1), some (.inr (.inl x2)), none, some (.inl x4), some (.inr (.inl x5)), none, some (.inl x7)] [.inr (.inl s1), .inr (.inl s0)] (M0 L V b) = some (true, 47, [some (.inr (.inr 120)), some (.inl x1), some (.inr (.inl x2)), none, some (.inl x4), some (.inr (.inl (s0 + s1))), none, some (.inl (x7 + 1))], [], M0 L V b) := by
  rfl

theorem B204_92 (L : Nat) (V : Mv) (b : Bool) (x1 : Int) (x2 : Int) (x4 : Int) (x5 : Int) (x7 : Int) (g0 : in64 x5) (g1 : in64 x2) (g2 : in32 (cmpI x5 x2)) : nxs 4 204 92 [some (.inr (.inr 120)), some (.inl x1), some (.inr (.inl x2)), none, some (.inl x4), some (.inr (.inl x5)), none, some (.inl x7)] [] (M0 L V b) = some (true, cond (decide (0 ≤ cmpI x5 x2)) 103 99, [some (.inr (.inr 120)), some (.inl x1), some (.inr (.inl x2)), none, some (.inl x4), some (.inr (.inl x5)), none, some (.inl x7)], [], M0 L V b) := by
  have f0 : (r64 x5 && r64 x2) = true := rr64_of g0 g1
  have f1 : r32 (cmpI x5 x2) = true := r32_of g2
  have hG : ((r64 x5 && r64 x2) && (r32 (cmpI x5 x2) && true)) = true := an f0 (an f1 rfl)
  show some ((r64 x5 && r64 x2) && (r32 (cmpI x5 x2) && true), _) = _
  rw [hG]
  try rfl

theorem B204_99 (L : Nat) (V : Mv) (b : Bool) (x1 : Int) (x2 : Int) (x4 : Int) (x5 : Int) (x7 : Int)  : nxs 2 204 99 [some (.inr (.inr 120)), some (.inl x1), some (.inr (.inl x2)), none, some (.inl x4), some (.inr (.inl x5)), none, some (.inl x7)] [] (M0 L V b) = some (true, 105, [some (.inr (.inr 120)), some (.inl x1), some (.inr (.inl x2)), none, some (.inl x4), some (.inr (.inl x5)), none, some (.inl x7)], [.inl 5], M0 L V b) := by
  rfl

theorem B204_103 (L : Nat) (V : Mv) (b : Bool) (x1 : Int) (x2 : Int) (x4 : Int) (x5 : Int) (x7 : Int)  : nxs 1 204 103 [some (.inr (.inr 120)), some (.inl x1), some (.inr (.inl x2)), none, some (.inl x4), some (.inr (.inl x5)), none, some (.inl x7)] [] (M0 L V b) = some (true, 105, [some (.inr (.inr 120)), some (.inl x1), some (.inr (.inl x2)), none, some (.inl x4), some (.inr (.inl x5)), none, some (.inl x7)], [.inl x4], M0 L V b) := by
  rfl

theorem B204_105 (L : Nat) (V : Mv) (b : Bool) (x1 : Int) (x2 : Int) (x4 : Int) (x5 : Int) (x7 : Int) (s0 : Int) (g0 : in64 x5) (g1 : in64 x2) (g2 : in32 (cmpI x5 x2)) : nxs 5 204 105 [some (.inr (.inr 120)), some (.inl x1), some (.inr (.inl x2)), none, some (.inl x4), some (.inr (.inl x5)), none, some (.inl x7)] [.inl s0] (M0 L V b) = some (true, cond (decide (0 ≤ cmpI x5 x2)) 119 114, [some (.inr (.inr 120)), some (.inl x1), some (.inr (.inl x2)), none, some (.inl s0), some (.inr (.inl x5)), none, some (.inl x7)], [], M0 L V b) := by
  have f0 : (r64 x5 && r64 x2) = true := rr64_of g0 g1
  have f1 : r32 (cmpI x5 x2) = true := r32_of g2
  have hG : ((r64 x5 && r64 x2) && (r32 (cmpI x5 x2) && true)) = true := an f0 (an f1 rfl)
  show some ((r64 x5 && r64 x2) && (r32 (cmpI x5 x2) && true), _) = _
  rw [hG]
  try rfl

theorem B204_114 (L : Nat) (V : Mv) (b : Bool) (x1 : Int) (x2 : Int) (x4 : Int) (x5 : Int) (x7 : Int)  : nxs 2 204 114 [some (.inr (.inr 120)), some (.inl x1), some (.inr (.inl x2)), none, some (.inl x4), some (.inr (.inl x5)), none, some (.inl x7)] [] (M0 L V b) = some (true, 120, [some (.inr (.inr 120)), some (.inl x1), some (.inr (.inl x2)), none, some (.inl x4), some (.inr (.inl x5)), none, some (.inl x7)], [.inr (.inl x5)], M0 L V b) := by
  rfl

theorem B204_119 (L : Nat) (V : Mv) (b : Bool) (x1 : Int) (x2 : Int) (x4 : Int) (x5 : Int) (x7 : Int)  : nxs 1 204 119 [some (.inr (.inr 120)), some (.inl x1), some (.inr (.inl x2)), none, some (.inl x4), some (.inr (.inl x5)), none, some (.inl x7)] [] (M0 L V b) = some (true, 120, [some (.inr (.inr 120)), some (.inl x1), some (.inr (.inl x2)), none, some (.inl x4), some (.inr (.inl x5)), none, some (.inl x7)], [.inr (.inl x2)], M0 L V b) := by
  rfl

theorem B204_120 (L : Nat) (V : Mv) (b : Bool) (x1 : Int) (x2 : Int) (x4 : Int) (x5 : Int) (x7 : Int) (s0 : Int)  : nxs 1 204 120 [some (.inr (.inr 120)), some (.inl x1), some (.inr (.inl x2)), none, some (.inl x4), some (.inr (.inl x5)), none, some (.inl x7)] [.inr (.inl s0)] (M0 L V b) = some (true, 121, [some (.inr (.inr 120)), some (.inl x1), some (.inr (.inl s0)), none, some (.inl x4), some (.inr (.inl x5)), none, some (.inl x7)], [], M0 L V b) := by
  rfl

theorem B204_121 (L : Nat) (V : Mv) (b : Bool) (x1 : Int) (x2 : Int) (x4 : Int)  : nxs 4 204 121 [some (.inr (.inr 120)), some (.inl x1), some (.inr (.inl x2)), none, some (.inl x4), none, none, none] [] (M0 L V b) = some (true, 128, [some (.inr (.inr 120)), some (.inl x1), some (.inr (.inl x2)), none, some (.inl x4), none, none, none], [.inr (.inl x2)], M0 L (uV V 120 33 x4) b) := by
  rfl

-- 205: MendedOrNewModel.actsThree(II)J
theorem B205_0 (L : Nat) (V : Mv) (b : Bool) (x1 : Int) (x2 : Int)  : nxs 6 205 0 [some (.inr (.inr 120)), some (.inl x1), some (.inl x2), none, none, none, none, none, none] [] (M0 L V b) = some (true, 10, [some (.inr (.inr 120)), some (.inl x1), some (.inl x2), some (.inr (.inl 9000000000000000000)), none, some (.inl 0), some (.inl 0), none, none], [], M0 L V b) := by
  rfl

theorem B205_10 (L : Nat) (V : Mv) (b : Bool) (x1 : Int) (x2 : Int) (x3 : Int) (x5 : Int) (x6 : Int) (g0 : in32 x6) : nxs 3 205 10 [some (.inr (.inr 120)), some (.inl x1), some (.inl x2), some (.inr (.inl x3)), none, some (.inl x5), some (.inl x6), none, none] [] (M0 L V b) = some (true, cond (decide (5 ≤ x6)) 98 16, [some (.inr (.inr 120)), some (.inl x1), some (.inl x2), some (.inr (.inl x3)), none, some (.inl x5), some (.inl x6), none, none], [], M0 L V b) := by
  have f0 : (r32 x6 && r32 5) = true := rr32_of g0 (by decide)
  have hG : ((r32 x6 && r32 5) && true) = true := an f0 rfl
  show some ((r32 x6 && r32 5) && true, _) = _
  rw [hG]
  try rfl

theorem B205_16 (L : Nat) (V : Mv) (b : Bool) (x1 : Int) (x2 : Int) (x3 : Int) (x5 : Int) (x6 : Int)  : nxs 3 205 16 [some (.inr (.inr 120)), some (.inl x1), some (.inl x2), some (.inr (.inl x3)), none, some (.inl x5), some (.inl x6), none, none] [] (M0 L V b) = some (true, 20, [some (.inr (.inr 120)), some (.inl x1), some (.inl x2), some (.inr (.inl x3)), none, some (.inl x5), some (.inl x6), none, none], [.inl x6, .inl x1, .inr (.inr 120)], M0 L V b) := by
  rfl

theorem B205_23 (L : Nat) (V : Mv) (b : Bool) (x1 : Int) (x2 : Int) (x3 : Int) (x5 : Int) (x6 : Int) (s0 : Int) (g0 : in32 s0) : nxs 1 205 23 [some (.inr (.inr 120)), some (.inl x1), some (.inl x2), some (.inr (.inl x3)), none, some (.inl x5), some (.inl x6), none, none] [.inl s0] (M0 L V b) = some (true, cond (decide (s0 = 0)) 92 26, [some (.inr (.inr 120)), some (.inl x1), some (.inl x2), some (.inr (.inl x3)), none, some (.inl x5), some (.inl x6), none, none], [], M0 L V b) := by
  have f0 : r32 s0 = true := r32_of g0
  have hG : (r32 s0 && true) = true := an f0 rfl
  show some (r32 s0 && true, _) = _
  rw [hG]
  try rfl

theorem B205_26 (L : Nat) (V : Mv) (b : Bool) (x1 : Int) (x2 : Int) (x3 : Int) (x5 : Int) (x6 : Int)  : nxs 5 205 26 [some (.inr (.inr 120)), some (.inl x1), some (.inl x2), some (.inr (.inl x3)), none, some (.inl x5), some (.inl x6), none, none] [] (M0 L V b) = some (true, 32, [some (.inr (.inr 120)), some (.inl x1), some (.inl x2), some (.inr (.inl x3)), none, some (.inl x5), some (.inl x6), none, none], [.inl x6, .inl x2, .inl 0, .inl x1, .inr (.inr 120)], M0 L V b) := by
  rfl

theorem B205_35 (L : Nat) (V : Mv) (b : Bool) (x1 : Int) (x2 : Int) (x3 : Int) (x5 : Int) (x6 : Int)  : nxs 4 205 35 [some (.inr (.inr 120)), some (.inl x1), some (.inl x2), some (.inr (.inl x3)), none, some (.inl x5), some (.inl x6), none, none] [] (M0 L V b) = some (true, 42, [some (.inr (.inr 120)), some (.inl x1), some (.inl x2), some (.inr (.inl x3)), none, some (.inl x5), some (.inl x6), none, none], [.inl x6, .inl x1, .inr (.inr 120), .inr (.inl 10000)], M0 L V b) := by
  rfl

theorem B205_45 (L : Nat) (V : Mv) (b : Bool) (x1 : Int) (x2 : Int) (x3 : Int) (x5 : Int) (x6 : Int) (s0 : Int) (s1 : Int) (g0 : in32 s1) : nxs 4 205 45 [some (.inr (.inr 120)), some (.inl x1), some (.inl x2), some (.inr (.inl x3)), none, some (.inl x5), some (.inl x6), none, none] [.inl s1, .inr (.inl s0)] (M0 L V b) = some (true, 50, [some (.inr (.inr 120)), some (.inl x1), some (.inl x2), some (.inr (.inl x3)), none, some (.inl x5), some (.inl x6), none, none], [.inl 8, .inr (.inr 120), .inr (.inl (s0 * s1))], M0 L V b) := by
  have f0 : r32 s1 = true := r32_of g0
  have hG : (r32 s1 && true) = true := an f0 rfl
  show some (r32 s1 && true, _) = _
  rw [hG]
  try rfl

theorem B205_53 (L : Nat) (V : Mv) (b : Bool) (x1 : Int) (x2 : Int) (x3 : Int) (x5 : Int) (x6 : Int) (s0 : Int) (s1 : Int)  : nxs 3 205 53 [some (.inr (.inr 120)), some (.inl x1), some (.inl x2), some (.inr (.inl x3)), none, some (.inl x5), some (.inl x6), none, none] [.inr (.inl s1), .inr (.inl s0)] (M0 L V b) = some (true, 56, [some (.inr (.inr 120)), some (.inl x1), some (.inl x2), some (.inr (.inl x3)), none, some (.inl x5), some (.inl x6), none, none], [.inl x1, .inr (.inr 120), .inr (.inl (s0 * s1))], M0 L V b) := by
  rfl

theorem B205_59 (L : Nat) (V : Mv) (b : Bool) (x1 : Int) (x2 : Int) (x3 : Int) (x5 : Int) (x6 : Int) (s0 : Int) (s1 : Int) (g0 : in64 (s0 + s1)) (g1 : in64 x3) (g2 : in32 (cmpI (s0 + s1) x3)) : nxs 6 205 59 [some (.inr (.inr 120)), some (.inl x1), some (.inl x2), some (.inr (.inl x3)), none, some (.inl x5), some (.inl x6), none, none] [.inr (.inl s1), .inr (.inl s0)] (M0 L V b) = some (true, cond (decide (0 ≤ cmpI (s0 + s1) x3)) 74 69, [some (.inr (.inr 120)), some (.inl x1), some (.inl x2), some (.inr (.inl x3)), none, some (.inl x5), some (.inl x6), some (.inr (.inl (s0 + s1))), none], [], M0 L V b) := by
  have f0 : (r64 (s0 + s1) && r64 x3) = true := rr64_of g0 g1
  have f1 : r32 (cmpI (s0 + s1) x3) = true := r32_of g2
  have hG : ((r64 (s0 + s1) && r64 x3) && (r32 (cmpI (s0 + s1) x3) && true)) = true := an f0 (an f1 rfl)
  show some ((r64 (s0 + s1) && r64 x3) && (r32 (cmpI (s0 + s1) x3) && true), _) = _
  rw [hG]
  try rfl

theorem B205_69 (L : Nat) (V : Mv) (b : Bool) (x1 : Int) (x2 : Int) (x3 : Int) (x5 : Int) (x6 : Int) (x7 : Int)  : nxs 2 205 69 [some (.inr (.inr 120)), some (.inl x1), some (.inl x2), some (.inr (.inl x3)), none, some (.inl x5), some (.inl x6), some (.inr (.inl x7)), none] [] (M0 L V b) = some (true, 76, [some (.inr (.inr 120)), some (.inl x1), some (.inl x2), some (.inr (.inl x3)), none, some (.inl x5), some (.inl x6), some (.inr (.inl x7)), none], [.inl x6], M0 L V b) := by
  rfl

theorem B205_74 (L : Nat) (V : Mv) (b : Bool) (x1 : Int) (x2 : Int) (x3 : Int) (x5 : Int) (x6 : Int) (x7 : Int)  : nxs 1 205 74 [some (.inr (.inr 120)), some (.inl x1), some (.inl x2), some (.inr (.inl x3)), none, some (.inl x5), some (.inl x6), some (.inr (.inl x7)), none] [] (M0 L V b) = some (true, 76, [some (.inr (.inr 120)), some (.inl x1), some (.inl x2), some (.inr (.inl x3)), none, some (.inl x5), some (.inl x6), some (.inr (.inl x7)), none], [.inl x5], M0 L V b) := by
  rfl

theorem B205_76 (L : Nat) (V : Mv) (b : Bool) (x1 : Int) (x2 : Int) (x3 : Int) (x5 : Int) (x6 : Int) (x7 : Int) (s0 : Int) (g0 : in64 x7) (g1 : in64 x3) (g2 : in32 (cmpI x7 x3)) : nxs 5 205 76 [some (.inr (.inr 120)), some (.inl x1), some (.inl x2), some (.inr (.inl x3)), none, some (.inl x5), some (.inl x6), some (.inr (.inl x7)), none] [.inl s0] (M0 L V b) = some (true, cond (decide (0 ≤ cmpI x7 x3)) 90 85, [some (.inr (.inr 120)), some (.inl x1), some (.inl x2), some (.inr (.inl x3)), none, some (.inl s0), some (.inl x6), some (.inr (.inl x7)), none], [], M0 L V b) := by
  have f0 : (r64 x7 && r64 x3) = true := rr64_of g0 g1
  have f1 : r32 (cmpI x7 x3) = true := r32_of g2
  have hG : ((r64 x7 && r64 x3) && (r32 (cmpI x7 x3) && true)) = true := an f0 (an f1 rfl)
  show some ((r64 x7 && r64 x3) && (r32 (cmpI x7 x3) && true), _) = _
  rw [hG]
  try rfl

theorem B205_85 (L : Nat) (V : Mv) (b : Bool) (x1 : Int) (x2 : Int) (x3 : Int) (x5 : Int) (x6 : Int) (x7 : Int)  : nxs 2 205 85 [some (.inr (.inr 120)), some (.inl x1), some (.inl x2), some (.inr (.inl x3)), none, some (.inl x5), some (.inl x6), some (.inr (.inl x7)), none] [] (M0 L V b) = some (true, 91, [some (.inr (.inr 120)), some (.inl x1), some (.inl x2), some (.inr (.inl x3)), none, some (.inl x5), some (.inl x6), some (.inr (.inl x7)), none], [.inr (.inl x7)], M0 L V b) := by
  rfl

theorem B205_90 (L : Nat) (V : Mv) (b : Bool) (x1 : Int) (x2 : Int) (x3 : Int) (x5 : Int) (x6 : Int) (x7 : Int)  : nxs 1 205 90 [some (.inr (.inr 120)), some (.inl x1), some (.inl x2), some (.inr (.inl x3)), none, some (.inl x5), some (.inl x6), some (.inr (.inl x7)), none] [] (M0 L V b) = some (true, 91, [some (.inr (.inr 120)), some (.inl x1), some (.inl x2), some (.inr (.inl x3)), none, some (.inl x5), some (.inl x6), some (.inr (.inl x7)), none], [.inr (.inl x3)], M0 L V b) := by
  rfl

theorem B205_91 (L : Nat) (V : Mv) (b : Bool) (x1 : Int) (x2 : Int) (x3 : Int) (x5 : Int) (x6 : Int) (x7 : Int) (s0 : Int)  : nxs 1 205 91 [some (.inr (.inr 120)), some (.inl x1), some (.inl x2), some (.inr (.inl x3)), none, some (.inl x5), some (.inl x6), some (.inr (.inl x7)), none] [.inr (.inl s0)] (M0 L V b) = some (true, 92, [some (.inr (.inr 120)), some (.inl x1), some (.inl x2), some (.inr (.inl s0)), none, some (.inl x5), some (.inl x6), some (.inr (.inl x7)), none], [], M0 L V b) := by
  rfl

theorem B205_92 (L : Nat) (V : Mv) (b : Bool) (x1 : Int) (x2 : Int) (x3 : Int) (x5 : Int) (x6 : Int)  : nxs 2 205 92 [some (.inr (.inr 120)), some (.inl x1), some (.inl x2), some (.inr (.inl x3)), none, some (.inl x5), some (.inl x6), none, none] [] (M0 L V b) = some (true, 10, [some (.inr (.inr 120)), some (.inl x1), some (.inl x2), some (.inr (.inl x3)), none, some (.inl x5), some (.inl (x6 + 1)), none, none], [], M0 L V b) := by
  rfl

theorem B205_98 (L : Nat) (V : Mv) (b : Bool) (x1 : Int) (x2 : Int) (x3 : Int) (x5 : Int) (x6 : Int)  : nxs 4 205 98 [some (.inr (.inr 120)), some (.inl x1), some (.inl x2), some (.inr (.inl x3)), none, some (.inl x5), some (.inl x6), none, none] [] (M0 L V b) = some (true, 105, [some (.inr (.inr 120)), some (.inl x1), some (.inl x2), some (.inr (.inl x3)), none, some (.inl x5), some (.inl x6), none, none], [.inr (.inl x3)], M0 L (uV V 120 33 x5) b) := by
  rfl

-- 206: MendedOrNewModel.isThere(II)Z
theorem B206_0 (L : Nat) (V : Mv) (b : Bool) (x1 : Int) (x2 : Int) (g0 : in32 x2) : nxs 2 206 0 [some (.inr (.inr 120)), some (.inl x1), some (.inl x2)] [] (M0 L V b) = some (true, cond (decide (x2 = 0)) 21 4, [some (.inr (.inr 120)), some (.inl x1), some (.inl x2)], [], M0 L V b) := by
  have f0 : r32 x2 = true := r32_of g0
  have hG : (r32 x2 && true) = true := an f0 rfl
  show some (r32 x2 && true, _) = _
  rw [hG]
  try rfl

theorem B206_4 (L : Nat) (V : Mv) (b : Bool) (x1 : Int) (x2 : Int) (g0 : 0 ≤ ((4 * x1) + x2) - 1 ∧ ((4 * x1) + x2) - 1 < 16) (g1 : in32 (V 126 (((4 * x1) + x2) - 1).toNat)) : nxs 12 206 4 [some (.inr (.inr 120)), some (.inl x1), some (.inl x2)] [] (M0 L V b) = some (true, cond (decide (V 126 (((4 * x1) + x2) - 1).toNat = (-9))) 25 21, [some (.inr (.inr 120)), some (.inl x1), some (.inl x2)], [], M0 L V b) := by
  have f0 : gX (M0 L V b) 126 1 (((4 * x1) + x2) - 1) = true := gx_of rfl g0
  have f1 : (r32 (V 126 (((4 * x1) + x2) - 1).toNat) && r32 (-9)) = true := rr32_of g1 (by decide)
  have hG : (gX (M0 L V b) 126 1 (((4 * x1) + x2) - 1) && ((r32 (V 126 (((4 * x1) + x2) - 1).toNat) && r32 (-9)) && true)) = true := an f0 (an f1 rfl)
  show some (gX (M0 L V b) 126 1 (((4 * x1) + x2) - 1) && ((r32 (V 126 (((4 * x1) + x2) - 1).toNat) && r32 (-9)) && true), _) = _
  rw [hG]
  try rfl

theorem B206_21 (L : Nat) (V : Mv) (b : Bool) (x1 : Int) (x2 : Int)  : nxs 2 206 21 [some (.inr (.inr 120)), some (.inl x1), some (.inl x2)] [] (M0 L V b) = some (true, 26, [some (.inr (.inr 120)), some (.inl x1), some (.inl x2)], [.inl 1], M0 L V b) := by
  rfl

theorem B206_25 (L : Nat) (V : Mv) (b : Bool) (x1 : Int) (x2 : Int)  : nxs 1 206 25 [some (.inr (.inr 120)), some (.inl x1), some (.inl x2)] [] (M0 L V b) = some (true, 26, [some (.inr (.inr 120)), some (.inl x1), some (.inl x2)], [.inl 0], M0 L V b) := by
  rfl

-- 207: MendedOrNewModel.lay(IIII)V
theorem B207_0 (L : Nat) (V : Mv) (b : Bool) (x1 : Int) (x2 : Int) (x3 : Int) (x4 : Int)  : nxs 2 207 0 [some (.inr (.inr 120)), some (.inl x1), some (.inl x2), some (.inl x3), some (.inl x4), none] [] (M0 L V b) = some (true, 3, [some (.inr (.inr 120)), some (.inl x1), some (.inl x2), some (.inl x3), some (.inl x4), some (.inl 0)], [], M0 L V b) := by
  rfl

theorem B207_3 (L : Nat) (V : Mv) (b : Bool) (x1 : Int) (x2 : Int) (x3 : Int) (x4 : Int) (x5 : Int) (g0 : in32 x5) : nxs 3 207 3 [some (.inr (.inr 120)), some (.inl x1), some (.inl x2), some (.inl x3), some (.inl x4), some (.inl x5)] [] (M0 L V b) = some (true, cond (decide (8 ≤ x5)) 58 10, [some (.inr (.inr 120)), some (.inl x1), some (.inl x2), some (.inl x3), some (.inl x4), some (.inl x5)], [], M0 L V b) := by
  have f0 : (r32 x5 && r32 8) = true := rr32_of g0 (by decide)
  have hG : ((r32 x5 && r32 8) && true) = true := an f0 rfl
  show some ((r32 x5 && r32 8) && true, _) = _
  rw [hG]
  try rfl

theorem B207_10 (L : Nat) (V : Mv) (b : Bool) (x1 : Int) (x2 : Int) (x3 : Int) (x4 : Int) (x5 : Int) (g0 : in32 x4) : nxs 9 207 10 [some (.inr (.inr 120)), some (.inl x1), some (.inl x2), some (.inl x3), some (.inl x4), some (.inl x5)] [] (M0 L V b) = some (true, cond (decide (0 < x4)) 38 26, [some (.inr (.inr 120)), some (.inl x1), some (.inl x2), some (.inl x3), some (.inl x4), some (.inl x5)], [.inl ((x2 + 8) + x5), .inr (.inr 142)], M0 L V b) := by
  have f0 : r32 x4 = true := r32_of g0
  have hG : (r32 x4 && true) = true := an f0 rfl
  show some (r32 x4 && true, _) = _
  rw [hG]
  try rfl

theorem B207_26 (L : Nat) (V : Mv) (b : Bool) (x1 : Int) (x2 : Int) (x3 : Int) (x4 : Int) (x5 : Int) (s1 : Int) (g0 : in32 x3) : nxs 3 207 26 [some (.inr (.inr 120)), some (.inl x1), some (.inl x2), some (.inl x3), some (.inl x4), some (.inl x5)] [.inl s1, .inr (.inr 119)] (M0 L V b) = some (true, cond (decide (x3 = (-9))) 42 32, [some (.inr (.inr 120)), some (.inl x1), some (.inl x2), some (.inl x3), some (.inl x4), some (.inl x5)], [.inl s1, .inr (.inr 119)], M0 L V b) := by
  have f0 : (r32 x3 && r32 (-9)) = true := rr32_of g0 (by decide)
  have hG : ((r32 x3 && r32 (-9)) && true) = true := an f0 rfl
  show some ((r32 x3 && r32 (-9)) && true, _) = _
  rw [hG]
  try rfl

theorem B207_32 (L : Nat) (V : Mv) (b : Bool) (x1 : Int) (x2 : Int) (x3 : Int) (x4 : Int) (x5 : Int) (s1 : Int) (g0 : in32 x5) (g1 : in32 x3) : nxs 3 207 32 [some (.inr (.inr 120)), some (.inl x1), some (.inl x2), some (.inl x3), some (.inl x4), some (.inl x5)] [.inl s1, .inr (.inr 119)] (M0 L V b) = some (true, cond (decide (x5 = x3)) 42 38, [some (.inr (.inr 120)), some (.inl x1), some (.inl x2), some (.inl x3), some (.inl x4), some (.inl x5)], [.inl s1, .inr (.inr 119)], M0 L V b) := by
  have f0 : (r32 x5 && r32 x3) = true := rr32_of g0 g1
  have hG : ((r32 x5 && r32 x3) && true) = true := an f0 rfl
  show some ((r32 x5 && r32 x3) && true, _) = _
  rw [hG]
  try rfl

theorem B207_38 (L : Nat) (V : Mv) (b : Bool) (x1 : Int) (x2 : Int) (x3 : Int) (x4 : Int) (x5 : Int) (s1 : Int)  : nxs 2 207 38 [some (.inr (.inr 120)), some (.inl x1), some (.inl x2), some (.inl x3), some (.inl x4), some (.inl x5)] [.inl s1, .inr (.inr 119)] (M0 L V b) = some (true, 51, [some (.inr (.inr 120)), some (.inl x1), some (.inl x2), some (.inl x3), some (.inl x4), some (.inl x5)], [.inr (.inl 0), .inl s1, .inr (.inr 119)], M0 L V b) := by
  rfl

theorem B207_42 (L : Nat) (V : Mv) (b : Bool) (x1 : Int) (x2 : Int) (x3 : Int) (x4 : Int) (x5 : Int) (s1 : Int) (g0 : 0 ≤ x2 + x5 ∧ x2 + x5 < 48) : nxs 6 207 42 [some (.inr (.inr 120)), some (.inl x1), some (.inl x2), some (.inl x3), some (.inl x4), some (.inl x5)] [.inl s1, .inr (.inr 119)] (M0 L V b) = some (true, 51, [some (.inr (.inr 120)), some (.inl x1), some (.inl x2), some (.inl x3), some (.inl x4), some (.inl x5)], [.inr (.inl (V 142 (x2 + x5).toNat)), .inl s1, .inr (.inr 119)], M0 L V b) := by
  have f0 : gX (M0 L V b) 142 2 (x2 + x5) = true := gx_of rfl g0
  have hG : (gX (M0 L V b) 142 2 (x2 + x5) && true) = true := an f0 rfl
  show some (gX (M0 L V b) 142 2 (x2 + x5) && true, _) = _
  rw [hG]
  try rfl

theorem B207_51 (L : Nat) (V : Mv) (b : Bool) (x1 : Int) (x2 : Int) (x3 : Int) (x4 : Int) (x5 : Int) (s1 : Int) (s2 : Int) (g0 : 0 ≤ s1 ∧ s1 < 8) : nxs 3 207 51 [some (.inr (.inr 120)), some (.inl x1), some (.inl x2), some (.inl x3), some (.inl x4), some (.inl x5)] [.inr (.inl s2), .inl s1, .inr (.inr 119)] (M0 L V b) = some (true, 3, [some (.inr (.inr 120)), some (.inl x1), some (.inl x2), some (.inl x3), some (.inl x4), some (.inl (x5 + 1))], [], M0 L (uV V 119 (s1).toNat s2) b) := by
  have f0 : (gX (M0 L V b) 119 2 s1 && !Nat.beq 119 0) = true := gs_of (gx_of rfl g0) (by decide)
  have hG : ((gX (M0 L V b) 119 2 s1 && !Nat.beq 119 0) && true) = true := an f0 rfl
  show some ((gX (M0 L V b) 119 2 s1 && !Nat.beq 119 0) && true, _) = _
  rw [hG]
  try rfl

theorem B207_58 (L : Nat) (V : Mv) (b : Bool) (x1 : Int) (x2 : Int) (x3 : Int) (x4 : Int) (x5 : Int) (g0 : in32 x4) : nxs 2 207 58 [some (.inr (.inr 120)), some (.inl x1), some (.inl x2), some (.inl x3), some (.inl x4), some (.inl x5)] [] (M0 L V b) = some (true, cond (decide (x4 ≤ 0)) 108 63, [some (.inr (.inr 120)), some (.inl x1), some (.inl x2), some (.inl x3), some (.inl x4), some (.inl x5)], [], M0 L V b) := by
  have f0 : r32 x4 = true := r32_of g0
  have hG : (r32 x4 && true) = true := an f0 rfl
  show some (r32 x4 && true, _) = _
  rw [hG]
  try rfl

theorem B207_63 (L : Nat) (V : Mv) (b : Bool) (x1 : Int) (x2 : Int) (x3 : Int) (x4 : Int) (x5 : Int) (g0 : 0 ≤ ((4 * x1) + x4) - 1 ∧ ((4 * x1) + x4) - 1 < 16) (g1 : in32 x3) : nxs 19 207 63 [some (.inr (.inr 120)), some (.inl x1), some (.inl x2), some (.inl x3), some (.inl x4), some (.inl x5)] [] (M0 L V b) = some (true, cond (!decide (x3 = (-9))) 99 91, [some (.inr (.inr 120)), some (.inl x1), some (.inl x2), some (.inl x3), some (.inl x4), some (.inl x5)], [.inl ((x2 + 8) + (V 126 (((4 * x1) + x4) - 1).toNat)), .inr (.inr 142)], M0 L V b) := by
  have f0 : gX (M0 L V b) 126 1 (((4 * x1) + x4) - 1) = true := gx_of rfl g0
  have f1 : (r32 x3 && r32 (-9)) = true := rr32_of g1 (by decide)
  have hG : (gX (M0 L V b) 126 1 (((4 * x1) + x4) - 1) && ((r32 x3 && r32 (-9)) && true)) = true := an f0 (an f1 rfl)
  show some (gX (M0 L V b) 126 1 (((4 * x1) + x4) - 1) && ((r32 x3 && r32 (-9)) && true), _) = _
  rw [hG]
  try rfl

theorem B207_91 (L : Nat) (V : Mv) (b : Bool) (x1 : Int) (x2 : Int) (x3 : Int) (x4 : Int) (x5 : Int) (s1 : Int)  : nxs 2 207 91 [some (.inr (.inr 120)), some (.inl x1), some (.inl x2), some (.inl x3), some (.inl x4), some (.inl x5)] [.inl s1, .inr (.inr 119)] (M0 L V b) = some (true, 93, [some (.inr (.inr 120)), some (.inl x1), some (.inl x2), some (.inl x3), some (.inl x4), some (.inl x5)], [.inl x2, .inr (.inr 120), .inl s1, .inr (.inr 119)], M0 L V b) := by
  rfl

theorem B207_96 (L : Nat) (V : Mv) (b : Bool) (x1 : Int) (x2 : Int) (x3 : Int) (x4 : Int) (x5 : Int) (s1 : Int) (s2 : Int)  : nxs 1 207 96 [some (.inr (.inr 120)), some (.inl x1), some (.inl x2), some (.inl x3), some (.inl x4), some (.inl x5)] [.inr (.inl s2), .inl s1, .inr (.inr 119)] (M0 L V b) = some (true, 107, [some (.inr (.inr 120)), some (.inl x1), some (.inl x2), some (.inl x3), some (.inl x4), some (.inl x5)], [.inr (.inl s2), .inl s1, .inr (.inr 119)], M0 L V b) := by
  rfl

theorem B207_99 (L : Nat) (V : Mv) (b : Bool) (x1 : Int) (x2 : Int) (x3 : Int) (x4 : Int) (x5 : Int) (s1 : Int) (g0 : 0 ≤ x2 + x3 ∧ x2 + x3 < 48) : nxs 6 207 99 [some (.inr (.inr 120)), some (.inl x1), some (.inl x2), some (.inl x3), some (.inl x4), some (.inl x5)] [.inl s1, .inr (.inr 119)] (M0 L V b) = some (true, 107, [some (.inr (.inr 120)), some (.inl x1), some (.inl x2), some (.inl x3), some (.inl x4), some (.inl x5)], [.inr (.inl (V 142 (x2 + x3).toNat)), .inl s1, .inr (.inr 119)], M0 L V b) := by
  have f0 : gX (M0 L V b) 142 2 (x2 + x3) = true := gx_of rfl g0
  have hG : (gX (M0 L V b) 142 2 (x2 + x3) && true) = true := an f0 rfl
  show some (gX (M0 L V b) 142 2 (x2 + x3) && true, _) = _
  rw [hG]
  try rfl

theorem B207_107 (L : Nat) (V : Mv) (b : Bool) (x1 : Int) (x2 : Int) (x3 : Int) (x4 : Int) (x5 : Int) (s1 : Int) (s2 : Int) (g0 : 0 ≤ s1 ∧ s1 < 8) : nxs 1 207 107 [some (.inr (.inr 120)), some (.inl x1), some (.inl x2), some (.inl x3), some (.inl x4), some (.inl x5)] [.inr (.inl s2), .inl s1, .inr (.inr 119)] (M0 L V b) = some (true, 108, [some (.inr (.inr 120)), some (.inl x1), some (.inl x2), some (.inl x3), some (.inl x4), some (.inl x5)], [], M0 L (uV V 119 (s1).toNat s2) b) := by
  have f0 : (gX (M0 L V b) 119 2 s1 && !Nat.beq 119 0) = true := gs_of (gx_of rfl g0) (by decide)
  have hG : ((gX (M0 L V b) 119 2 s1 && !Nat.beq 119 0) && true) = true := an f0 rfl
  show some ((gX (M0 L V b) 119 2 s1 && !Nat.beq 119 0) && true, _) = _
  rw [hG]
  try rfl

-- 208: MendedOrNewModel.sumAt(I)J
theorem B208_0 (L : Nat) (V : Mv) (b : Bool) (x1 : Int)  : nxs 4 208 0 [some (.inr (.inr 120)), some (.inl x1), none, none, none] [] (M0 L V b) = some (true, 5, [some (.inr (.inr 120)), some (.inl x1), some (.inr (.inl 0)), none, some (.inl 0)], [], M0 L V b) := by
  rfl

theorem B208_5 (L : Nat) (V : Mv) (b : Bool) (x1 : Int) (x2 : Int) (x4 : Int) (g0 : in32 x4) : nxs 3 208 5 [some (.inr (.inr 120)), some (.inl x1), some (.inr (.inl x2)), none, some (.inl x4)] [] (M0 L V b) = some (true, cond (decide (8 ≤ x4)) 30 12, [some (.inr (.inr 120)), some (.inl x1), some (.inr (.inl x2)), none, some (.inl x4)], [], M0 L V b) := by
  have f0 : (r32 x4 && r32 8) = true := rr32_of g0 (by decide)
  have hG : ((r32 x4 && r32 8) && true) = true := an f0 rfl
  show some ((r32 x4 && r32 8) && true, _) = _
  rw [hG]
  try rfl

theorem B208_12 (L : Nat) (V : Mv) (b : Bool) (x1 : Int) (x2 : Int) (x4 : Int) (g0 : 0 ≤ x1 + x4 ∧ x1 + x4 < 48) : nxs 11 208 12 [some (.inr (.inr 120)), some (.inl x1), some (.inr (.inl x2)), none, some (.inl x4)] [] (M0 L V b) = some (true, 5, [some (.inr (.inr 120)), some (.inl x1), some (.inr (.inl (x2 + (V 142 (x1 + x4).toNat)))), none, some (.inl (x4 + 1))], [], M0 L V b) := by
  have f0 : gX (M0 L V b) 142 2 (x1 + x4) = true := gx_of rfl g0
  have hG : (gX (M0 L V b) 142 2 (x1 + x4) && true) = true := an f0 rfl
  show some (gX (M0 L V b) 142 2 (x1 + x4) && true, _) = _
  rw [hG]
  try rfl

theorem B208_30 (L : Nat) (V : Mv) (b : Bool) (x1 : Int) (x2 : Int) (x4 : Int)  : nxs 1 208 30 [some (.inr (.inr 120)), some (.inl x1), some (.inr (.inl x2)), none, some (.inl x4)] [] (M0 L V b) = some (true, 31, [some (.inr (.inr 120)), some (.inl x1), some (.inr (.inl x2)), none, some (.inl x4)], [.inr (.inl x2)], M0 L V b) := by
  rfl

-- 209: MendedOrNewModel.price(II)I
theorem B209_0 (L : Nat) (V : Mv) (b : Bool) (x1 : Int) (x2 : Int) (g0 : in32 x2) : nxs 2 209 0 [some (.inr (.inr 120)), some (.inl x1), some (.inl x2)] [] (M0 L V b) = some (true, cond (!decide (x2 = 0)) 8 4, [some (.inr (.inr 120)), some (.inl x1), some (.inl x2)], [], M0 L V b) := by
  have f0 : r32 x2 = true := r32_of g0
  have hG : (r32 x2 && true) = true := an f0 rfl
  show some (r32 x2 && true, _) = _
  rw [hG]
  try rfl

theorem B209_4 (L : Nat) (V : Mv) (b : Bool) (x1 : Int) (x2 : Int)  : nxs 2 209 4 [some (.inr (.inr 120)), some (.inl x1), some (.inl x2)] [] (M0 L V b) = some (true, 20, [some (.inr (.inr 120)), some (.inl x1), some (.inl x2)], [.inl 0], M0 L V b) := by
  rfl

theorem B209_8 (L : Nat) (V : Mv) (b : Bool) (x1 : Int) (x2 : Int) (g0 : 0 ≤ ((4 * x1) + x2) - 1 ∧ ((4 * x1) + x2) - 1 < 16) : nxs 10 209 8 [some (.inr (.inr 120)), some (.inl x1), some (.inl x2)] [] (M0 L V b) = some (true, 20, [some (.inr (.inr 120)), some (.inl x1), some (.inl x2)], [.inl (V 127 (((4 * x1) + x2) - 1).toNat)], M0 L V b) := by
  have f0 : gX (M0 L V b) 127 1 (((4 * x1) + x2) - 1) = true := gx_of rfl g0
  have hG : (gX (M0 L V b) 127 1 (((4 * x1) + x2) - 1) && true) = true := an f0 rfl
  show some (gX (M0 L V b) 127 1 (((4 * x1) + x2) - 1) && true, _) = _
  rw [hG]
  try rfl

-- 210: MendedOrNewModel.behindThree(I)J
theorem B210_0 (L : Nat) (V : Mv) (b : Bool) (x1 : Int)  : nxs 4 210 0 [some (.inr (.inr 120)), some (.inl x1), none, none] [] (M0 L V b) = some (true, 7, [some (.inr (.inr 120)), some (.inl x1), none, none], [.inl 8, .inl x1, .inr (.inr 120), .inr (.inl 10000)], M0 L V b) := by
  rfl

theorem B210_10 (L : Nat) (V : Mv) (b : Bool) (x1 : Int) (s0 : Int) (s1 : Int)  : nxs 6 210 10 [some (.inr (.inr 120)), some (.inl x1), none, none] [.inr (.inl s1), .inr (.inl s0)] (M0 L V b) = some (true, 17, [some (.inr (.inr 120)), some (.inl x1), some (.inr (.inl (s0 * s1))), none], [.inl 1, .inl 8, .inl x1, .inr (.inr 120)], M0 L V b) := by
  rfl

theorem B210_20 (L : Nat) (V : Mv) (b : Bool) (x1 : Int) (x2 : Int)  : nxs 3 210 20 [some (.inr (.inr 120)), some (.inl x1), some (.inr (.inl x2)), none] [] (M0 L V b) = some (true, 24, [some (.inr (.inr 120)), some (.inl x1), some (.inr (.inl x2)), none], [.inl 16, .inr (.inr 120), .inr (.inl x2)], M0 L V b) := by
  rfl

theorem B210_27 (L : Nat) (V : Mv) (b : Bool) (x1 : Int) (x2 : Int) (s0 : Int) (s1 : Int) (g0 : in64 s1) (g1 : in32 (cmpI s1 0)) : nxs 3 210 27 [some (.inr (.inr 120)), some (.inl x1), some (.inr (.inl x2)), none] [.inr (.inl s1), .inr (.inl s0)] (M0 L V b) = some (true, cond (decide (cmpI s1 0 ≤ 0)) 40 32, [some (.inr (.inr 120)), some (.inl x1), some (.inr (.inl x2)), none], [.inr (.inl s0)], M0 L V b) := by
  have f0 : (r64 s1 && r64 0) = true := rr64_of g0 (by decide)
  have f1 : r32 (cmpI s1 0) = true := r32_of g1
  have hG : ((r64 s1 && r64 0) && (r32 (cmpI s1 0) && true)) = true := an f0 (an f1 rfl)
  show some ((r64 s1 && r64 0) && (r32 (cmpI s1 0) && true), _) = _
  rw [hG]
  try rfl

theorem B210_32 (L : Nat) (V : Mv) (b : Bool) (x1 : Int) (x2 : Int) (s0 : Int)  : nxs 2 210 32 [some (.inr (.inr 120)), some (.inl x1), some (.inr (.inl x2)), none] [.inr (.inl s0)] (M0 L V b) = some (true, 34, [some (.inr (.inr 120)), some (.inl x1), some (.inr (.inl x2)), none], [.inl x1, .inr (.inr 120), .inr (.inl s0)], M0 L V b) := by
  rfl

theorem B210_37 (L : Nat) (V : Mv) (b : Bool) (x1 : Int) (x2 : Int) (s0 : Int) (s1 : Int)  : nxs 1 210 37 [some (.inr (.inr 120)), some (.inl x1), some (.inr (.inl x2)), none] [.inr (.inl s1), .inr (.inl s0)] (M0 L V b) = some (true, 41, [some (.inr (.inr 120)), some (.inl x1), some (.inr (.inl x2)), none], [.inr (.inl s1), .inr (.inl s0)], M0 L V b) := by
  rfl

theorem B210_40 (L : Nat) (V : Mv) (b : Bool) (x1 : Int) (x2 : Int) (s0 : Int)  : nxs 1 210 40 [some (.inr (.inr 120)), some (.inl x1), some (.inr (.inl x2)), none] [.inr (.inl s0)] (M0 L V b) = some (true, 41, [some (.inr (.inr 120)), some (.inl x1), some (.inr (.inl x2)), none], [.inr (.inl 0), .inr (.inl s0)], M0 L V b) := by
  rfl

theorem B210_41 (L : Nat) (V : Mv) (b : Bool) (x1 : Int) (x2 : Int) (s0 : Int) (s1 : Int)  : nxs 6 210 41 [some (.inr (.inr 120)), some (.inl x1), some (.inr (.inl x2)), none] [.inr (.inl s1), .inr (.inl s0)] (M0 L V b) = some (true, 48, [some (.inr (.inr 120)), some (.inl x1), some (.inr (.inl (s0 + s1))), none], [.inl 0, .inl 8, .inl x1, .inr (.inr 120)], M0 L V b) := by
  rfl

theorem B210_51 (L : Nat) (V : Mv) (b : Bool) (x1 : Int) (x2 : Int)  : nxs 3 210 51 [some (.inr (.inr 120)), some (.inl x1), some (.inr (.inl x2)), none] [] (M0 L V b) = some (true, 55, [some (.inr (.inr 120)), some (.inl x1), some (.inr (.inl x2)), none], [.inl 16, .inr (.inr 120), .inr (.inl x2)], M0 L V b) := by
  rfl

theorem B210_58 (L : Nat) (V : Mv) (b : Bool) (x1 : Int) (x2 : Int) (s0 : Int) (s1 : Int) (g0 : in64 s1) (g1 : in32 (cmpI s1 0)) : nxs 3 210 58 [some (.inr (.inr 120)), some (.inl x1), some (.inr (.inl x2)), none] [.inr (.inl s1), .inr (.inl s0)] (M0 L V b) = some (true, cond (decide (cmpI s1 0 ≤ 0)) 71 63, [some (.inr (.inr 120)), some (.inl x1), some (.inr (.inl x2)), none], [.inr (.inl s0)], M0 L V b) := by
  have f0 : (r64 s1 && r64 0) = true := rr64_of g0 (by decide)
  have f1 : r32 (cmpI s1 0) = true := r32_of g1
  have hG : ((r64 s1 && r64 0) && (r32 (cmpI s1 0) && true)) = true := an f0 (an f1 rfl)
  show some ((r64 s1 && r64 0) && (r32 (cmpI s1 0) && true), _) = _
  rw [hG]
  try rfl

theorem B210_63 (L : Nat) (V : Mv) (b : Bool) (x1 : Int) (x2 : Int) (s0 : Int)  : nxs 2 210 63 [some (.inr (.inr 120)), some (.inl x1), some (.inr (.inl x2)), none] [.inr (.inl s0)] (M0 L V b) = some (true, 65, [some (.inr (.inr 120)), some (.inl x1), some (.inr (.inl x2)), none], [.inl x1, .inr (.inr 120), .inr (.inl s0)], M0 L V b) := by
  rfl

theorem B210_68 (L : Nat) (V : Mv) (b : Bool) (x1 : Int) (x2 : Int) (s0 : Int) (s1 : Int)  : nxs 1 210 68 [some (.inr (.inr 120)), some (.inl x1), some (.inr (.inl x2)), none] [.inr (.inl s1), .inr (.inl s0)] (M0 L V b) = some (true, 72, [some (.inr (.inr 120)), some (.inl x1), some (.inr (.inl x2)), none], [.inr (.inl s1), .inr (.inl s0)], M0 L V b) := by
  rfl

theorem B210_71 (L : Nat) (V : Mv) (b : Bool) (x1 : Int) (x2 : Int) (s0 : Int)  : nxs 1 210 71 [some (.inr (.inr 120)), some (.inl x1), some (.inr (.inl x2)), none] [.inr (.inl s0)] (M0 L V b) = some (true, 72, [some (.inr (.inr 120)), some (.inl x1), some (.inr (.inl x2)), none], [.inr (.inl 0), .inr (.inl s0)], M0 L V b) := by
  rfl

theorem B210_72 (L : Nat) (V : Mv) (b : Bool) (x1 : Int) (x2 : Int) (s0 : Int) (s1 : Int)  : nxs 1 210 72 [some (.inr (.inr 120)), some (.inl x1), some (.inr (.inl x2)), none] [.inr (.inl s1), .inr (.inl s0)] (M0 L V b) = some (true, 73, [some (.inr (.inr 120)), some (.inl x1), some (.inr (.inl x2)), none], [.inr (.inl (s0 + s1))], M0 L V b) := by
  rfl

-- 211: MendedOrNewModel.runs(II)J
theorem B211_0 (L : Nat) (V : Mv) (b : Bool) (x1 : Int) (x2 : Int)  : nxs 4 211 0 [some (.inr (.inr 120)), some (.inl x1), some (.inl x2), none, none, none] [] (M0 L V b) = some (true, 5, [some (.inr (.inr 120)), some (.inl x1), some (.inl x2), some (.inr (.inl 0)), none, some (.inl 0)], [], M0 L V b) := by
  rfl

theorem B211_5 (L : Nat) (V : Mv) (b : Bool) (x1 : Int) (x2 : Int) (x3 : Int) (x5 : Int) (g0 : in32 x5) : nxs 3 211 5 [some (.inr (.inr 120)), some (.inl x1), some (.inl x2), some (.inr (.inl x3)), none, some (.inl x5)] [] (M0 L V b) = some (true, cond (decide (8 ≤ x5)) 44 12, [some (.inr (.inr 120)), some (.inl x1), some (.inl x2), some (.inr (.inl x3)), none, some (.inl x5)], [], M0 L V b) := by
  have f0 : (r32 x5 && r32 8) = true := rr32_of g0 (by decide)
  have hG : ((r32 x5 && r32 8) && true) = true := an f0 rfl
  show some ((r32 x5 && r32 8) && true, _) = _
  rw [hG]
  try rfl

theorem B211_12 (L : Nat) (V : Mv) (b : Bool) (x1 : Int) (x2 : Int) (x3 : Int) (x5 : Int) (g0 : 0 ≤ x2 + x5 ∧ x2 + x5 < 48) (g1 : 0 ≤ (8 * x1) + x5 ∧ (8 * x1) + x5 < 32) (g2 : in32 (V 124 ((8 * x1) + x5).toNat)) : nxs 21 211 12 [some (.inr (.inr 120)), some (.inl x1), some (.inl x2), some (.inr (.inl x3)), none, some (.inl x5)] [] (M0 L V b) = some (true, 5, [some (.inr (.inr 120)), some (.inl x1), some (.inl x2), some (.inr (.inl (x3 + ((V 142 (x2 + x5).toNat) * (V 124 ((8 * x1) + x5).toNat))))), none, some (.inl (x5 + 1))], [], M0 L V b) := by
  have f0 : gX (M0 L V b) 142 2 (x2 + x5) = true := gx_of rfl g0
  have f1 : gX (M0 L V b) 124 1 ((8 * x1) + x5) = true := gx_of rfl g1
  have f2 : r32 (V 124 ((8 * x1) + x5).toNat) = true := r32_of g2
  have hG : (gX (M0 L V b) 142 2 (x2 + x5) && (gX (M0 L V b) 124 1 ((8 * x1) + x5) && (r32 (V 124 ((8 * x1) + x5).toNat) && true))) = true := an f0 (an f1 (an f2 rfl))
  show some (gX (M0 L V b) 142 2 (x2 + x5) && (gX (M0 L V b) 124 1 ((8 * x1) + x5) && (r32 (V 124 ((8 * x1) + x5).toNat) && true)), _) = _
  rw [hG]
  try rfl

theorem B211_44 (L : Nat) (V : Mv) (b : Bool) (x1 : Int) (x2 : Int) (x3 : Int) (x5 : Int)  : nxs 1 211 44 [some (.inr (.inr 120)), some (.inl x1), some (.inl x2), some (.inr (.inl x3)), none, some (.inl x5)] [] (M0 L V b) = some (true, 45, [some (.inr (.inr 120)), some (.inl x1), some (.inl x2), some (.inr (.inl x3)), none, some (.inl x5)], [.inr (.inl x3)], M0 L V b) := by
  rfl

-- 212: MendedOrNewModel.goOn(IIZ)V
theorem B212_0 (L : Nat) (V : Mv) (b : Bool) (x1 : Int) (x2 : Int) (x3 : Int)  : nxs 2 212 0 [some (.inr (.inr 120)), some (.inl x1), some (.inl x2), some (.inl x3), none, none, none] [] (M0 L V b) = some (true, 3, [some (.inr (.inr 120)), some (.inl x1), some (.inl x2), some (.inl x3), some (.inl 0), none, none], [], M0 L V b) := by
  rfl

theorem B212_3 (L : Nat) (V : Mv) (b : Bool) (x1 : Int) (x2 : Int) (x3 : Int) (x4 : Int) (g0 : in32 x4) : nxs 3 212 3 [some (.inr (.inr 120)), some (.inl x1), some (.inl x2), some (.inl x3), some (.inl x4), none, none] [] (M0 L V b) = some (true, cond (decide (8 ≤ x4)) 29 10, [some (.inr (.inr 120)), some (.inl x1), some (.inl x2), some (.inl x3), some (.inl x4), none, none], [], M0 L V b) := by
  have f0 : (r32 x4 && r32 8) = true := rr32_of g0 (by decide)
  have hG : ((r32 x4 && r32 8) && true) = true := an f0 rfl
  show some ((r32 x4 && r32 8) && true, _) = _
  rw [hG]
  try rfl

theorem B212_10 (L : Nat) (V : Mv) (b : Bool) (x1 : Int) (x2 : Int) (x3 : Int) (x4 : Int) (g0 : 0 ≤ (x2 + 8) + x4 ∧ (x2 + 8) + x4 < 48) : nxs 11 212 10 [some (.inr (.inr 120)), some (.inl x1), some (.inl x2), some (.inl x3), some (.inl x4), none, none] [] (M0 L V b) = some (true, 3, [some (.inr (.inr 120)), some (.inl x1), some (.inl x2), some (.inl x3), some (.inl (x4 + 1)), none, none], [], M0 L (uV V 142 ((x2 + 8) + x4).toNat 0) b) := by
  have f0 : (gX (M0 L V b) 142 2 ((x2 + 8) + x4) && !Nat.beq 142 0) = true := gs_of (gx_of rfl g0) (by decide)
  have hG : ((gX (M0 L V b) 142 2 ((x2 + 8) + x4) && !Nat.beq 142 0) && true) = true := an f0 rfl
  show some ((gX (M0 L V b) 142 2 ((x2 + 8) + x4) && !Nat.beq 142 0) && true, _) = _
  rw [hG]
  try rfl

theorem B212_29 (L : Nat) (V : Mv) (b : Bool) (x1 : Int) (x2 : Int) (x3 : Int) (x4 : Int)  : nxs 2 212 29 [some (.inr (.inr 120)), some (.inl x1), some (.inl x2), some (.inl x3), some (.inl x4), none, none] [] (M0 L V b) = some (true, 32, [some (.inr (.inr 120)), some (.inl x1), some (.inl x2), some (.inl x3), some (.inl 0), none, none], [], M0 L V b) := by
  rfl

theorem B212_32 (L : Nat) (V : Mv) (b : Bool) (x1 : Int) (x2 : Int) (x3 : Int) (x4 : Int) (g0 : 0 ≤ x1 ∧ x1 < 4) (g1 : in32 x4) (g2 : in32 (V 121 (x1).toNat)) : nxs 6 212 32 [some (.inr (.inr 120)), some (.inl x1), some (.inl x2), some (.inl x3), some (.inl x4), none, none] [] (M0 L V b) = some (true, cond (decide (V 121 (x1).toNat ≤ x4)) 135 43, [some (.inr (.inr 120)), some (.inl x1), some (.inl x2), some (.inl x3), some (.inl x4), none, none], [], M0 L V b) := by
  have f0 : gX (M0 L V b) 121 1 x1 = true := gx_of rfl g0
  have f1 : (r32 x4 && r32 (V 121 (x1).toNat)) = true := rr32_of g1 g2
  have hG : (gX (M0 L V b) 121 1 x1 && ((r32 x4 && r32 (V 121 (x1).toNat)) && true)) = true := an f0 (an f1 rfl)
  show some (gX (M0 L V b) 121 1 x1 && ((r32 x4 && r32 (V 121 (x1).toNat)) && true), _) = _
  rw [hG]
  try rfl

theorem B212_43 (L : Nat) (V : Mv) (b : Bool) (x1 : Int) (x2 : Int) (x3 : Int) (x4 : Int)  : nxs 2 212 43 [some (.inr (.inr 120)), some (.inl x1), some (.inl x2), some (.inl x3), some (.inl x4), none, none] [] (M0 L V b) = some (true, 47, [some (.inr (.inr 120)), some (.inl x1), some (.inl x2), some (.inl x3), some (.inl x4), some (.inl x4), none], [], M0 L V b) := by
  rfl

theorem B212_47 (L : Nat) (V : Mv) (b : Bool) (x1 : Int) (x2 : Int) (x3 : Int) (x4 : Int) (x5 : Int) (g0 : 0 ≤ x1 ∧ x1 < 4) (g1 : in32 x5) (g2 : in32 (V 121 (x1).toNat)) : nxs 6 212 47 [some (.inr (.inr 120)), some (.inl x1), some (.inl x2), some (.inl x3), some (.inl x4), some (.inl x5), none] [] (M0 L V b) = some (true, cond (decide (V 121 (x1).toNat ≤ x5)) 129 58, [some (.inr (.inr 120)), some (.inl x1), some (.inl x2), some (.inl x3), some (.inl x4), some (.inl x5), none], [], M0 L V b) := by
  have f0 : gX (M0 L V b) 121 1 x1 = true := gx_of rfl g0
  have f1 : (r32 x5 && r32 (V 121 (x1).toNat)) = true := rr32_of g1 g2
  have hG : (gX (M0 L V b) 121 1 x1 && ((r32 x5 && r32 (V 121 (x1).toNat)) && true)) = true := an f0 (an f1 rfl)
  show some (gX (M0 L V b) 121 1 x1 && ((r32 x5 && r32 (V 121 (x1).toNat)) && true), _) = _
  rw [hG]
  try rfl

theorem B212_58 (L : Nat) (V : Mv) (b : Bool) (x1 : Int) (x2 : Int) (x3 : Int) (x4 : Int) (x5 : Int) (g0 : 0 ≤ (8 * x1) + x5 ∧ (8 * x1) + x5 < 32) (g1 : 0 ≤ (x2 + 8) + x5 ∧ (x2 + 8) + x5 < 48) (g2 : 0 ≤ x2 + x4 ∧ x2 + x4 < 48) : nxs 28 212 58 [some (.inr (.inr 120)), some (.inl x1), some (.inl x2), some (.inl x3), some (.inl x4), some (.inl x5), none] [] (M0 L V b) = some (true, 100, [some (.inr (.inr 120)), some (.inl x1), some (.inl x2), some (.inl x3), some (.inl x4), some (.inl x5), some (.inl (V 125 ((8 * x1) + x5).toNat))], [.inl x5, .inl x4, .inl x1, .inr (.inr 120), .inr (.inl (V 142 (x2 + x4).toNat)), .inr (.inl (V 142 ((x2 + 8) + x5).toNat)), .inl ((x2 + 8) + x5), .inr (.inr 142)], M0 L V b) := by
  have f0 : gX (M0 L V b) 125 1 ((8 * x1) + x5) = true := gx_of rfl g0
  have f1 : gX (M0 L V b) 142 2 ((x2 + 8) + x5) = true := gx_of rfl g1
  have f2 : gX (M0 L V b) 142 2 (x2 + x4) = true := gx_of rfl g2
  have hG : (gX (M0 L V b) 125 1 ((8 * x1) + x5) && (gX (M0 L V b) 142 2 ((x2 + 8) + x5) && (gX (M0 L V b) 142 2 (x2 + x4) && true))) = true := an f0 (an f1 (an f2 rfl))
  show some (gX (M0 L V b) 125 1 ((8 * x1) + x5) && (gX (M0 L V b) 142 2 ((x2 + 8) + x5) && (gX (M0 L V b) 142 2 (x2 + x4) && true)), _) = _
  rw [hG]
  try rfl

theorem B212_103 (L : Nat) (V : Mv) (b : Bool) (x1 : Int) (x2 : Int) (x3 : Int) (x4 : Int) (x5 : Int) (x6 : Int) (s1 : Int) (s2 : Int) (s3 : Int) (s4 : Int) (g0 : in32 s4) (g1 : in32 x3) : nxs 4 212 103 [some (.inr (.inr 120)), some (.inl x1), some (.inl x2), some (.inl x3), some (.inl x4), some (.inl x5), some (.inl x6)] [.inl s4, .inr (.inl s3), .inr (.inl s2), .inl s1, .inr (.inr 119)] (M0 L V b) = some (true, cond (decide (x3 = 0)) 114 109, [some (.inr (.inr 120)), some (.inl x1), some (.inl x2), some (.inl x3), some (.inl x4), some (.inl x5), some (.inl x6)], [.inr (.inl (s3 * s4)), .inr (.inl s2), .inl s1, .inr (.inr 119)], M0 L V b) := by
  have f0 : r32 s4 = true := r32_of g0
  have f1 : r32 x3 = true := r32_of g1
  have hG : (r32 s4 && (r32 x3 && true)) = true := an f0 (an f1 rfl)
  show some (r32 s4 && (r32 x3 && true), _) = _
  rw [hG]
  try rfl

theorem B212_109 (L : Nat) (V : Mv) (b : Bool) (x1 : Int) (x2 : Int) (x3 : Int) (x4 : Int) (x5 : Int) (x6 : Int) (s1 : Int) (s2 : Int) (s3 : Int)  : nxs 2 212 109 [some (.inr (.inr 120)), some (.inl x1), some (.inl x2), some (.inl x3), some (.inl x4), some (.inl x5), some (.inl x6)] [.inr (.inl s3), .inr (.inl s2), .inl s1, .inr (.inr 119)] (M0 L V b) = some (true, 119, [some (.inr (.inr 120)), some (.inl x1), some (.inl x2), some (.inl x3), some (.inl x4), some (.inl x5), some (.inl x6)], [.inl x6, .inr (.inl s3), .inr (.inl s2), .inl s1, .inr (.inr 119)], M0 L V b) := by
  rfl

theorem B212_114 (L : Nat) (V : Mv) (b : Bool) (x1 : Int) (x2 : Int) (x3 : Int) (x4 : Int) (x5 : Int) (x6 : Int) (s1 : Int) (s2 : Int) (s3 : Int)  : nxs 3 212 114 [some (.inr (.inr 120)), some (.inl x1), some (.inl x2), some (.inl x3), some (.inl x4), some (.inl x5), some (.inl x6)] [.inr (.inl s3), .inr (.inl s2), .inl s1, .inr (.inr 119)] (M0 L V b) = some (true, 119, [some (.inr (.inr 120)), some (.inl x1), some (.inl x2), some (.inl x3), some (.inl x4), some (.inl x5), some (.inl x6)], [.inl (10 - x6), .inr (.inl s3), .inr (.inl s2), .inl s1, .inr (.inr 119)], M0 L V b) := by
  rfl

theorem B212_119 (L : Nat) (V : Mv) (b : Bool) (x1 : Int) (x2 : Int) (x3 : Int) (x4 : Int) (x5 : Int) (x6 : Int) (s1 : Int) (s2 : Int) (s3 : Int) (s4 : Int) (g0 : in32 s4) (g1 : 0 ≤ s1 ∧ s1 < 8) : nxs 6 212 119 [some (.inr (.inr 120)), some (.inl x1), some (.inl x2), some (.inl x3), some (.inl x4), some (.inl x5), some (.inl x6)] [.inl s4, .inr (.inl s3), .inr (.inl s2), .inl s1, .inr (.inr 119)] (M0 L V b) = some (true, 47, [some (.inr (.inr 120)), some (.inl x1), some (.inl x2), some (.inl x3), some (.inl x4), some (.inl (x5 + 1)), some (.inl x6)], [], M0 L (uV V 119 (s1).toNat (s2 + (s3 * s4))) b) := by
  have f0 : r32 s4 = true := r32_of g0
  have f1 : (gX (M0 L V b) 119 2 s1 && !Nat.beq 119 0) = true := gs_of (gx_of rfl g1) (by decide)
  have hG : (r32 s4 && ((gX (M0 L V b) 119 2 s1 && !Nat.beq 119 0) && true)) = true := an f0 (an f1 rfl)
  show some (r32 s4 && ((gX (M0 L V b) 119 2 s1 && !Nat.beq 119 0) && true), _) = _
  rw [hG]
  try rfl

theorem B212_129 (L : Nat) (V : Mv) (b : Bool) (x1 : Int) (x2 : Int) (x3 : Int) (x4 : Int) (x5 : Int)  : nxs 2 212 129 [some (.inr (.inr 120)), some (.inl x1), some (.inl x2), some (.inl x3), some (.inl x4), some (.inl x5), none] [] (M0 L V b) = some (true, 32, [some (.inr (.inr 120)), some (.inl x1), some (.inl x2), some (.inl x3), some (.inl (x4 + 1)), some (.inl x5), none], [], M0 L V b) := by
  rfl

-- 213: MendedOrNewModel.leastTwo(I)J
theorem B213_0 (L : Nat) (V : Mv) (b : Bool) (x1 : Int)  : nxs 3 213 0 [some (.inr (.inr 120)), some (.inl x1), none, none, none, none, none, none] [] (M0 L V b) = some (true, 4, [some (.inr (.inr 120)), some (.inl x1), none, none, none, none, none, none], [.inl (-9), .inl x1, .inr (.inr 120)], M0 L V b) := by
  rfl

theorem B213_7 (L : Nat) (V : Mv) (b : Bool) (x1 : Int) (s0 : Int) (g0 : 0 ≤ x1 ∧ x1 < 4) (g1 : in32 (V 122 (x1).toNat)) : nxs 10 213 7 [some (.inr (.inr 120)), some (.inl x1), none, none, none, none, none, none] [.inr (.inl s0)] (M0 L V b) = some (true, cond (decide (V 122 (x1).toNat = (-9))) 125 25, [some (.inr (.inr 120)), some (.inl x1), some (.inr (.inl s0)), none, some (.inl (V 120 33)), none, none, none], [], M0 L V b) := by
  have f0 : gX (M0 L V b) 122 1 x1 = true := gx_of rfl g0
  have f1 : (r32 (V 122 (x1).toNat) && r32 (-9)) = true := rr32_of g1 (by decide)
  have hG : (gX (M0 L V b) 122 1 x1 && ((r32 (V 122 (x1).toNat) && r32 (-9)) && true)) = true := an f0 (an f1 rfl)
  show some (gX (M0 L V b) 122 1 x1 && ((r32 (V 122 (x1).toNat) && r32 (-9)) && true), _) = _
  rw [hG]
  try rfl

theorem B213_25 (L : Nat) (V : Mv) (b : Bool) (x1 : Int) (x2 : Int) (x4 : Int) (g0 : 0 ≤ x1 ∧ x1 < 4) (g1 : in32 (V 122 (x1).toNat)) : nxs 9 213 25 [some (.inr (.inr 120)), some (.inl x1), some (.inr (.inl x2)), none, some (.inl x4), none, none, none] [] (M0 L V b) = some (true, 39, [some (.inr (.inr 120)), some (.inl x1), some (.inr (.inl x2)), none, some (.inl x4), none, none, none], [.inl 16, .inr (.inr 120), .inr (.inl (100 * (V 122 (x1).toNat)))], M0 L V b) := by
  have f0 : gX (M0 L V b) 122 1 x1 = true := gx_of rfl g0
  have f1 : r32 (V 122 (x1).toNat) = true := r32_of g1
  have hG : (gX (M0 L V b) 122 1 x1 && (r32 (V 122 (x1).toNat) && true)) = true := an f0 (an f1 rfl)
  show some (gX (M0 L V b) 122 1 x1 && (r32 (V 122 (x1).toNat) && true), _) = _
  rw [hG]
  try rfl

theorem B213_42 (L : Nat) (V : Mv) (b : Bool) (x1 : Int) (x2 : Int) (x4 : Int) (s0 : Int) (s1 : Int)  : nxs 4 213 42 [some (.inr (.inr 120)), some (.inl x1), some (.inr (.inl x2)), none, some (.inl x4), none, none, none] [.inr (.inl s1), .inr (.inl s0)] (M0 L V b) = some (true, 48, [some (.inr (.inr 120)), some (.inl x1), some (.inr (.inl x2)), none, some (.inl x4), some (.inr (.inl (s0 * s1))), none, some (.inl 0)], [], M0 L V b) := by
  rfl

theorem B213_48 (L : Nat) (V : Mv) (b : Bool) (x1 : Int) (x2 : Int) (x4 : Int) (x5 : Int) (x7 : Int) (g0 : 0 ≤ x1 ∧ x1 < 4) (g1 : in32 x7) (g2 : in32 (V 121 (x1).toNat)) : nxs 6 213 48 [some (.inr (.inr 120)), some (.inl x1), some (.inr (.inl x2)), none, some (.inl x4), some (.inr (.inl x5)), none, some (.inl x7)] [] (M0 L V b) = some (true, cond (decide (V 121 (x1).toNat ≤ x7)) 96 59, [some (.inr (.inr 120)), some (.inl x1), some (.inr (.inl x2)), none, some (.inl x4), some (.inr (.inl x5)), none, some (.inl x7)], [], M0 L V b) := by
  have f0 : gX (M0 L V b) 121 1 x1 = true := gx_of rfl g0
  have f1 : (r32 x7 && r32 (V 121 (x1).toNat)) = true := rr32_of g1 g2
  have hG : (gX (M0 L V b) 121 1 x1 && ((r32 x7 && r32 (V 121 (x1).toNat)) && true)) = true := an f0 (an f1 rfl)
  show some (gX (M0 L V b) 121 1 x1 && ((r32 x7 && r32 (V 121 (x1).toNat)) && true), _) = _
  rw [hG]
  try rfl

theorem B213_59 (L : Nat) (V : Mv) (b : Bool) (x1 : Int) (x2 : Int) (x4 : Int) (x5 : Int) (x7 : Int) (g0 : 0 ≤ 16 + x7 ∧ 16 + x7 < 48) (g1 : in64 (V 142 (16 + x7).toNat)) (g2 : in32 (cmpI (V 142 (16 + x7).toNat) 0)) : nxs 10 213 59 [some (.inr (.inr 120)), some (.inl x1), some (.inr (.inl x2)), none, some (.inl x4), some (.inr (.inl x5)), none, some (.inl x7)] [] (M0 L V b) = some (true, cond (decide (cmpI (V 142 (16 + x7).toNat) 0 ≤ 0)) 86 76, [some (.inr (.inr 120)), some (.inl x1), some (.inr (.inl x2)), none, some (.inl x4), some (.inr (.inl x5)), none, some (.inl x7)], [.inr (.inl x5)], M0 L V b) := by
  have f0 : gX (M0 L V b) 142 2 (16 + x7) = true := gx_of rfl g0
  have f1 : (r64 (V 142 (16 + x7).toNat) && r64 0) = true := rr64_of g1 (by decide)
  have f2 : r32 (cmpI (V 142 (16 + x7).toNat) 0) = true := r32_of g2
  have hG : (gX (M0 L V b) 142 2 (16 + x7) && ((r64 (V 142 (16 + x7).toNat) && r64 0) && (r32 (cmpI (V 142 (16 + x7).toNat) 0) && true))) = true := an f0 (an f1 (an f2 rfl))
  show some (gX (M0 L V b) 142 2 (16 + x7) && ((r64 (V 142 (16 + x7).toNat) && r64 0) && (r32 (cmpI (V 142 (16 + x7).toNat) 0) && true)), _) = _
  rw [hG]
  try rfl

theorem B213_76 (L : Nat) (V : Mv) (b : Bool) (x1 : Int) (x2 : Int) (x4 : Int) (x5 : Int) (x7 : Int) (s0 : Int)  : nxs 3 213 76 [some (.inr (.inr 120)), some (.inl x1), some (.inr (.inl x2)), none, some (.inl x4), some (.inr (.inl x5)), none, some (.inl x7)] [.inr (.inl s0)] (M0 L V b) = some (true, 80, [some (.inr (.inr 120)), some (.inl x1), some (.inr (.inl x2)), none, some (.inl x4), some (.inr (.inl x5)), none, some (.inl x7)], [.inl x7, .inl x1, .inr (.inr 120), .inr (.inl s0)], M0 L V b) := by
  rfl

theorem B213_83 (L : Nat) (V : Mv) (b : Bool) (x1 : Int) (x2 : Int) (x4 : Int) (x5 : Int) (x7 : Int) (s0 : Int) (s1 : Int)  : nxs 1 213 83 [some (.inr (.inr 120)), some (.inl x1), some (.inr (.inl x2)), none, some (.inl x4), some (.inr (.inl x5)), none, some (.inl x7)] [.inr (.inl s1), .inr (.inl s0)] (M0 L V b) = some (true, 87, [some (.inr (.inr 120)), some (.inl x1), some (.inr (.inl x2)), none, some (.inl x4), some (.inr (.inl x5)), none, some (.inl x7)], [.inr (.inl s1), .inr (.inl s0)], M0 L V b) := by
  rfl

theorem B213_86 (L : Nat) (V : Mv) (b : Bool) (x1 : Int) (x2 : Int) (x4 : Int) (x5 : Int) (x7 : Int) (s0 : Int)  : nxs 1 213 86 [some (.inr (.inr 120)), some (.inl x1), some (.inr (.inl x2)), none, some (.inl x4), some (.inr (.inl x5)), none, some (.inl x7)] [.inr (.inl s0)] (M0 L V b) = some (true, 87, [some (.inr (.inr 120)), some (.inl x1), some (.inr (.inl x2)), none, some (.inl x4), some (.inr (.inl x5)), none, some (.inl x7)], [.inr (.inl 0), .inr (.inl s0)], M0 L V b) := by
  rfl

theorem B213_87 (L : Nat) (V : Mv) (b : Bool) (x1 : Int) (x2 : Int) (x4 : Int) (x5 : Int) (x7 : Int) (s0 : Int) (s1 : Int)  : nxs 4 213 87 [some (.inr (.inr 120)), some (.inl x1), some (.inr (.inl x2)), none, some (.inl x4), some (.inr (.inl x5)), none, some (.inl x7)] [.inr (.inl s1), .inr (.inl s0)] (M0 L V b) = some (true, 48, [some (.inr (.inr 120)), some (.inl x1), some (.inr (.inl x2)), none, some (.inl x4), some (.inr (.inl (s0 + s1))), none, some (.inl (x7 + 1))], [], M0 L V b) := by
  rfl

theorem B213_96 (L : Nat) (V : Mv) (b : Bool) (x1 : Int) (x2 : Int) (x4 : Int) (x5 : Int) (x7 : Int) (g0 : in64 x5) (g1 : in64 x2) (g2 : in32 (cmpI x5 x2)) : nxs 4 213 96 [some (.inr (.inr 120)), some (.inl x1), some (.inr (.inl x2)), none, some (.inl x4), some (.inr (.inl x5)), none, some (.inl x7)] [] (M0 L V b) = some (true, cond (decide (0 ≤ cmpI x5 x2)) 107 103, [some (.inr (.inr 120)), some (.inl x1), some (.inr (.inl x2)), none, some (.inl x4), some (.inr (.inl x5)), none, some (.inl x7)], [], M0 L V b) := by
  have f0 : (r64 x5 && r64 x2) = true := rr64_of g0 g1
  have f1 : r32 (cmpI x5 x2) = true := r32_of g2
  have hG : ((r64 x5 && r64 x2) && (r32 (cmpI x5 x2) && true)) = true := an f0 (an f1 rfl)
  show some ((r64 x5 && r64 x2) && (r32 (cmpI x5 x2) && true), _) = _
  rw [hG]
  try rfl

theorem B213_103 (L : Nat) (V : Mv) (b : Bool) (x1 : Int) (x2 : Int) (x4 : Int) (x5 : Int) (x7 : Int)  : nxs 2 213 103 [some (.inr (.inr 120)), some (.inl x1), some (.inr (.inl x2)), none, some (.inl x4), some (.inr (.inl x5)), none, some (.inl x7)] [] (M0 L V b) = some (true, 109, [some (.inr (.inr 120)), some (.inl x1), some (.inr (.inl x2)), none, some (.inl x4), some (.inr (.inl x5)), none, some (.inl x7)], [.inl 5], M0 L V b) := by
  rfl

theorem B213_107 (L : Nat) (V : Mv) (b : Bool) (x1 : Int) (x2 : Int) (x4 : Int) (x5 : Int) (x7 : Int)  : nxs 1 213 107 [some (.inr (.inr 120)), some (.inl x1), some (.inr (.inl x2)), none, some (.inl x4), some (.inr (.inl x5)), none, some (.inl x7)] [] (M0 L V b) = some (true, 109, [some (.inr (.inr 120)), some (.inl x1), some (.inr (.inl x2)), none, some (.inl x4), some (.inr (.inl x5)), none, some (.inl x7)], [.inl x4], M0 L V b) := by
  rfl

theorem B213_109 (L : Nat) (V : Mv) (b : Bool) (x1 : Int) (x2 : Int) (x4 : Int) (x5 : Int) (x7 : Int) (s0 : Int) (g0 : in64 x5) (g1 : in64 x2) (g2 : in32 (cmpI x5 x2)) : nxs 5 213 109 [some (.inr (.inr 120)), some (.inl x1), some (.inr (.inl x2)), none, some (.inl x4), some (.inr (.inl x5)), none, some (.inl x7)] [.inl s0] (M0 L V b) = some (true, cond (decide (0 ≤ cmpI x5 x2)) 123 118, [some (.inr (.inr 120)), some (.inl x1), some (.inr (.inl x2)), none, some (.inl s0), some (.inr (.inl x5)), none, some (.inl x7)], [], M0 L V b) := by
  have f0 : (r64 x5 && r64 x2) = true := rr64_of g0 g1
  have f1 : r32 (cmpI x5 x2) = true := r32_of g2
  have hG : ((r64 x5 && r64 x2) && (r32 (cmpI x5 x2) && true)) = true := an f0 (an f1 rfl)
  show some ((r64 x5 && r64 x2) && (r32 (cmpI x5 x2) && true), _) = _
  rw [hG]
  try rfl

theorem B213_118 (L : Nat) (V : Mv) (b : Bool) (x1 : Int) (x2 : Int) (x4 : Int) (x5 : Int) (x7 : Int)  : nxs 2 213 118 [some (.inr (.inr 120)), some (.inl x1), some (.inr (.inl x2)), none, some (.inl x4), some (.inr (.inl x5)), none, some (.inl x7)] [] (M0 L V b) = some (true, 124, [some (.inr (.inr 120)), some (.inl x1), some (.inr (.inl x2)), none, some (.inl x4), some (.inr (.inl x5)), none, some (.inl x7)], [.inr (.inl x5)], M0 L V b) := by
  rfl

theorem B213_123 (L : Nat) (V : Mv) (b : Bool) (x1 : Int) (x2 : Int) (x4 : Int) (x5 : Int) (x7 : Int)  : nxs 1 213 123 [some (.inr (.inr 120)), some (.inl x1), some (.inr (.inl x2)), none, some (.inl x4), some (.inr (.inl x5)), none, some (.inl x7)] [] (M0 L V b) = some (true, 124, [some (.inr (.inr 120)), some (.inl x1), some (.inr (.inl x2)), none, some (.inl x4), some (.inr (.inl x5)), none, some (.inl x7)], [.inr (.inl x2)], M0 L V b) := by
  rfl

theorem B213_124 (L : Nat) (V : Mv) (b : Bool) (x1 : Int) (x2 : Int) (x4 : Int) (x5 : Int) (x7 : Int) (s0 : Int)  : nxs 1 213 124 [some (.inr (.inr 120)), some (.inl x1), some (.inr (.inl x2)), none, some (.inl x4), some (.inr (.inl x5)), none, some (.inl x7)] [.inr (.inl s0)] (M0 L V b) = some (true, 125, [some (.inr (.inr 120)), some (.inl x1), some (.inr (.inl s0)), none, some (.inl x4), some (.inr (.inl x5)), none, some (.inl x7)], [], M0 L V b) := by
  rfl

theorem B213_125 (L : Nat) (V : Mv) (b : Bool) (x1 : Int) (x2 : Int) (x4 : Int)  : nxs 4 213 125 [some (.inr (.inr 120)), some (.inl x1), some (.inr (.inl x2)), none, some (.inl x4), none, none, none] [] (M0 L V b) = some (true, 132, [some (.inr (.inr 120)), some (.inl x1), some (.inr (.inl x2)), none, some (.inl x4), none, none, none], [.inr (.inl x2)], M0 L (uV V 120 33 x4) b) := by
  rfl

-- 214: MendedOrNewModel.actsTwo(II)J
theorem B214_0 (L : Nat) (V : Mv) (b : Bool) (x1 : Int) (x2 : Int)  : nxs 6 214 0 [some (.inr (.inr 120)), some (.inl x1), some (.inl x2), none, none, none, none, none, none] [] (M0 L V b) = some (true, 10, [some (.inr (.inr 120)), some (.inl x1), some (.inl x2), some (.inr (.inl 9000000000000000000)), none, some (.inl 0), some (.inl 0), none, none], [], M0 L V b) := by
  rfl

theorem B214_10 (L : Nat) (V : Mv) (b : Bool) (x1 : Int) (x2 : Int) (x3 : Int) (x5 : Int) (x6 : Int) (g0 : in32 x6) : nxs 3 214 10 [some (.inr (.inr 120)), some (.inl x1), some (.inl x2), some (.inr (.inl x3)), none, some (.inl x5), some (.inl x6), none, none] [] (M0 L V b) = some (true, cond (decide (5 ≤ x6)) 99 16, [some (.inr (.inr 120)), some (.inl x1), some (.inl x2), some (.inr (.inl x3)), none, some (.inl x5), some (.inl x6), none, none], [], M0 L V b) := by
  have f0 : (r32 x6 && r32 5) = true := rr32_of g0 (by decide)
  have hG : ((r32 x6 && r32 5) && true) = true := an f0 rfl
  show some ((r32 x6 && r32 5) && true, _) = _
  rw [hG]
  try rfl

theorem B214_16 (L : Nat) (V : Mv) (b : Bool) (x1 : Int) (x2 : Int) (x3 : Int) (x5 : Int) (x6 : Int)  : nxs 3 214 16 [some (.inr (.inr 120)), some (.inl x1), some (.inl x2), some (.inr (.inl x3)), none, some (.inl x5), some (.inl x6), none, none] [] (M0 L V b) = some (true, 20, [some (.inr (.inr 120)), some (.inl x1), some (.inl x2), some (.inr (.inl x3)), none, some (.inl x5), some (.inl x6), none, none], [.inl x6, .inl x1, .inr (.inr 120)], M0 L V b) := by
  rfl

theorem B214_23 (L : Nat) (V : Mv) (b : Bool) (x1 : Int) (x2 : Int) (x3 : Int) (x5 : Int) (x6 : Int) (s0 : Int) (g0 : in32 s0) : nxs 1 214 23 [some (.inr (.inr 120)), some (.inl x1), some (.inl x2), some (.inr (.inl x3)), none, some (.inl x5), some (.inl x6), none, none] [.inl s0] (M0 L V b) = some (true, cond (decide (s0 = 0)) 93 26, [some (.inr (.inr 120)), some (.inl x1), some (.inl x2), some (.inr (.inl x3)), none, some (.inl x5), some (.inl x6), none, none], [], M0 L V b) := by
  have f0 : r32 s0 = true := r32_of g0
  have hG : (r32 s0 && true) = true := an f0 rfl
  show some (r32 s0 && true, _) = _
  rw [hG]
  try rfl

theorem B214_26 (L : Nat) (V : Mv) (b : Bool) (x1 : Int) (x2 : Int) (x3 : Int) (x5 : Int) (x6 : Int)  : nxs 5 214 26 [some (.inr (.inr 120)), some (.inl x1), some (.inl x2), some (.inr (.inl x3)), none, some (.inl x5), some (.inl x6), none, none] [] (M0 L V b) = some (true, 33, [some (.inr (.inr 120)), some (.inl x1), some (.inl x2), some (.inr (.inl x3)), none, some (.inl x5), some (.inl x6), none, none], [.inl x6, .inl x2, .inl 16, .inl x1, .inr (.inr 120)], M0 L V b) := by
  rfl

theorem B214_36 (L : Nat) (V : Mv) (b : Bool) (x1 : Int) (x2 : Int) (x3 : Int) (x5 : Int) (x6 : Int)  : nxs 4 214 36 [some (.inr (.inr 120)), some (.inl x1), some (.inl x2), some (.inr (.inl x3)), none, some (.inl x5), some (.inl x6), none, none] [] (M0 L V b) = some (true, 43, [some (.inr (.inr 120)), some (.inl x1), some (.inl x2), some (.inr (.inl x3)), none, some (.inl x5), some (.inl x6), none, none], [.inl x6, .inl x1, .inr (.inr 120), .inr (.inl 100)], M0 L V b) := by
  rfl

theorem B214_46 (L : Nat) (V : Mv) (b : Bool) (x1 : Int) (x2 : Int) (x3 : Int) (x5 : Int) (x6 : Int) (s0 : Int) (s1 : Int) (g0 : in32 s1) : nxs 4 214 46 [some (.inr (.inr 120)), some (.inl x1), some (.inl x2), some (.inr (.inl x3)), none, some (.inl x5), some (.inl x6), none, none] [.inl s1, .inr (.inl s0)] (M0 L V b) = some (true, 51, [some (.inr (.inr 120)), some (.inl x1), some (.inl x2), some (.inr (.inl x3)), none, some (.inl x5), some (.inl x6), none, none], [.inl 24, .inr (.inr 120), .inr (.inl (s0 * s1))], M0 L V b) := by
  have f0 : r32 s1 = true := r32_of g0
  have hG : (r32 s1 && true) = true := an f0 rfl
  show some (r32 s1 && true, _) = _
  rw [hG]
  try rfl

theorem B214_54 (L : Nat) (V : Mv) (b : Bool) (x1 : Int) (x2 : Int) (x3 : Int) (x5 : Int) (x6 : Int) (s0 : Int) (s1 : Int)  : nxs 3 214 54 [some (.inr (.inr 120)), some (.inl x1), some (.inl x2), some (.inr (.inl x3)), none, some (.inl x5), some (.inl x6), none, none] [.inr (.inl s1), .inr (.inl s0)] (M0 L V b) = some (true, 57, [some (.inr (.inr 120)), some (.inl x1), some (.inl x2), some (.inr (.inl x3)), none, some (.inl x5), some (.inl x6), none, none], [.inl x1, .inr (.inr 120), .inr (.inl (s0 * s1))], M0 L V b) := by
  rfl

theorem B214_60 (L : Nat) (V : Mv) (b : Bool) (x1 : Int) (x2 : Int) (x3 : Int) (x5 : Int) (x6 : Int) (s0 : Int) (s1 : Int) (g0 : in64 (s0 + s1)) (g1 : in64 x3) (g2 : in32 (cmpI (s0 + s1) x3)) : nxs 6 214 60 [some (.inr (.inr 120)), some (.inl x1), some (.inl x2), some (.inr (.inl x3)), none, some (.inl x5), some (.inl x6), none, none] [.inr (.inl s1), .inr (.inl s0)] (M0 L V b) = some (true, cond (decide (0 ≤ cmpI (s0 + s1) x3)) 75 70, [some (.inr (.inr 120)), some (.inl x1), some (.inl x2), some (.inr (.inl x3)), none, some (.inl x5), some (.inl x6), some (.inr (.inl (s0 + s1))), none], [], M0 L V b) := by
  have f0 : (r64 (s0 + s1) && r64 x3) = true := rr64_of g0 g1
  have f1 : r32 (cmpI (s0 + s1) x3) = true := r32_of g2
  have hG : ((r64 (s0 + s1) && r64 x3) && (r32 (cmpI (s0 + s1) x3) && true)) = true := an f0 (an f1 rfl)
  show some ((r64 (s0 + s1) && r64 x3) && (r32 (cmpI (s0 + s1) x3) && true), _) = _
  rw [hG]
  try rfl

theorem B214_70 (L : Nat) (V : Mv) (b : Bool) (x1 : Int) (x2 : Int) (x3 : Int) (x5 : Int) (x6 : Int) (x7 : Int)  : nxs 2 214 70 [some (.inr (.inr 120)), some (.inl x1), some (.inl x2), some (.inr (.inl x3)), none, some (.inl x5), some (.inl x6), some (.inr (.inl x7)), none] [] (M0 L V b) = some (true, 77, [some (.inr (.inr 120)), some (.inl x1), some (.inl x2), some (.inr (.inl x3)), none, some (.inl x5), some (.inl x6), some (.inr (.inl x7)), none], [.inl x6], M0 L V b) := by
  rfl

theorem B214_75 (L : Nat) (V : Mv) (b : Bool) (x1 : Int) (x2 : Int) (x3 : Int) (x5 : Int) (x6 : Int) (x7 : Int)  : nxs 1 214 75 [some (.inr (.inr 120)), some (.inl x1), some (.inl x2), some (.inr (.inl x3)), none, some (.inl x5), some (.inl x6), some (.inr (.inl x7)), none] [] (M0 L V b) = some (true, 77, [some (.inr (.inr 120)), some (.inl x1), some (.inl x2), some (.inr (.inl x3)), none, some (.inl x5), some (.inl x6), some (.inr (.inl x7)), none], [.inl x5], M0 L V b) := by
  rfl

theorem B214_77 (L : Nat) (V : Mv) (b : Bool) (x1 : Int) (x2 : Int) (x3 : Int) (x5 : Int) (x6 : Int) (x7 : Int) (s0 : Int) (g0 : in64 x7) (g1 : in64 x3) (g2 : in32 (cmpI x7 x3)) : nxs 5 214 77 [some (.inr (.inr 120)), some (.inl x1), some (.inl x2), some (.inr (.inl x3)), none, some (.inl x5), some (.inl x6), some (.inr (.inl x7)), none] [.inl s0] (M0 L V b) = some (true, cond (decide (0 ≤ cmpI x7 x3)) 91 86, [some (.inr (.inr 120)), some (.inl x1), some (.inl x2), some (.inr (.inl x3)), none, some (.inl s0), some (.inl x6), some (.inr (.inl x7)), none], [], M0 L V b) := by
  have f0 : (r64 x7 && r64 x3) = true := rr64_of g0 g1
  have f1 : r32 (cmpI x7 x3) = true := r32_of g2
  have hG : ((r64 x7 && r64 x3) && (r32 (cmpI x7 x3) && true)) = true := an f0 (an f1 rfl)
  show some ((r64 x7 && r64 x3) && (r32 (cmpI x7 x3) && true), _) = _
  rw [hG]
  try rfl

theorem B214_86 (L : Nat) (V : Mv) (b : Bool) (x1 : Int) (x2 : Int) (x3 : Int) (x5 : Int) (x6 : Int) (x7 : Int)  : nxs 2 214 86 [some (.inr (.inr 120)), some (.inl x1), some (.inl x2), some (.inr (.inl x3)), none, some (.inl x5), some (.inl x6), some (.inr (.inl x7)), none] [] (M0 L V b) = some (true, 92, [some (.inr (.inr 120)), some (.inl x1), some (.inl x2), some (.inr (.inl x3)), none, some (.inl x5), some (.inl x6), some (.inr (.inl x7)), none], [.inr (.inl x7)], M0 L V b) := by
  rfl

theorem B214_91 (L : Nat) (V : Mv) (b : Bool) (x1 : Int) (x2 : Int) (x3 : Int) (x5 : Int) (x6 : Int) (x7 : Int)  : nxs 1 214 91 [some (.inr (.inr 120)), some (.inl x1), some (.inl x2), some (.inr (.inl x3)), none, some (.inl x5), some (.inl x6), some (.inr (.inl x7)), none] [] (M0 L V b) = some (true, 92, [some (.inr (.inr 120)), some (.inl x1), some (.inl x2), some (.inr (.inl x3)), none, some (.inl x5), some (.inl x6), some (.inr (.inl x7)), none], [.inr (.inl x3)], M0 L V b) := by
  rfl

theorem B214_92 (L : Nat) (V : Mv) (b : Bool) (x1 : Int) (x2 : Int) (x3 : Int) (x5 : Int) (x6 : Int) (x7 : Int) (s0 : Int)  : nxs 1 214 92 [some (.inr (.inr 120)), some (.inl x1), some (.inl x2), some (.inr (.inl x3)), none, some (.inl x5), some (.inl x6), some (.inr (.inl x7)), none] [.inr (.inl s0)] (M0 L V b) = some (true, 93, [some (.inr (.inr 120)), some (.inl x1), some (.inl x2), some (.inr (.inl s0)), none, some (.inl x5), some (.inl x6), some (.inr (.inl x7)), none], [], M0 L V b) := by
  rfl

theorem B214_93 (L : Nat) (V : Mv) (b : Bool) (x1 : Int) (x2 : Int) (x3 : Int) (x5 : Int) (x6 : Int)  : nxs 2 214 93 [some (.inr (.inr 120)), some (.inl x1), some (.inl x2), some (.inr (.inl x3)), none, some (.inl x5), some (.inl x6), none, none] [] (M0 L V b) = some (true, 10, [some (.inr (.inr 120)), some (.inl x1), some (.inl x2), some (.inr (.inl x3)), none, some (.inl x5), some (.inl (x6 + 1)), none, none], [], M0 L V b) := by
  rfl

theorem B214_99 (L : Nat) (V : Mv) (b : Bool) (x1 : Int) (x2 : Int) (x3 : Int) (x5 : Int) (x6 : Int)  : nxs 4 214 99 [some (.inr (.inr 120)), some (.inl x1), some (.inl x2), some (.inr (.inl x3)), none, some (.inl x5), some (.inl x6), none, none] [] (M0 L V b) = some (true, 106, [some (.inr (.inr 120)), some (.inl x1), some (.inl x2), some (.inr (.inl x3)), none, some (.inl x5), some (.inl x6), none, none], [.inr (.inl x3)], M0 L (uV V 120 33 x5) b) := by
  rfl

-- 215: MendedOrNewModel.behindTwo(I)J
theorem B215_0 (L : Nat) (V : Mv) (b : Bool) (x1 : Int)  : nxs 4 215 0 [some (.inr (.inr 120)), some (.inl x1), none, none] [] (M0 L V b) = some (true, 7, [some (.inr (.inr 120)), some (.inl x1), none, none], [.inl 24, .inl x1, .inr (.inr 120), .inr (.inl 100)], M0 L V b) := by
  rfl

theorem B215_10 (L : Nat) (V : Mv) (b : Bool) (x1 : Int) (s0 : Int) (s1 : Int)  : nxs 6 215 10 [some (.inr (.inr 120)), some (.inl x1), none, none] [.inr (.inl s1), .inr (.inl s0)] (M0 L V b) = some (true, 17, [some (.inr (.inr 120)), some (.inl x1), some (.inr (.inl (s0 * s1))), none], [.inl 1, .inl 24, .inl x1, .inr (.inr 120)], M0 L V b) := by
  rfl

theorem B215_20 (L : Nat) (V : Mv) (b : Bool) (x1 : Int) (x2 : Int)  : nxs 3 215 20 [some (.inr (.inr 120)), some (.inl x1), some (.inr (.inl x2)), none] [] (M0 L V b) = some (true, 24, [some (.inr (.inr 120)), some (.inl x1), some (.inr (.inl x2)), none], [.inl 32, .inr (.inr 120), .inr (.inl x2)], M0 L V b) := by
  rfl

theorem B215_27 (L : Nat) (V : Mv) (b : Bool) (x1 : Int) (x2 : Int) (s0 : Int) (s1 : Int) (g0 : in64 s1) (g1 : in32 (cmpI s1 0)) : nxs 3 215 27 [some (.inr (.inr 120)), some (.inl x1), some (.inr (.inl x2)), none] [.inr (.inl s1), .inr (.inl s0)] (M0 L V b) = some (true, cond (decide (cmpI s1 0 ≤ 0)) 40 32, [some (.inr (.inr 120)), some (.inl x1), some (.inr (.inl x2)), none], [.inr (.inl s0)], M0 L V b) := by
  have f0 : (r64 s1 && r64 0) = true := rr64_of g0 (by decide)
  have f1 : r32 (cmpI s1 0) = true := r32_of g1
  have hG : ((r64 s1 && r64 0) && (r32 (cmpI s1 0) && true)) = true := an f0 (an f1 rfl)
  show some ((r64 s1 && r64 0) && (r32 (cmpI s1 0) && true), _) = _
  rw [hG]
  try rfl

theorem B215_32 (L : Nat) (V : Mv) (b : Bool) (x1 : Int) (x2 : Int) (s0 : Int)  : nxs 2 215 32 [some (.inr (.inr 120)), some (.inl x1), some (.inr (.inl x2)), none] [.inr (.inl s0)] (M0 L V b) = some (true, 34, [some (.inr (.inr 120)), some (.inl x1), some (.inr (.inl x2)), none], [.inl x1, .inr (.inr 120), .inr (.inl s0)], M0 L V b) := by
  rfl

theorem B215_37 (L : Nat) (V : Mv) (b : Bool) (x1 : Int) (x2 : Int) (s0 : Int) (s1 : Int)  : nxs 1 215 37 [some (.inr (.inr 120)), some (.inl x1), some (.inr (.inl x2)), none] [.inr (.inl s1), .inr (.inl s0)] (M0 L V b) = some (true, 41, [some (.inr (.inr 120)), some (.inl x1), some (.inr (.inl x2)), none], [.inr (.inl s1), .inr (.inl s0)], M0 L V b) := by
  rfl

theorem B215_40 (L : Nat) (V : Mv) (b : Bool) (x1 : Int) (x2 : Int) (s0 : Int)  : nxs 1 215 40 [some (.inr (.inr 120)), some (.inl x1), some (.inr (.inl x2)), none] [.inr (.inl s0)] (M0 L V b) = some (true, 41, [some (.inr (.inr 120)), some (.inl x1), some (.inr (.inl x2)), none], [.inr (.inl 0), .inr (.inl s0)], M0 L V b) := by
  rfl

theorem B215_41 (L : Nat) (V : Mv) (b : Bool) (x1 : Int) (x2 : Int) (s0 : Int) (s1 : Int)  : nxs 6 215 41 [some (.inr (.inr 120)), some (.inl x1), some (.inr (.inl x2)), none] [.inr (.inl s1), .inr (.inl s0)] (M0 L V b) = some (true, 48, [some (.inr (.inr 120)), some (.inl x1), some (.inr (.inl (s0 + s1))), none], [.inl 0, .inl 24, .inl x1, .inr (.inr 120)], M0 L V b) := by
  rfl

theorem B215_51 (L : Nat) (V : Mv) (b : Bool) (x1 : Int) (x2 : Int)  : nxs 3 215 51 [some (.inr (.inr 120)), some (.inl x1), some (.inr (.inl x2)), none] [] (M0 L V b) = some (true, 55, [some (.inr (.inr 120)), some (.inl x1), some (.inr (.inl x2)), none], [.inl 32, .inr (.inr 120), .inr (.inl x2)], M0 L V b) := by
  rfl

theorem B215_58 (L : Nat) (V : Mv) (b : Bool) (x1 : Int) (x2 : Int) (s0 : Int) (s1 : Int) (g0 : in64 s1) (g1 : in32 (cmpI s1 0)) : nxs 3 215 58 [some (.inr (.inr 120)), some (.inl x1), some (.inr (.inl x2)), none] [.inr (.inl s1), .inr (.inl s0)] (M0 L V b) = some (true, cond (decide (cmpI s1 0 ≤ 0)) 71 63, [some (.inr (.inr 120)), some (.inl x1), some (.inr (.inl x2)), none], [.inr (.inl s0)], M0 L V b) := by
  have f0 : (r64 s1 && r64 0) = true := rr64_of g0 (by decide)
  have f1 : r32 (cmpI s1 0) = true := r32_of g1
  have hG : ((r64 s1 && r64 0) && (r32 (cmpI s1 0) && true)) = true := an f0 (an f1 rfl)
  show some ((r64 s1 && r64 0) && (r32 (cmpI s1 0) && true), _) = _
  rw [hG]
  try rfl

theorem B215_63 (L : Nat) (V : Mv) (b : Bool) (x1 : Int) (x2 : Int) (s0 : Int)  : nxs 2 215 63 [some (.inr (.inr 120)), some (.inl x1), some (.inr (.inl x2)), none] [.inr (.inl s0)] (M0 L V b) = some (true, 65, [some (.inr (.inr 120)), some (.inl x1), some (.inr (.inl x2)), none], [.inl x1, .inr (.inr 120), .inr (.inl s0)], M0 L V b) := by
  rfl

theorem B215_68 (L : Nat) (V : Mv) (b : Bool) (x1 : Int) (x2 : Int) (s0 : Int) (s1 : Int)  : nxs 1 215 68 [some (.inr (.inr 120)), some (.inl x1), some (.inr (.inl x2)), none] [.inr (.inl s1), .inr (.inl s0)] (M0 L V b) = some (true, 72, [some (.inr (.inr 120)), some (.inl x1), some (.inr (.inl x2)), none], [.inr (.inl s1), .inr (.inl s0)], M0 L V b) := by
  rfl

theorem B215_71 (L : Nat) (V : Mv) (b : Bool) (x1 : Int) (x2 : Int) (s0 : Int)  : nxs 1 215 71 [some (.inr (.inr 120)), some (.inl x1), some (.inr (.inl x2)), none] [.inr (.inl s0)] (M0 L V b) = some (true, 72, [some (.inr (.inr 120)), some (.inl x1), some (.inr (.inl x2)), none], [.inr (.inl 0), .inr (.inl s0)], M0 L V b) := by
  rfl

theorem B215_72 (L : Nat) (V : Mv) (b : Bool) (x1 : Int) (x2 : Int) (s0 : Int) (s1 : Int)  : nxs 1 215 72 [some (.inr (.inr 120)), some (.inl x1), some (.inr (.inl x2)), none] [.inr (.inl s1), .inr (.inl s0)] (M0 L V b) = some (true, 73, [some (.inr (.inr 120)), some (.inl x1), some (.inr (.inl x2)), none], [.inr (.inl (s0 + s1))], M0 L V b) := by
  rfl

-- 216: MendedOrNewModel.leastOne(I)J
theorem B216_0 (L : Nat) (V : Mv) (b : Bool) (x1 : Int)  : nxs 3 216 0 [some (.inr (.inr 120)), some (.inl x1), none, none, none, none, none, none] [] (M0 L V b) = some (true, 4, [some (.inr (.inr 120)), some (.inl x1), none, none, none, none, none, none], [.inl (-9), .inl x1, .inr (.inr 120)], M0 L V b) := by
  rfl

theorem B216_7 (L : Nat) (V : Mv) (b : Bool) (x1 : Int) (s0 : Int) (g0 : 0 ≤ x1 ∧ x1 < 4) (g1 : in32 (V 122 (x1).toNat)) : nxs 10 216 7 [some (.inr (.inr 120)), some (.inl x1), none, none, none, none, none, none] [.inr (.inl s0)] (M0 L V b) = some (true, cond (decide (V 122 (x1).toNat = (-9))) 121 25, [some (.inr (.inr 120)), some (.inl x1), some (.inr (.inl s0)), none, some (.inl (V 120 33)), none, none, none], [], M0 L V b) := by
  have f0 : gX (M0 L V b) 122 1 x1 = true := gx_of rfl g0
  have f1 : (r32 (V 122 (x1).toNat) && r32 (-9)) = true := rr32_of g1 (by decide)
  have hG : (gX (M0 L V b) 122 1 x1 && ((r32 (V 122 (x1).toNat) && r32 (-9)) && true)) = true := an f0 (an f1 rfl)
  show some (gX (M0 L V b) 122 1 x1 && ((r32 (V 122 (x1).toNat) && r32 (-9)) && true), _) = _
  rw [hG]
  try rfl

theorem B216_25 (L : Nat) (V : Mv) (b : Bool) (x1 : Int) (x2 : Int) (x4 : Int) (g0 : 0 ≤ x1 ∧ x1 < 4) (g1 : in32 (V 122 (x1).toNat)) : nxs 7 216 25 [some (.inr (.inr 120)), some (.inl x1), some (.inr (.inl x2)), none, some (.inl x4), none, none, none] [] (M0 L V b) = some (true, 35, [some (.inr (.inr 120)), some (.inl x1), some (.inr (.inl x2)), none, some (.inl x4), none, none, none], [.inl 32, .inr (.inr 120), .inr (.inl (V 122 (x1).toNat))], M0 L V b) := by
  have f0 : gX (M0 L V b) 122 1 x1 = true := gx_of rfl g0
  have f1 : r32 (V 122 (x1).toNat) = true := r32_of g1
  have hG : (gX (M0 L V b) 122 1 x1 && (r32 (V 122 (x1).toNat) && true)) = true := an f0 (an f1 rfl)
  show some (gX (M0 L V b) 122 1 x1 && (r32 (V 122 (x1).toNat) && true), _) = _
  rw [hG]
  try rfl

theorem B216_38 (L : Nat) (V : Mv) (b : Bool) (x1 : Int) (x2 : Int) (x4 : Int) (s0 : Int) (s1 : Int)  : nxs 4 216 38 [some (.inr (.inr 120)), some (.inl x1), some (.inr (.inl x2)), none, some (.inl x4), none, none, none] [.inr (.inl s1), .inr (.inl s0)] (M0 L V b) = some (true, 44, [some (.inr (.inr 120)), some (.inl x1), some (.inr (.inl x2)), none, some (.inl x4), some (.inr (.inl (s0 * s1))), none, some (.inl 0)], [], M0 L V b) := by
  rfl

theorem B216_44 (L : Nat) (V : Mv) (b : Bool) (x1 : Int) (x2 : Int) (x4 : Int) (x5 : Int) (x7 : Int) (g0 : 0 ≤ x1 ∧ x1 < 4) (g1 : in32 x7) (g2 : in32 (V 121 (x1).toNat)) : nxs 6 216 44 [some (.inr (.inr 120)), some (.inl x1), some (.inr (.inl x2)), none, some (.inl x4), some (.inr (.inl x5)), none, some (.inl x7)] [] (M0 L V b) = some (true, cond (decide (V 121 (x1).toNat ≤ x7)) 92 55, [some (.inr (.inr 120)), some (.inl x1), some (.inr (.inl x2)), none, some (.inl x4), some (.inr (.inl x5)), none, some (.inl x7)], [], M0 L V b) := by
  have f0 : gX (M0 L V b) 121 1 x1 = true := gx_of rfl g0
  have f1 : (r32 x7 && r32 (V 121 (x1).toNat)) = true := rr32_of g1 g2
  have hG : (gX (M0 L V b) 121 1 x1 && ((r32 x7 && r32 (V 121 (x1).toNat)) && true)) = true := an f0 (an f1 rfl)
  show some (gX (M0 L V b) 121 1 x1 && ((r32 x7 && r32 (V 121 (x1).toNat)) && true), _) = _
  rw [hG]
  try rfl

theorem B216_55 (L : Nat) (V : Mv) (b : Bool) (x1 : Int) (x2 : Int) (x4 : Int) (x5 : Int) (x7 : Int) (g0 : 0 ≤ 32 + x7 ∧ 32 + x7 < 48) (g1 : in64 (V 142 (32 + x7).toNat)) (g2 : in32 (cmpI (V 142 (32 + x7).toNat) 0)) : nxs 10 216 55 [some (.inr (.inr 120)), some (.inl x1), some (.inr (.inl x2)), none, some (.inl x4), some (.inr (.inl x5)), none, some (.inl x7)] [] (M0 L V b) = some (true, cond (decide (cmpI (V 142 (32 + x7).toNat) 0 ≤ 0)) 82 72, [some (.inr (.inr 120)), some (.inl x1), some (.inr (.inl x2)), none, some (.inl x4), some (.inr (.inl x5)), none, some (.inl x7)], [.inr (.inl x5)], M0 L V b) := by
  have f0 : gX (M0 L V b) 142 2 (32 + x7) = true := gx_of rfl g0
  have f1 : (r64 (V 142 (32 + x7).toNat) && r64 0) = true := rr64_of g1 (by decide)
  have f2 : r32 (cmpI (V 142 (32 + x7).toNat) 0) = true := r32_of g2
  have hG : (gX (M0 L V b) 142 2 (32 + x7) && ((r64 (V 142 (32 + x7).toNat) && r64 0) && (r32 (cmpI (V 142 (32 + x7).toNat) 0) && true))) = true := an f0 (an f1 (an f2 rfl))
  show some (gX (M0 L V b) 142 2 (32 + x7) && ((r64 (V 142 (32 + x7).toNat) && r64 0) && (r32 (cmpI (V 142 (32 + x7).toNat) 0) && true)), _) = _
  rw [hG]
  try rfl

theorem B216_72 (L : Nat) (V : Mv) (b : Bool) (x1 : Int) (x2 : Int) (x4 : Int) (x5 : Int) (x7 : Int) (s0 : Int)  : nxs 3 216 72 [some (.inr (.inr 120)), some (.inl x1), some (.inr (.inl x2)), none, some (.inl x4), some (.inr (.inl x5)), none, some (.inl x7)] [.inr (.inl s0)] (M0 L V b) = some (true, 76, [some (.inr (.inr 120)), some (.inl x1), some (.inr (.inl x2)), none, some (.inl x4), some (.inr (.inl x5)), none, some (.inl x7)], [.inl x7, .inl x1, .inr (.inr 120), .inr (.inl s0)], M0 L V b) := by
  rfl

theorem B216_79 (L : Nat) (V : Mv) (b : Bool) (x1 : Int) (x2 : Int) (x4 : Int) (x5 : Int) (x7 : Int) (s0 : Int) (s1 : Int)  : nxs 1 216 79 [some (.inr (.inr 120)), some (.inl x1), some (.inr (.inl x2)), none, some (.inl x4), some (.inr (.inl x5)), none, some (.inl x7)] [.inr (.inl s1), .inr (.inl s0)] (M0 L V b) = some (true, 83, [some (.inr (.inr 120)), some (.inl x1), some (.inr (.inl x2)), none, some (.inl x4), some (.inr (.inl x5)), none, some (.inl x7)], [.inr (.inl s1), .inr (.inl s0)], M0 L V b) := by
  rfl

theorem B216_82 (L : Nat) (V : Mv) (b : Bool) (x1 : Int) (x2 : Int) (x4 : Int) (x5 : Int) (x7 : Int) (s0 : Int)  : nxs 1 216 82 [some (.inr (.inr 120)), some (.inl x1), some (.inr (.inl x2)), none, some (.inl x4), some (.inr (.inl x5)), none, some (.inl x7)] [.inr (.inl s0)] (M0 L V b) = some (true, 83, [some (.inr (.inr 120)), some (.inl x1), some (.inr (.inl x2)), none, some (.inl x4), some (.inr (.inl x5)), none, some (.inl x7)], [.inr (.inl 0), .inr (.inl s0)], M0 L V b) := by
  rfl

theorem B216_83 (L : Nat) (V : Mv) (b : Bool) (x1 : Int) (x2 : Int) (x4 : Int) (x5 : Int) (x7 : Int) (s0 : Int) (s1 : Int)  : nxs 4 216 83 [some (.inr (.inr 120)), some (.inl x1), some (.inr (.inl x2)), none, some (.inl x4), some (.inr (.inl x5)), none, some (.inl x7)] [.inr (.inl s1), .inr (.inl s0)] (M0 L V b) = some (true, 44, [some (.inr (.inr 120)), some (.inl x1), some (.inr (.inl x2)), none, some (.inl x4), some (.inr (.inl (s0 + s1))), none, some (.inl (x7 + 1))], [], M0 L V b) := by
  rfl

theorem B216_92 (L : Nat) (V : Mv) (b : Bool) (x1 : Int) (x2 : Int) (x4 : Int) (x5 : Int) (x7 : Int) (g0 : in64 x5) (g1 : in64 x2) (g2 : in32 (cmpI x5 x2)) : nxs 4 216 92 [some (.inr (.inr 120)), some (.inl x1), some (.inr (.inl x2)), none, some (.inl x4), some (.inr (.inl x5)), none, some (.inl x7)] [] (M0 L V b) = some (true, cond (decide (0 ≤ cmpI x5 x2)) 103 99, [some (.inr (.inr 120)), some (.inl x1), some (.inr (.inl x2)), none, some (.inl x4), some (.inr (.inl x5)), none, some (.inl x7)], [], M0 L V b) := by
  have f0 : (r64 x5 && r64 x2) = true := rr64_of g0 g1
  have f1 : r32 (cmpI x5 x2) = true := r32_of g2
  have hG : ((r64 x5 && r64 x2) && (r32 (cmpI x5 x2) && true)) = true := an f0 (an f1 rfl)
  show some ((r64 x5 && r64 x2) && (r32 (cmpI x5 x2) && true), _) = _
  rw [hG]
  try rfl

theorem B216_99 (L : Nat) (V : Mv) (b : Bool) (x1 : Int) (x2 : Int) (x4 : Int) (x5 : Int) (x7 : Int)  : nxs 2 216 99 [some (.inr (.inr 120)), some (.inl x1), some (.inr (.inl x2)), none, some (.inl x4), some (.inr (.inl x5)), none, some (.inl x7)] [] (M0 L V b) = some (true, 105, [some (.inr (.inr 120)), some (.inl x1), some (.inr (.inl x2)), none, some (.inl x4), some (.inr (.inl x5)), none, some (.inl x7)], [.inl 5], M0 L V b) := by
  rfl

theorem B216_103 (L : Nat) (V : Mv) (b : Bool) (x1 : Int) (x2 : Int) (x4 : Int) (x5 : Int) (x7 : Int)  : nxs 1 216 103 [some (.inr (.inr 120)), some (.inl x1), some (.inr (.inl x2)), none, some (.inl x4), some (.inr (.inl x5)), none, some (.inl x7)] [] (M0 L V b) = some (true, 105, [some (.inr (.inr 120)), some (.inl x1), some (.inr (.inl x2)), none, some (.inl x4), some (.inr (.inl x5)), none, some (.inl x7)], [.inl x4], M0 L V b) := by
  rfl

theorem B216_105 (L : Nat) (V : Mv) (b : Bool) (x1 : Int) (x2 : Int) (x4 : Int) (x5 : Int) (x7 : Int) (s0 : Int) (g0 : in64 x5) (g1 : in64 x2) (g2 : in32 (cmpI x5 x2)) : nxs 5 216 105 [some (.inr (.inr 120)), some (.inl x1), some (.inr (.inl x2)), none, some (.inl x4), some (.inr (.inl x5)), none, some (.inl x7)] [.inl s0] (M0 L V b) = some (true, cond (decide (0 ≤ cmpI x5 x2)) 119 114, [some (.inr (.inr 120)), some (.inl x1), some (.inr (.inl x2)), none, some (.inl s0), some (.inr (.inl x5)), none, some (.inl x7)], [], M0 L V b) := by
  have f0 : (r64 x5 && r64 x2) = true := rr64_of g0 g1
  have f1 : r32 (cmpI x5 x2) = true := r32_of g2
  have hG : ((r64 x5 && r64 x2) && (r32 (cmpI x5 x2) && true)) = true := an f0 (an f1 rfl)
  show some ((r64 x5 && r64 x2) && (r32 (cmpI x5 x2) && true), _) = _
  rw [hG]
  try rfl

theorem B216_114 (L : Nat) (V : Mv) (b : Bool) (x1 : Int) (x2 : Int) (x4 : Int) (x5 : Int) (x7 : Int)  : nxs 2 216 114 [some (.inr (.inr 120)), some (.inl x1), some (.inr (.inl x2)), none, some (.inl x4), some (.inr (.inl x5)), none, some (.inl x7)] [] (M0 L V b) = some (true, 120, [some (.inr (.inr 120)), some (.inl x1), some (.inr (.inl x2)), none, some (.inl x4), some (.inr (.inl x5)), none, some (.inl x7)], [.inr (.inl x5)], M0 L V b) := by
  rfl

theorem B216_119 (L : Nat) (V : Mv) (b : Bool) (x1 : Int) (x2 : Int) (x4 : Int) (x5 : Int) (x7 : Int)  : nxs 1 216 119 [some (.inr (.inr 120)), some (.inl x1), some (.inr (.inl x2)), none, some (.inl x4), some (.inr (.inl x5)), none, some (.inl x7)] [] (M0 L V b) = some (true, 120, [some (.inr (.inr 120)), some (.inl x1), some (.inr (.inl x2)), none, some (.inl x4), some (.inr (.inl x5)), none, some (.inl x7)], [.inr (.inl x2)], M0 L V b) := by
  rfl

theorem B216_120 (L : Nat) (V : Mv) (b : Bool) (x1 : Int) (x2 : Int) (x4 : Int) (x5 : Int) (x7 : Int) (s0 : Int)  : nxs 1 216 120 [some (.inr (.inr 120)), some (.inl x1), some (.inr (.inl x2)), none, some (.inl x4), some (.inr (.inl x5)), none, some (.inl x7)] [.inr (.inl s0)] (M0 L V b) = some (true, 121, [some (.inr (.inr 120)), some (.inl x1), some (.inr (.inl s0)), none, some (.inl x4), some (.inr (.inl x5)), none, some (.inl x7)], [], M0 L V b) := by
  rfl

theorem B216_121 (L : Nat) (V : Mv) (b : Bool) (x1 : Int) (x2 : Int) (x4 : Int)  : nxs 4 216 121 [some (.inr (.inr 120)), some (.inl x1), some (.inr (.inl x2)), none, some (.inl x4), none, none, none] [] (M0 L V b) = some (true, 128, [some (.inr (.inr 120)), some (.inl x1), some (.inr (.inl x2)), none, some (.inl x4), none, none, none], [.inr (.inl x2)], M0 L (uV V 120 33 x4) b) := by
  rfl

-- 217: MendedOrNewModel.actsOne(II)J
theorem B217_0 (L : Nat) (V : Mv) (b : Bool) (x1 : Int) (x2 : Int)  : nxs 4 217 0 [some (.inr (.inr 120)), some (.inl x1), some (.inl x2), none, none, none, none, none] [] (M0 L V b) = some (true, 7, [some (.inr (.inr 120)), some (.inl x1), some (.inl x2), some (.inr (.inl 9000000000000000000)), none, some (.inl 0), none, none], [], M0 L V b) := by
  rfl

theorem B217_7 (L : Nat) (V : Mv) (b : Bool) (x1 : Int) (x2 : Int) (x3 : Int) (x5 : Int) (g0 : in32 x5) : nxs 3 217 7 [some (.inr (.inr 120)), some (.inl x1), some (.inl x2), some (.inr (.inl x3)), none, some (.inl x5), none, none] [] (M0 L V b) = some (true, cond (decide (5 ≤ x5)) 98 13, [some (.inr (.inr 120)), some (.inl x1), some (.inl x2), some (.inr (.inl x3)), none, some (.inl x5), none, none], [], M0 L V b) := by
  have f0 : (r32 x5 && r32 5) = true := rr32_of g0 (by decide)
  have hG : ((r32 x5 && r32 5) && true) = true := an f0 rfl
  show some ((r32 x5 && r32 5) && true, _) = _
  rw [hG]
  try rfl

theorem B217_13 (L : Nat) (V : Mv) (b : Bool) (x1 : Int) (x2 : Int) (x3 : Int) (x5 : Int)  : nxs 3 217 13 [some (.inr (.inr 120)), some (.inl x1), some (.inl x2), some (.inr (.inl x3)), none, some (.inl x5), none, none] [] (M0 L V b) = some (true, 17, [some (.inr (.inr 120)), some (.inl x1), some (.inl x2), some (.inr (.inl x3)), none, some (.inl x5), none, none], [.inl x5, .inl x1, .inr (.inr 120)], M0 L V b) := by
  rfl

theorem B217_20 (L : Nat) (V : Mv) (b : Bool) (x1 : Int) (x2 : Int) (x3 : Int) (x5 : Int) (s0 : Int) (g0 : in32 s0) : nxs 1 217 20 [some (.inr (.inr 120)), some (.inl x1), some (.inl x2), some (.inr (.inl x3)), none, some (.inl x5), none, none] [.inl s0] (M0 L V b) = some (true, cond (decide (s0 = 0)) 92 23, [some (.inr (.inr 120)), some (.inl x1), some (.inl x2), some (.inr (.inl x3)), none, some (.inl x5), none, none], [], M0 L V b) := by
  have f0 : r32 s0 = true := r32_of g0
  have hG : (r32 s0 && true) = true := an f0 rfl
  show some (r32 s0 && true, _) = _
  rw [hG]
  try rfl

theorem B217_23 (L : Nat) (V : Mv) (b : Bool) (x1 : Int) (x2 : Int) (x3 : Int) (x5 : Int)  : nxs 5 217 23 [some (.inr (.inr 120)), some (.inl x1), some (.inl x2), some (.inr (.inl x3)), none, some (.inl x5), none, none] [] (M0 L V b) = some (true, 30, [some (.inr (.inr 120)), some (.inl x1), some (.inl x2), some (.inr (.inl x3)), none, some (.inl x5), none, none], [.inl x5, .inl x2, .inl 32, .inl x1, .inr (.inr 120)], M0 L V b) := by
  rfl

theorem B217_33 (L : Nat) (V : Mv) (b : Bool) (x1 : Int) (x2 : Int) (x3 : Int) (x5 : Int)  : nxs 3 217 33 [some (.inr (.inr 120)), some (.inl x1), some (.inl x2), some (.inr (.inl x3)), none, some (.inl x5), none, none] [] (M0 L V b) = some (true, 37, [some (.inr (.inr 120)), some (.inl x1), some (.inl x2), some (.inr (.inl x3)), none, some (.inl x5), none, none], [.inl x5, .inl x1, .inr (.inr 120)], M0 L V b) := by
  rfl

theorem B217_40 (L : Nat) (V : Mv) (b : Bool) (x1 : Int) (x2 : Int) (x3 : Int) (x5 : Int) (s0 : Int) (g0 : in32 s0) : nxs 3 217 40 [some (.inr (.inr 120)), some (.inl x1), some (.inl x2), some (.inr (.inl x3)), none, some (.inl x5), none, none] [.inl s0] (M0 L V b) = some (true, 44, [some (.inr (.inr 120)), some (.inl x1), some (.inl x2), some (.inr (.inl x3)), none, some (.inl x5), none, none], [.inl 40, .inr (.inr 120), .inr (.inl s0)], M0 L V b) := by
  have f0 : r32 s0 = true := r32_of g0
  have hG : (r32 s0 && true) = true := an f0 rfl
  show some (r32 s0 && true, _) = _
  rw [hG]
  try rfl

theorem B217_47 (L : Nat) (V : Mv) (b : Bool) (x1 : Int) (x2 : Int) (x3 : Int) (x5 : Int) (s0 : Int) (s1 : Int)  : nxs 4 217 47 [some (.inr (.inr 120)), some (.inl x1), some (.inl x2), some (.inr (.inl x3)), none, some (.inl x5), none, none] [.inr (.inl s1), .inr (.inl s0)] (M0 L V b) = some (true, 52, [some (.inr (.inr 120)), some (.inl x1), some (.inl x2), some (.inr (.inl x3)), none, some (.inl x5), none, none], [.inl 40, .inl x1, .inr (.inr 120), .inr (.inl (s0 * s1))], M0 L V b) := by
  rfl

theorem B217_55 (L : Nat) (V : Mv) (b : Bool) (x1 : Int) (x2 : Int) (x3 : Int) (x5 : Int) (s0 : Int) (s1 : Int) (g0 : in64 (s0 + s1)) (g1 : in64 x3) (g2 : in32 (cmpI (s0 + s1) x3)) : nxs 7 217 55 [some (.inr (.inr 120)), some (.inl x1), some (.inl x2), some (.inr (.inl x3)), none, some (.inl x5), none, none] [.inr (.inl s1), .inr (.inl s0)] (M0 L V b) = some (true, cond (decide (0 ≤ cmpI (s0 + s1) x3)) 71 66, [some (.inr (.inr 120)), some (.inl x1), some (.inl x2), some (.inr (.inl x3)), none, some (.inl x5), some (.inr (.inl (s0 + s1))), none], [.inr (.inr 120)], M0 L V b) := by
  have f0 : (r64 (s0 + s1) && r64 x3) = true := rr64_of g0 g1
  have f1 : r32 (cmpI (s0 + s1) x3) = true := r32_of g2
  have hG : ((r64 (s0 + s1) && r64 x3) && (r32 (cmpI (s0 + s1) x3) && true)) = true := an f0 (an f1 rfl)
  show some ((r64 (s0 + s1) && r64 x3) && (r32 (cmpI (s0 + s1) x3) && true), _) = _
  rw [hG]
  try rfl

theorem B217_66 (L : Nat) (V : Mv) (b : Bool) (x1 : Int) (x2 : Int) (x3 : Int) (x5 : Int) (x6 : Int)  : nxs 2 217 66 [some (.inr (.inr 120)), some (.inl x1), some (.inl x2), some (.inr (.inl x3)), none, some (.inl x5), some (.inr (.inl x6)), none] [.inr (.inr 120)] (M0 L V b) = some (true, 75, [some (.inr (.inr 120)), some (.inl x1), some (.inl x2), some (.inr (.inl x3)), none, some (.inl x5), some (.inr (.inl x6)), none], [.inl x5, .inr (.inr 120)], M0 L V b) := by
  rfl

theorem B217_71 (L : Nat) (V : Mv) (b : Bool) (x1 : Int) (x2 : Int) (x3 : Int) (x5 : Int) (x6 : Int)  : nxs 2 217 71 [some (.inr (.inr 120)), some (.inl x1), some (.inl x2), some (.inr (.inl x3)), none, some (.inl x5), some (.inr (.inl x6)), none] [.inr (.inr 120)] (M0 L V b) = some (true, 75, [some (.inr (.inr 120)), some (.inl x1), some (.inl x2), some (.inr (.inl x3)), none, some (.inl x5), some (.inr (.inl x6)), none], [.inl (V 120 33), .inr (.inr 120)], M0 L V b) := by
  rfl

theorem B217_75 (L : Nat) (V : Mv) (b : Bool) (x1 : Int) (x2 : Int) (x3 : Int) (x5 : Int) (x6 : Int) (s1 : Int) (g0 : in64 x6) (g1 : in64 x3) (g2 : in32 (cmpI x6 x3)) : nxs 5 217 75 [some (.inr (.inr 120)), some (.inl x1), some (.inl x2), some (.inr (.inl x3)), none, some (.inl x5), some (.inr (.inl x6)), none] [.inl s1, .inr (.inr 120)] (M0 L V b) = some (true, cond (decide (0 ≤ cmpI x6 x3)) 90 85, [some (.inr (.inr 120)), some (.inl x1), some (.inl x2), some (.inr (.inl x3)), none, some (.inl x5), some (.inr (.inl x6)), none], [], M0 L (uV V 120 33 s1) b) := by
  have f0 : (r64 x6 && r64 x3) = true := rr64_of g0 g1
  have f1 : r32 (cmpI x6 x3) = true := r32_of g2
  have hG : ((r64 x6 && r64 x3) && (r32 (cmpI x6 x3) && true)) = true := an f0 (an f1 rfl)
  show some ((r64 x6 && r64 x3) && (r32 (cmpI x6 x3) && true), _) = _
  rw [hG]
  try rfl

theorem B217_85 (L : Nat) (V : Mv) (b : Bool) (x1 : Int) (x2 : Int) (x3 : Int) (x5 : Int) (x6 : Int)  : nxs 2 217 85 [some (.inr (.inr 120)), some (.inl x1), some (.inl x2), some (.inr (.inl x3)), none, some (.inl x5), some (.inr (.inl x6)), none] [] (M0 L V b) = some (true, 91, [some (.inr (.inr 120)), some (.inl x1), some (.inl x2), some (.inr (.inl x3)), none, some (.inl x5), some (.inr (.inl x6)), none], [.inr (.inl x6)], M0 L V b) := by
  rfl

theorem B217_90 (L : Nat) (V : Mv) (b : Bool) (x1 : Int) (x2 : Int) (x3 : Int) (x5 : Int) (x6 : Int)  : nxs 1 217 90 [some (.inr (.inr 120)), some (.inl x1), some (.inl x2), some (.inr (.inl x3)), none, some (.inl x5), some (.inr (.inl x6)), none] [] (M0 L V b) = some (true, 91, [some (.inr (.inr 120)), some (.inl x1), some (.inl x2), some (.inr (.inl x3)), none, some (.inl x5), some (.inr (.inl x6)), none], [.inr (.inl x3)], M0 L V b) := by
  rfl

theorem B217_91 (L : Nat) (V : Mv) (b : Bool) (x1 : Int) (x2 : Int) (x3 : Int) (x5 : Int) (x6 : Int) (s0 : Int)  : nxs 1 217 91 [some (.inr (.inr 120)), some (.inl x1), some (.inl x2), some (.inr (.inl x3)), none, some (.inl x5), some (.inr (.inl x6)), none] [.inr (.inl s0)] (M0 L V b) = some (true, 92, [some (.inr (.inr 120)), some (.inl x1), some (.inl x2), some (.inr (.inl s0)), none, some (.inl x5), some (.inr (.inl x6)), none], [], M0 L V b) := by
  rfl

theorem B217_92 (L : Nat) (V : Mv) (b : Bool) (x1 : Int) (x2 : Int) (x3 : Int) (x5 : Int)  : nxs 2 217 92 [some (.inr (.inr 120)), some (.inl x1), some (.inl x2), some (.inr (.inl x3)), none, some (.inl x5), none, none] [] (M0 L V b) = some (true, 7, [some (.inr (.inr 120)), some (.inl x1), some (.inl x2), some (.inr (.inl x3)), none, some (.inl (x5 + 1)), none, none], [], M0 L V b) := by
  rfl

theorem B217_98 (L : Nat) (V : Mv) (b : Bool) (x1 : Int) (x2 : Int) (x3 : Int) (x5 : Int)  : nxs 1 217 98 [some (.inr (.inr 120)), some (.inl x1), some (.inl x2), some (.inr (.inl x3)), none, some (.inl x5), none, none] [] (M0 L V b) = some (true, 99, [some (.inr (.inr 120)), some (.inl x1), some (.inl x2), some (.inr (.inl x3)), none, some (.inl x5), none, none], [.inr (.inl x3)], M0 L V b) := by
  rfl

-- 218: MendedOrNewModel.unseenAct(II)I
theorem B218_0 (L : Nat) (V : Mv) (b : Bool) (x1 : Int) (x2 : Int)  : nxs 3 218 0 [some (.inr (.inr 120)), some (.inl x1), some (.inl x2), none] [] (M0 L V b) = some (true, 3, [some (.inr (.inr 120)), some (.inl x1), some (.inl x2), none], [.inl x2, .inl x1, .inr (.inr 120)], M0 L V b) := by
  rfl

theorem B218_6 (L : Nat) (V : Mv) (b : Bool) (x1 : Int) (x2 : Int) (s0 : Int) (g0 : in32 s0) : nxs 3 218 6 [some (.inr (.inr 120)), some (.inl x1), some (.inl x2), none] [.inl s0] (M0 L V b) = some (true, cond (decide (0 ≤ s0)) 13 11, [some (.inr (.inr 120)), some (.inl x1), some (.inl x2), some (.inl s0)], [], M0 L V b) := by
  have f0 : r32 s0 = true := r32_of g0
  have hG : (r32 s0 && true) = true := an f0 rfl
  show some (r32 s0 && true, _) = _
  rw [hG]
  try rfl

theorem B218_11 (L : Nat) (V : Mv) (b : Bool) (x1 : Int) (x2 : Int) (x3 : Int)  : nxs 1 218 11 [some (.inr (.inr 120)), some (.inl x1), some (.inl x2), some (.inl x3)] [] (M0 L V b) = some (true, 12, [some (.inr (.inr 120)), some (.inl x1), some (.inl x2), some (.inl x3)], [.inl x3], M0 L V b) := by
  rfl

theorem B218_13 (L : Nat) (V : Mv) (b : Bool) (x1 : Int) (x2 : Int) (x3 : Int)  : nxs 3 218 13 [some (.inr (.inr 120)), some (.inl x1), some (.inl x2), some (.inl x3)] [] (M0 L V b) = some (true, 16, [some (.inr (.inr 120)), some (.inl x1), some (.inl x2), some (.inl x3)], [.inl x2, .inl x1, .inr (.inr 120)], M0 L V b) := by
  rfl

theorem B218_19 (L : Nat) (V : Mv) (b : Bool) (x1 : Int) (x2 : Int) (x3 : Int) (s0 : Int)  : nxs 3 218 19 [some (.inr (.inr 120)), some (.inl x1), some (.inl x2), some (.inl x3)] [.inr (.inl s0)] (M0 L V b) = some (true, 24, [some (.inr (.inr 120)), some (.inl x1), some (.inl x2), some (.inl x3)], [.inl (V 120 33)], M0 L V b) := by
  rfl

-- 219: MendedOrNewModel.two(IIIIIZ)J
theorem B219_0 (L : Nat) (V : Mv) (b : Bool) (x1 : Int) (x2 : Int) (x3 : Int) (x4 : Int) (x5 : Int) (x6 : Int)  : nxs 3 219 0 [some (.inr (.inr 120)), some (.inl x1), some (.inl x2), some (.inl x3), some (.inl x4), some (.inl x5), some (.inl x6)] [] (M0 L V b) = some (true, 3, [some (.inr (.inr 120)), some (.inl x1), some (.inl x2), some (.inl x3), some (.inl x4), some (.inl x5), some (.inl x6)], [.inl x2, .inl x1, .inr (.inr 120)], M0 L V b) := by
  rfl

theorem B219_6 (L : Nat) (V : Mv) (b : Bool) (x1 : Int) (x2 : Int) (x3 : Int) (x4 : Int) (x5 : Int) (x6 : Int) (s0 : Int) (g0 : in32 s0) : nxs 1 219 6 [some (.inr (.inr 120)), some (.inl x1), some (.inl x2), some (.inl x3), some (.inl x4), some (.inl x5), some (.inl x6)] [.inl s0] (M0 L V b) = some (true, cond (decide (s0 = 0)) 19 9, [some (.inr (.inr 120)), some (.inl x1), some (.inl x2), some (.inl x3), some (.inl x4), some (.inl x5), some (.inl x6)], [], M0 L V b) := by
  have f0 : r32 s0 = true := r32_of g0
  have hG : (r32 s0 && true) = true := an f0 rfl
  show some (r32 s0 && true, _) = _
  rw [hG]
  try rfl

theorem B219_9 (L : Nat) (V : Mv) (b : Bool) (x1 : Int) (x2 : Int) (x3 : Int) (x4 : Int) (x5 : Int) (x6 : Int)  : nxs 3 219 9 [some (.inr (.inr 120)), some (.inl x1), some (.inl x2), some (.inl x3), some (.inl x4), some (.inl x5), some (.inl x6)] [] (M0 L V b) = some (true, 13, [some (.inr (.inr 120)), some (.inl x1), some (.inl x2), some (.inl x3), some (.inl x4), some (.inl x5), some (.inl x6)], [.inl x4, .inl x3, .inr (.inr 120)], M0 L V b) := by
  rfl

theorem B219_16 (L : Nat) (V : Mv) (b : Bool) (x1 : Int) (x2 : Int) (x3 : Int) (x4 : Int) (x5 : Int) (x6 : Int) (s0 : Int) (g0 : in32 s0) : nxs 1 219 16 [some (.inr (.inr 120)), some (.inl x1), some (.inl x2), some (.inl x3), some (.inl x4), some (.inl x5), some (.inl x6)] [.inl s0] (M0 L V b) = some (true, cond (!decide (s0 = 0)) 23 19, [some (.inr (.inr 120)), some (.inl x1), some (.inl x2), some (.inl x3), some (.inl x4), some (.inl x5), some (.inl x6)], [], M0 L V b) := by
  have f0 : r32 s0 = true := r32_of g0
  have hG : (r32 s0 && true) = true := an f0 rfl
  show some (r32 s0 && true, _) = _
  rw [hG]
  try rfl

theorem B219_19 (L : Nat) (V : Mv) (b : Bool) (x1 : Int) (x2 : Int) (x3 : Int) (x4 : Int) (x5 : Int) (x6 : Int)  : nxs 1 219 19 [some (.inr (.inr 120)), some (.inl x1), some (.inl x2), some (.inl x3), some (.inl x4), some (.inl x5), some (.inl x6)] [] (M0 L V b) = some (true, 22, [some (.inr (.inr 120)), some (.inl x1), some (.inl x2), some (.inl x3), some (.inl x4), some (.inl x5), some (.inl x6)], [.inr (.inl (-1))], M0 L V b) := by
  rfl

theorem B219_23 (L : Nat) (V : Mv) (b : Bool) (x1 : Int) (x2 : Int) (x3 : Int) (x4 : Int) (x5 : Int) (x6 : Int) (g0 : in32 x5) : nxs 4 219 23 [some (.inr (.inr 120)), some (.inl x1), some (.inl x2), some (.inl x3), some (.inl x4), some (.inl x5), some (.inl x6)] [] (M0 L V b) = some (true, 30, [some (.inr (.inr 120)), some (.inl x1), some (.inl x2), some (.inl x3), some (.inl x4), some (.inl x5), some (.inl x6)], [.inr (.inl 6), .inr (.inl 1), .inr (.inl x5)], M0 L V b) := by
  have f0 : r32 x5 = true := r32_of g0
  have hG : (r32 x5 && true) = true := an f0 rfl
  show some (r32 x5 && true, _) = _
  rw [hG]
  try rfl

theorem B219_33 (L : Nat) (V : Mv) (b : Bool) (x1 : Int) (x2 : Int) (x3 : Int) (x4 : Int) (x5 : Int) (x6 : Int) (s0 : Int) (g0 : in32 s0) : nxs 1 219 33 [some (.inr (.inr 120)), some (.inl x1), some (.inl x2), some (.inl x3), some (.inl x4), some (.inl x5), some (.inl x6)] [.inl s0] (M0 L V b) = some (true, cond (!decide (s0 = 0)) 40 36, [some (.inr (.inr 120)), some (.inl x1), some (.inl x2), some (.inl x3), some (.inl x4), some (.inl x5), some (.inl x6)], [], M0 L V b) := by
  have f0 : r32 s0 = true := r32_of g0
  have hG : (r32 s0 && true) = true := an f0 rfl
  show some (r32 s0 && true, _) = _
  rw [hG]
  try rfl

theorem B219_36 (L : Nat) (V : Mv) (b : Bool) (x1 : Int) (x2 : Int) (x3 : Int) (x4 : Int) (x5 : Int) (x6 : Int)  : nxs 1 219 36 [some (.inr (.inr 120)), some (.inl x1), some (.inl x2), some (.inl x3), some (.inl x4), some (.inl x5), some (.inl x6)] [] (M0 L V b) = some (true, 39, [some (.inr (.inr 120)), some (.inl x1), some (.inl x2), some (.inl x3), some (.inl x4), some (.inl x5), some (.inl x6)], [.inr (.inl (-2))], M0 L V b) := by
  rfl

theorem B219_40 (L : Nat) (V : Mv) (b : Bool) (x1 : Int) (x2 : Int) (x3 : Int) (x4 : Int) (x5 : Int) (x6 : Int)  : nxs 6 219 40 [some (.inr (.inr 120)), some (.inl x1), some (.inl x2), some (.inl x3), some (.inl x4), some (.inl x5), some (.inl x6)] [] (M0 L V b) = some (true, 48, [some (.inr (.inr 120)), some (.inl x1), some (.inl x2), some (.inl x3), some (.inl x4), some (.inl x5), some (.inl x6)], [.inl x5, .inl x4, .inl x3, .inl x2, .inl x1, .inr (.inr 120)], M0 L V b) := by
  rfl

theorem B219_51 (L : Nat) (V : Mv) (b : Bool) (x1 : Int) (x2 : Int) (x3 : Int) (x4 : Int) (x5 : Int) (x6 : Int) (s0 : Int)  : nxs 1 219 51 [some (.inr (.inr 120)), some (.inl x1), some (.inl x2), some (.inl x3), some (.inl x4), some (.inl x5), some (.inl x6)] [.inr (.inl s0)] (M0 L V b) = some (true, 53, [some (.inr (.inr 120)), some (.inl x1), some (.inl x2), some (.inl x3), some (.inl x4), some (.inl x5), some (.inl x6)], [.inl x5, .inr (.inl s0)], M0 L V b) := by
  rfl

theorem B219_56 (L : Nat) (V : Mv) (b : Bool) (x1 : Int) (x2 : Int) (x3 : Int) (x4 : Int) (x5 : Int) (x6 : Int) (s0 : Int) (s1 : Int)  : nxs 1 219 56 [some (.inr (.inr 120)), some (.inl x1), some (.inl x2), some (.inl x3), some (.inl x4), some (.inl x5), some (.inl x6)] [.inr (.inl s1), .inr (.inl s0)] (M0 L V b) = some (true, 58, [some (.inr (.inr 120)), some (.inl x1), some (.inl x2), some (.inl x3), some (.inl x4), some (.inl x5), some (.inl x6)], [.inl x6, .inr (.inl s1), .inr (.inl s0)], M0 L V b) := by
  rfl

-- 220: MendedOrNewModel.layTwo(IIIII)J
theorem B220_0 (L : Nat) (V : Mv) (b : Bool) (x1 : Int) (x2 : Int) (x3 : Int) (x4 : Int) (x5 : Int)  : nxs 2 220 0 [some (.inr (.inr 120)), some (.inl x1), some (.inl x2), some (.inl x3), some (.inl x4), some (.inl x5), none, none, none, none, none, none, none, none, none, none, none] [] (M0 L V b) = some (true, 3, [some (.inr (.inr 120)), some (.inl x1), some (.inl x2), some (.inl x3), some (.inl x4), some (.inl x5), some (.inl 0), none, none, none, none, none, none, none, none, none, none], [], M0 L V b) := by
  rfl

theorem B220_3 (L : Nat) (V : Mv) (b : Bool) (x1 : Int) (x2 : Int) (x3 : Int) (x4 : Int) (x5 : Int) (x6 : Int) (g0 : in32 x6) : nxs 3 220 3 [some (.inr (.inr 120)), some (.inl x1), some (.inl x2), some (.inl x3), some (.inl x4), some (.inl x5), some (.inl x6), none, none, none, none, none, none, none, none, none, none] [] (M0 L V b) = some (true, cond (decide (64 ≤ x6)) 24 10, [some (.inr (.inr 120)), some (.inl x1), some (.inl x2), some (.inl x3), some (.inl x4), some (.inl x5), some (.inl x6), none, none, none, none, none, none, none, none, none, none], [], M0 L V b) := by
  have f0 : (r32 x6 && r32 64) = true := rr32_of g0 (by decide)
  have hG : ((r32 x6 && r32 64) && true) = true := an f0 rfl
  show some ((r32 x6 && r32 64) && true, _) = _
  rw [hG]
  try rfl

theorem B220_10 (L : Nat) (V : Mv) (b : Bool) (x1 : Int) (x2 : Int) (x3 : Int) (x4 : Int) (x5 : Int) (x6 : Int) (g0 : 0 ≤ x6 ∧ x6 < 64) : nxs 7 220 10 [some (.inr (.inr 120)), some (.inl x1), some (.inl x2), some (.inl x3), some (.inl x4), some (.inl x5), some (.inl x6), none, none, none, none, none, none, none, none, none, none] [] (M0 L V b) = some (true, 3, [some (.inr (.inr 120)), some (.inl x1), some (.inl x2), some (.inl x3), some (.inl x4), some (.inl x5), some (.inl (x6 + 1)), none, none, none, none, none, none, none, none, none, none], [], M0 L (uV V 143 (x6).toNat 0) b) := by
  have f0 : (gX (M0 L V b) 143 2 x6 && !Nat.beq 143 0) = true := gs_of (gx_of rfl g0) (by decide)
  have hG : ((gX (M0 L V b) 143 2 x6 && !Nat.beq 143 0) && true) = true := an f0 rfl
  show some ((gX (M0 L V b) 143 2 x6 && !Nat.beq 143 0) && true, _) = _
  rw [hG]
  try rfl

theorem B220_24 (L : Nat) (V : Mv) (b : Bool) (x1 : Int) (x2 : Int) (x3 : Int) (x4 : Int) (x5 : Int) (x6 : Int)  : nxs 4 220 24 [some (.inr (.inr 120)), some (.inl x1), some (.inl x2), some (.inl x3), some (.inl x4), some (.inl x5), some (.inl x6), none, none, none, none, none, none, none, none, none, none] [] (M0 L V b) = some (true, 30, [some (.inr (.inr 120)), some (.inl x1), some (.inl x2), some (.inl x3), some (.inl x4), some (.inl x5), some (.inr (.inl 1)), none, some (.inl 0), none, none, none, none, none, none, none, none], [], M0 L V b) := by
  rfl

theorem B220_30 (L : Nat) (V : Mv) (b : Bool) (x1 : Int) (x2 : Int) (x3 : Int) (x4 : Int) (x5 : Int) (x6 : Int) (x8 : Int) (g0 : in32 x8) (g1 : in32 x5) : nxs 3 220 30 [some (.inr (.inr 120)), some (.inl x1), some (.inl x2), some (.inl x3), some (.inl x4), some (.inl x5), some (.inr (.inl x6)), none, some (.inl x8), none, none, none, none, none, none, none, none] [] (M0 L V b) = some (true, cond (decide (x5 ≤ x8)) 346 37, [some (.inr (.inr 120)), some (.inl x1), some (.inl x2), some (.inl x3), some (.inl x4), some (.inl x5), some (.inr (.inl x6)), none, some (.inl x8), none, none, none, none, none, none, none, none], [], M0 L V b) := by
  have f0 : (r32 x8 && r32 x5) = true := rr32_of g0 g1
  have hG : ((r32 x8 && r32 x5) && true) = true := an f0 rfl
  show some ((r32 x8 && r32 x5) && true, _) = _
  rw [hG]
  try rfl

theorem B220_37 (L : Nat) (V : Mv) (b : Bool) (x1 : Int) (x2 : Int) (x3 : Int) (x4 : Int) (x5 : Int) (x6 : Int) (x8 : Int)  : nxs 6 220 37 [some (.inr (.inr 120)), some (.inl x1), some (.inl x2), some (.inl x3), some (.inl x4), some (.inl x5), some (.inr (.inl x6)), none, some (.inl x8), none, none, none, none, none, none, none, none] [] (M0 L V b) = some (true, 48, [some (.inr (.inr 120)), some (.inl x1), some (.inl x2), some (.inl x3), some (.inl x4), some (.inl x5), some (.inr (.inl (x6 * 10))), none, some (.inl x8), some (.inl 0), none, none, none, none, none, none, none], [], M0 L V b) := by
  rfl

theorem B220_48 (L : Nat) (V : Mv) (b : Bool) (x1 : Int) (x2 : Int) (x3 : Int) (x4 : Int) (x5 : Int) (x6 : Int) (x8 : Int) (x9 : Int) (g0 : in32 x9) : nxs 3 220 48 [some (.inr (.inr 120)), some (.inl x1), some (.inl x2), some (.inl x3), some (.inl x4), some (.inl x5), some (.inr (.inl x6)), none, some (.inl x8), some (.inl x9), none, none, none, none, none, none, none] [] (M0 L V b) = some (true, cond (decide (64 ≤ x9)) 310 55, [some (.inr (.inr 120)), some (.inl x1), some (.inl x2), some (.inl x3), some (.inl x4), some (.inl x5), some (.inr (.inl x6)), none, some (.inl x8), some (.inl x9), none, none, none, none, none, none, none], [], M0 L V b) := by
  have f0 : (r32 x9 && r32 64) = true := rr32_of g0 (by decide)
  have hG : ((r32 x9 && r32 64) && true) = true := an f0 rfl
  show some ((r32 x9 && r32 64) && true, _) = _
  rw [hG]
  try rfl

theorem B220_55 (L : Nat) (V : Mv) (b : Bool) (x1 : Int) (x2 : Int) (x3 : Int) (x4 : Int) (x5 : Int) (x6 : Int) (x8 : Int) (x9 : Int) (g0 : in32 x9) (g1 : 0 ≤ (8 * x1) + (Int.tdiv x9 8) ∧ (8 * x1) + (Int.tdiv x9 8) < 32) (g2 : in32 (V 124 ((8 * x1) + (Int.tdiv x9 8)).toNat)) (g3 : 0 ≤ (8 * x3) + (Int.tmod x9 8) ∧ (8 * x3) + (Int.tmod x9 8) < 32) (g4 : in32 (V 124 ((8 * x3) + (Int.tmod x9 8)).toNat)) : nxs 34 220 55 [some (.inr (.inr 120)), some (.inl x1), some (.inl x2), some (.inl x3), some (.inl x4), some (.inl x5), some (.inr (.inl x6)), none, some (.inl x8), some (.inl x9), none, none, none, none, none, none, none] [] (M0 L V b) = some (true, 108, [some (.inr (.inr 120)), some (.inl x1), some (.inl x2), some (.inl x3), some (.inl x4), some (.inl x5), some (.inr (.inl x6)), none, some (.inl x8), some (.inl x9), some (.inl (Int.tdiv x9 8)), some (.inl (Int.tmod x9 8)), some (.inr (.inl ((V 124 ((8 * x1) + (Int.tdiv x9 8)).toNat) * x6))), none, some (.inr (.inl ((V 124 ((8 * x3) + (Int.tmod x9 8)).toNat) * x6))), none, some (.inl 0)], [], M0 L V b) := by
  have f0 : gD x9 8 = true := gD_of g0 (by decide) (by decide)
  have f1 : gD x9 8 = true := gD_of g0 (by decide) (by decide)
  have f2 : gX (M0 L V b) 124 1 ((8 * x1) + (Int.tdiv x9 8)) = true := gx_of rfl g1
  have f3 : r32 (V 124 ((8 * x1) + (Int.tdiv x9 8)).toNat) = true := r32_of g2
  have f4 : gX (M0 L V b) 124 1 ((8 * x3) + (Int.tmod x9 8)) = true := gx_of rfl g3
  have f5 : r32 (V 124 ((8 * x3) + (Int.tmod x9 8)).toNat) = true := r32_of g4
  have hG : (gD x9 8 && (gD x9 8 && (gX (M0 L V b) 124 1 ((8 * x1) + (Int.tdiv x9 8)) && (r32 (V 124 ((8 * x1) + (Int.tdiv x9 8)).toNat) && (gX (M0 L V b) 124 1 ((8 * x3) + (Int.tmod x9 8)) && (r32 (V 124 ((8 * x3) + (Int.tmod x9 8)).toNat) && true)))))) = true := an f0 (an f1 (an f2 (an f3 (an f4 (an f5 rfl)))))
  show some (gD x9 8 && (gD x9 8 && (gX (M0 L V b) 124 1 ((8 * x1) + (Int.tdiv x9 8)) && (r32 (V 124 ((8 * x1) + (Int.tdiv x9 8)).toNat) && (gX (M0 L V b) 124 1 ((8 * x3) + (Int.tmod x9 8)) && (r32 (V 124 ((8 * x3) + (Int.tmod x9 8)).toNat) && true))))), _) = _
  rw [hG]
  try rfl

theorem B220_108 (L : Nat) (V : Mv) (b : Bool) (x1 : Int) (x2 : Int) (x3 : Int) (x4 : Int) (x5 : Int) (x6 : Int) (x8 : Int) (x9 : Int) (x10 : Int) (x11 : Int) (x12 : Int) (x14 : Int) (x16 : Int) (g0 : in32 x16) : nxs 3 220 108 [some (.inr (.inr 120)), some (.inl x1), some (.inl x2), some (.inl x3), some (.inl x4), some (.inl x5), some (.inr (.inl x6)), none, some (.inl x8), some (.inl x9), some (.inl x10), some (.inl x11), some (.inr (.inl x12)), none, some (.inr (.inl x14)), none, some (.inl x16)] [] (M0 L V b) = some (true, cond (decide (8 ≤ x16)) 245 115, [some (.inr (.inr 120)), some (.inl x1), some (.inl x2), some (.inl x3), some (.inl x4), some (.inl x5), some (.inr (.inl x6)), none, some (.inl x8), some (.inl x9), some (.inl x10), some (.inl x11), some (.inr (.inl x12)), none, some (.inr (.inl x14)), none, some (.inl x16)], [], M0 L V b) := by
  have f0 : (r32 x16 && r32 8) = true := rr32_of g0 (by decide)
  have hG : ((r32 x16 && r32 8) && true) = true := an f0 rfl
  show some ((r32 x16 && r32 8) && true, _) = _
  rw [hG]
  try rfl

theorem B220_115 (L : Nat) (V : Mv) (b : Bool) (x1 : Int) (x2 : Int) (x3 : Int) (x4 : Int) (x5 : Int) (x6 : Int) (x8 : Int) (x9 : Int) (x10 : Int) (x11 : Int) (x12 : Int) (x14 : Int) (x16 : Int) (g0 : 0 ≤ x1 ∧ x1 < 4) (g1 : in32 x10) (g2 : in32 (V 121 (x1).toNat)) : nxs 7 220 115 [some (.inr (.inr 120)), some (.inl x1), some (.inl x2), some (.inl x3), some (.inl x4), some (.inl x5), some (.inr (.inl x6)), none, some (.inl x8), some (.inl x9), some (.inl x10), some (.inl x11), some (.inr (.inl x12)), none, some (.inr (.inl x14)), none, some (.inl x16)] [] (M0 L V b) = some (true, cond (decide (V 121 (x1).toNat ≤ x10)) 173 128, [some (.inr (.inr 120)), some (.inl x1), some (.inl x2), some (.inl x3), some (.inl x4), some (.inl x5), some (.inr (.inl x6)), none, some (.inl x8), some (.inl x9), some (.inl x10), some (.inl x11), some (.inr (.inl x12)), none, some (.inr (.inl x14)), none, some (.inl x16)], [.inr (.inl x12)], M0 L V b) := by
  have f0 : gX (M0 L V b) 121 1 x1 = true := gx_of rfl g0
  have f1 : (r32 x10 && r32 (V 121 (x1).toNat)) = true := rr32_of g1 g2
  have hG : (gX (M0 L V b) 121 1 x1 && ((r32 x10 && r32 (V 121 (x1).toNat)) && true)) = true := an f0 (an f1 rfl)
  show some (gX (M0 L V b) 121 1 x1 && ((r32 x10 && r32 (V 121 (x1).toNat)) && true), _) = _
  rw [hG]
  try rfl

theorem B220_128 (L : Nat) (V : Mv) (b : Bool) (x1 : Int) (x2 : Int) (x3 : Int) (x4 : Int) (x5 : Int) (x6 : Int) (x8 : Int) (x9 : Int) (x10 : Int) (x11 : Int) (x12 : Int) (x14 : Int) (x16 : Int) (s0 : Int) (g0 : 0 ≤ x1 ∧ x1 < 4) (g1 : in32 x16) (g2 : in32 (V 121 (x1).toNat)) : nxs 6 220 128 [some (.inr (.inr 120)), some (.inl x1), some (.inl x2), some (.inl x3), some (.inl x4), some (.inl x5), some (.inr (.inl x6)), none, some (.inl x8), some (.inl x9), some (.inl x10), some (.inl x11), some (.inr (.inl x12)), none, some (.inr (.inl x14)), none, some (.inl x16)] [.inr (.inl s0)] (M0 L V b) = some (true, cond (decide (V 121 (x1).toNat ≤ x16)) 173 139, [some (.inr (.inr 120)), some (.inl x1), some (.inl x2), some (.inl x3), some (.inl x4), some (.inl x5), some (.inr (.inl x6)), none, some (.inl x8), some (.inl x9), some (.inl x10), some (.inl x11), some (.inr (.inl x12)), none, some (.inr (.inl x14)), none, some (.inl x16)], [.inr (.inl s0)], M0 L V b) := by
  have f0 : gX (M0 L V b) 121 1 x1 = true := gx_of rfl g0
  have f1 : (r32 x16 && r32 (V 121 (x1).toNat)) = true := rr32_of g1 g2
  have hG : (gX (M0 L V b) 121 1 x1 && ((r32 x16 && r32 (V 121 (x1).toNat)) && true)) = true := an f0 (an f1 rfl)
  show some (gX (M0 L V b) 121 1 x1 && ((r32 x16 && r32 (V 121 (x1).toNat)) && true), _) = _
  rw [hG]
  try rfl

theorem B220_139 (L : Nat) (V : Mv) (b : Bool) (x1 : Int) (x2 : Int) (x3 : Int) (x4 : Int) (x5 : Int) (x6 : Int) (x8 : Int) (x9 : Int) (x10 : Int) (x11 : Int) (x12 : Int) (x14 : Int) (x16 : Int) (s0 : Int) (g0 : in32 x16) (g1 : in32 x10) : nxs 3 220 139 [some (.inr (.inr 120)), some (.inl x1), some (.inl x2), some (.inl x3), some (.inl x4), some (.inl x5), some (.inr (.inl x6)), none, some (.inl x8), some (.inl x9), some (.inl x10), some (.inl x11), some (.inr (.inl x12)), none, some (.inr (.inl x14)), none, some (.inl x16)] [.inr (.inl s0)] (M0 L V b) = some (true, cond (decide (x16 < x10)) 173 146, [some (.inr (.inr 120)), some (.inl x1), some (.inl x2), some (.inl x3), some (.inl x4), some (.inl x5), some (.inr (.inl x6)), none, some (.inl x8), some (.inl x9), some (.inl x10), some (.inl x11), some (.inr (.inl x12)), none, some (.inr (.inl x14)), none, some (.inl x16)], [.inr (.inl s0)], M0 L V b) := by
  have f0 : (r32 x16 && r32 x10) = true := rr32_of g0 g1
  have hG : ((r32 x16 && r32 x10) && true) = true := an f0 rfl
  show some ((r32 x16 && r32 x10) && true, _) = _
  rw [hG]
  try rfl

theorem B220_146 (L : Nat) (V : Mv) (b : Bool) (x1 : Int) (x2 : Int) (x3 : Int) (x4 : Int) (x5 : Int) (x6 : Int) (x8 : Int) (x9 : Int) (x10 : Int) (x11 : Int) (x12 : Int) (x14 : Int) (x16 : Int) (s0 : Int)  : nxs 4 220 146 [some (.inr (.inr 120)), some (.inl x1), some (.inl x2), some (.inl x3), some (.inl x4), some (.inl x5), some (.inr (.inl x6)), none, some (.inl x8), some (.inl x9), some (.inl x10), some (.inl x11), some (.inr (.inl x12)), none, some (.inr (.inl x14)), none, some (.inl x16)] [.inr (.inl s0)] (M0 L V b) = some (true, 152, [some (.inr (.inr 120)), some (.inl x1), some (.inl x2), some (.inl x3), some (.inl x4), some (.inl x5), some (.inr (.inl x6)), none, some (.inl x8), some (.inl x9), some (.inl x10), some (.inl x11), some (.inr (.inl x12)), none, some (.inr (.inl x14)), none, some (.inl x16)], [.inl x16, .inl x10, .inl x1, .inr (.inr 120), .inr (.inl s0)], M0 L V b) := by
  rfl

theorem B220_155 (L : Nat) (V : Mv) (b : Bool) (x1 : Int) (x2 : Int) (x3 : Int) (x4 : Int) (x5 : Int) (x6 : Int) (x8 : Int) (x9 : Int) (x10 : Int) (x11 : Int) (x12 : Int) (x14 : Int) (x16 : Int) (s0 : Int) (s1 : Int) (g0 : in32 s1) (g1 : 0 ≤ (8 * x16) + x11 ∧ (8 * x16) + x11 < 64) : nxs 11 220 155 [some (.inr (.inr 120)), some (.inl x1), some (.inl x2), some (.inl x3), some (.inl x4), some (.inl x5), some (.inr (.inl x6)), none, some (.inl x8), some (.inl x9), some (.inl x10), some (.inl x11), some (.inr (.inl x12)), none, some (.inr (.inl x14)), none, some (.inl x16)] [.inl s1, .inr (.inl s0)] (M0 L V b) = some (true, 174, [some (.inr (.inr 120)), some (.inl x1), some (.inl x2), some (.inl x3), some (.inl x4), some (.inl x5), some (.inr (.inl x6)), none, some (.inl x8), some (.inl x9), some (.inl x10), some (.inl x11), some (.inr (.inl x12)), none, some (.inr (.inl x14)), none, some (.inl x16)], [.inr (.inl (s1 * (V 143 ((8 * x16) + x11).toNat))), .inr (.inl s0)], M0 L V b) := by
  have f0 : r32 s1 = true := r32_of g0
  have f1 : gX (M0 L V b) 143 2 ((8 * x16) + x11) = true := gx_of rfl g1
  have hG : (r32 s1 && (gX (M0 L V b) 143 2 ((8 * x16) + x11) && true)) = true := an f0 (an f1 rfl)
  show some (r32 s1 && (gX (M0 L V b) 143 2 ((8 * x16) + x11) && true), _) = _
  rw [hG]
  try rfl

theorem B220_173 (L : Nat) (V : Mv) (b : Bool) (x1 : Int) (x2 : Int) (x3 : Int) (x4 : Int) (x5 : Int) (x6 : Int) (x8 : Int) (x9 : Int) (x10 : Int) (x11 : Int) (x12 : Int) (x14 : Int) (x16 : Int) (s0 : Int)  : nxs 1 220 173 [some (.inr (.inr 120)), some (.inl x1), some (.inl x2), some (.inl x3), some (.inl x4), some (.inl x5), some (.inr (.inl x6)), none, some (.inl x8), some (.inl x9), some (.inl x10), some (.inl x11), some (.inr (.inl x12)), none, some (.inr (.inl x14)), none, some (.inl x16)] [.inr (.inl s0)] (M0 L V b) = some (true, 174, [some (.inr (.inr 120)), some (.inl x1), some (.inl x2), some (.inl x3), some (.inl x4), some (.inl x5), some (.inr (.inl x6)), none, some (.inl x8), some (.inl x9), some (.inl x10), some (.inl x11), some (.inr (.inl x12)), none, some (.inr (.inl x14)), none, some (.inl x16)], [.inr (.inl 0), .inr (.inl s0)], M0 L V b) := by
  rfl

theorem B220_174 (L : Nat) (V : Mv) (b : Bool) (x1 : Int) (x2 : Int) (x3 : Int) (x4 : Int) (x5 : Int) (x6 : Int) (x8 : Int) (x9 : Int) (x10 : Int) (x11 : Int) (x12 : Int) (x14 : Int) (x16 : Int) (s0 : Int) (s1 : Int) (g0 : 0 ≤ x3 ∧ x3 < 4) (g1 : in32 x11) (g2 : in32 (V 121 (x3).toNat)) : nxs 9 220 174 [some (.inr (.inr 120)), some (.inl x1), some (.inl x2), some (.inl x3), some (.inl x4), some (.inl x5), some (.inr (.inl x6)), none, some (.inl x8), some (.inl x9), some (.inl x10), some (.inl x11), some (.inr (.inl x12)), none, some (.inr (.inl x14)), none, some (.inl x16)] [.inr (.inl s1), .inr (.inl s0)] (M0 L V b) = some (true, cond (decide (V 121 (x3).toNat ≤ x11)) 235 190, [some (.inr (.inr 120)), some (.inl x1), some (.inl x2), some (.inl x3), some (.inl x4), some (.inl x5), some (.inr (.inl x6)), none, some (.inl x8), some (.inl x9), some (.inl x10), some (.inl x11), some (.inr (.inl (s0 + s1))), none, some (.inr (.inl x14)), none, some (.inl x16)], [.inr (.inl x14)], M0 L V b) := by
  have f0 : gX (M0 L V b) 121 1 x3 = true := gx_of rfl g0
  have f1 : (r32 x11 && r32 (V 121 (x3).toNat)) = true := rr32_of g1 g2
  have hG : (gX (M0 L V b) 121 1 x3 && ((r32 x11 && r32 (V 121 (x3).toNat)) && true)) = true := an f0 (an f1 rfl)
  show some (gX (M0 L V b) 121 1 x3 && ((r32 x11 && r32 (V 121 (x3).toNat)) && true), _) = _
  rw [hG]
  try rfl

theorem B220_190 (L : Nat) (V : Mv) (b : Bool) (x1 : Int) (x2 : Int) (x3 : Int) (x4 : Int) (x5 : Int) (x6 : Int) (x8 : Int) (x9 : Int) (x10 : Int) (x11 : Int) (x12 : Int) (x14 : Int) (x16 : Int) (s0 : Int) (g0 : 0 ≤ x3 ∧ x3 < 4) (g1 : in32 x16) (g2 : in32 (V 121 (x3).toNat)) : nxs 6 220 190 [some (.inr (.inr 120)), some (.inl x1), some (.inl x2), some (.inl x3), some (.inl x4), some (.inl x5), some (.inr (.inl x6)), none, some (.inl x8), some (.inl x9), some (.inl x10), some (.inl x11), some (.inr (.inl x12)), none, some (.inr (.inl x14)), none, some (.inl x16)] [.inr (.inl s0)] (M0 L V b) = some (true, cond (decide (V 121 (x3).toNat ≤ x16)) 235 201, [some (.inr (.inr 120)), some (.inl x1), some (.inl x2), some (.inl x3), some (.inl x4), some (.inl x5), some (.inr (.inl x6)), none, some (.inl x8), some (.inl x9), some (.inl x10), some (.inl x11), some (.inr (.inl x12)), none, some (.inr (.inl x14)), none, some (.inl x16)], [.inr (.inl s0)], M0 L V b) := by
  have f0 : gX (M0 L V b) 121 1 x3 = true := gx_of rfl g0
  have f1 : (r32 x16 && r32 (V 121 (x3).toNat)) = true := rr32_of g1 g2
  have hG : (gX (M0 L V b) 121 1 x3 && ((r32 x16 && r32 (V 121 (x3).toNat)) && true)) = true := an f0 (an f1 rfl)
  show some (gX (M0 L V b) 121 1 x3 && ((r32 x16 && r32 (V 121 (x3).toNat)) && true), _) = _
  rw [hG]
  try rfl

theorem B220_201 (L : Nat) (V : Mv) (b : Bool) (x1 : Int) (x2 : Int) (x3 : Int) (x4 : Int) (x5 : Int) (x6 : Int) (x8 : Int) (x9 : Int) (x10 : Int) (x11 : Int) (x12 : Int) (x14 : Int) (x16 : Int) (s0 : Int) (g0 : in32 x16) (g1 : in32 x11) : nxs 3 220 201 [some (.inr (.inr 120)), some (.inl x1), some (.inl x2), some (.inl x3), some (.inl x4), some (.inl x5), some (.inr (.inl x6)), none, some (.inl x8), some (.inl x9), some (.inl x10), some (.inl x11), some (.inr (.inl x12)), none, some (.inr (.inl x14)), none, some (.inl x16)] [.inr (.inl s0)] (M0 L V b) = some (true, cond (decide (x16 < x11)) 235 208, [some (.inr (.inr 120)), some (.inl x1), some (.inl x2), some (.inl x3), some (.inl x4), some (.inl x5), some (.inr (.inl x6)), none, some (.inl x8), some (.inl x9), some (.inl x10), some (.inl x11), some (.inr (.inl x12)), none, some (.inr (.inl x14)), none, some (.inl x16)], [.inr (.inl s0)], M0 L V b) := by
  have f0 : (r32 x16 && r32 x11) = true := rr32_of g0 g1
  have hG : ((r32 x16 && r32 x11) && true) = true := an f0 rfl
  show some ((r32 x16 && r32 x11) && true, _) = _
  rw [hG]
  try rfl

theorem B220_208 (L : Nat) (V : Mv) (b : Bool) (x1 : Int) (x2 : Int) (x3 : Int) (x4 : Int) (x5 : Int) (x6 : Int) (x8 : Int) (x9 : Int) (x10 : Int) (x11 : Int) (x12 : Int) (x14 : Int) (x16 : Int) (s0 : Int)  : nxs 4 220 208 [some (.inr (.inr 120)), some (.inl x1), some (.inl x2), some (.inl x3), some (.inl x4), some (.inl x5), some (.inr (.inl x6)), none, some (.inl x8), some (.inl x9), some (.inl x10), some (.inl x11), some (.inr (.inl x12)), none, some (.inr (.inl x14)), none, some (.inl x16)] [.inr (.inl s0)] (M0 L V b) = some (true, 214, [some (.inr (.inr 120)), some (.inl x1), some (.inl x2), some (.inl x3), some (.inl x4), some (.inl x5), some (.inr (.inl x6)), none, some (.inl x8), some (.inl x9), some (.inl x10), some (.inl x11), some (.inr (.inl x12)), none, some (.inr (.inl x14)), none, some (.inl x16)], [.inl x16, .inl x11, .inl x3, .inr (.inr 120), .inr (.inl s0)], M0 L V b) := by
  rfl

theorem B220_217 (L : Nat) (V : Mv) (b : Bool) (x1 : Int) (x2 : Int) (x3 : Int) (x4 : Int) (x5 : Int) (x6 : Int) (x8 : Int) (x9 : Int) (x10 : Int) (x11 : Int) (x12 : Int) (x14 : Int) (x16 : Int) (s0 : Int) (s1 : Int) (g0 : in32 s1) (g1 : 0 ≤ (8 * x10) + x16 ∧ (8 * x10) + x16 < 64) : nxs 11 220 217 [some (.inr (.inr 120)), some (.inl x1), some (.inl x2), some (.inl x3), some (.inl x4), some (.inl x5), some (.inr (.inl x6)), none, some (.inl x8), some (.inl x9), some (.inl x10), some (.inl x11), some (.inr (.inl x12)), none, some (.inr (.inl x14)), none, some (.inl x16)] [.inl s1, .inr (.inl s0)] (M0 L V b) = some (true, 236, [some (.inr (.inr 120)), some (.inl x1), some (.inl x2), some (.inl x3), some (.inl x4), some (.inl x5), some (.inr (.inl x6)), none, some (.inl x8), some (.inl x9), some (.inl x10), some (.inl x11), some (.inr (.inl x12)), none, some (.inr (.inl x14)), none, some (.inl x16)], [.inr (.inl (s1 * (V 143 ((8 * x10) + x16).toNat))), .inr (.inl s0)], M0 L V b) := by
  have f0 : r32 s1 = true := r32_of g0
  have f1 : gX (M0 L V b) 143 2 ((8 * x10) + x16) = true := gx_of rfl g1
  have hG : (r32 s1 && (gX (M0 L V b) 143 2 ((8 * x10) + x16) && true)) = true := an f0 (an f1 rfl)
  show some (r32 s1 && (gX (M0 L V b) 143 2 ((8 * x10) + x16) && true), _) = _
  rw [hG]
  try rfl

theorem B220_235 (L : Nat) (V : Mv) (b : Bool) (x1 : Int) (x2 : Int) (x3 : Int) (x4 : Int) (x5 : Int) (x6 : Int) (x8 : Int) (x9 : Int) (x10 : Int) (x11 : Int) (x12 : Int) (x14 : Int) (x16 : Int) (s0 : Int)  : nxs 1 220 235 [some (.inr (.inr 120)), some (.inl x1), some (.inl x2), some (.inl x3), some (.inl x4), some (.inl x5), some (.inr (.inl x6)), none, some (.inl x8), some (.inl x9), some (.inl x10), some (.inl x11), some (.inr (.inl x12)), none, some (.inr (.inl x14)), none, some (.inl x16)] [.inr (.inl s0)] (M0 L V b) = some (true, 236, [some (.inr (.inr 120)), some (.inl x1), some (.inl x2), some (.inl x3), some (.inl x4), some (.inl x5), some (.inr (.inl x6)), none, some (.inl x8), some (.inl x9), some (.inl x10), some (.inl x11), some (.inr (.inl x12)), none, some (.inr (.inl x14)), none, some (.inl x16)], [.inr (.inl 0), .inr (.inl s0)], M0 L V b) := by
  rfl

theorem B220_236 (L : Nat) (V : Mv) (b : Bool) (x1 : Int) (x2 : Int) (x3 : Int) (x4 : Int) (x5 : Int) (x6 : Int) (x8 : Int) (x9 : Int) (x10 : Int) (x11 : Int) (x12 : Int) (x14 : Int) (x16 : Int) (s0 : Int) (s1 : Int)  : nxs 4 220 236 [some (.inr (.inr 120)), some (.inl x1), some (.inl x2), some (.inl x3), some (.inl x4), some (.inl x5), some (.inr (.inl x6)), none, some (.inl x8), some (.inl x9), some (.inl x10), some (.inl x11), some (.inr (.inl x12)), none, some (.inr (.inl x14)), none, some (.inl x16)] [.inr (.inl s1), .inr (.inl s0)] (M0 L V b) = some (true, 108, [some (.inr (.inr 120)), some (.inl x1), some (.inl x2), some (.inl x3), some (.inl x4), some (.inl x5), some (.inr (.inl x6)), none, some (.inl x8), some (.inl x9), some (.inl x10), some (.inl x11), some (.inr (.inl x12)), none, some (.inr (.inl (s0 + s1))), none, some (.inl (x16 + 1))], [], M0 L V b) := by
  rfl

theorem B220_245 (L : Nat) (V : Mv) (b : Bool) (x1 : Int) (x2 : Int) (x3 : Int) (x4 : Int) (x5 : Int) (x6 : Int) (x8 : Int) (x9 : Int) (x10 : Int) (x11 : Int) (x12 : Int) (x14 : Int) (x16 : Int) (g0 : in64 x14) (g1 : in64 x12) (g2 : in32 (cmpI x14 x12)) : nxs 7 220 245 [some (.inr (.inr 120)), some (.inl x1), some (.inl x2), some (.inl x3), some (.inl x4), some (.inl x5), some (.inr (.inl x6)), none, some (.inl x8), some (.inl x9), some (.inl x10), some (.inl x11), some (.inr (.inl x12)), none, some (.inr (.inl x14)), none, some (.inl x16)] [] (M0 L V b) = some (true, cond (decide (0 ≤ cmpI x14 x12)) 264 259, [some (.inr (.inr 120)), some (.inl x1), some (.inl x2), some (.inl x3), some (.inl x4), some (.inl x5), some (.inr (.inl x6)), none, some (.inl x8), some (.inl x9), some (.inl x10), some (.inl x11), some (.inr (.inl x12)), none, some (.inr (.inl x14)), none, some (.inl x16)], [.inl x9, .inr (.inr 144)], M0 L V b) := by
  have f0 : (r64 x14 && r64 x12) = true := rr64_of g0 g1
  have f1 : r32 (cmpI x14 x12) = true := r32_of g2
  have hG : ((r64 x14 && r64 x12) && (r32 (cmpI x14 x12) && true)) = true := an f0 (an f1 rfl)
  show some ((r64 x14 && r64 x12) && (r32 (cmpI x14 x12) && true), _) = _
  rw [hG]
  try rfl

theorem B220_259 (L : Nat) (V : Mv) (b : Bool) (x1 : Int) (x2 : Int) (x3 : Int) (x4 : Int) (x5 : Int) (x6 : Int) (x8 : Int) (x9 : Int) (x10 : Int) (x11 : Int) (x12 : Int) (x14 : Int) (x16 : Int) (s1 : Int)  : nxs 2 220 259 [some (.inr (.inr 120)), some (.inl x1), some (.inl x2), some (.inl x3), some (.inl x4), some (.inl x5), some (.inr (.inl x6)), none, some (.inl x8), some (.inl x9), some (.inl x10), some (.inl x11), some (.inr (.inl x12)), none, some (.inr (.inl x14)), none, some (.inl x16)] [.inl s1, .inr (.inr 119)] (M0 L V b) = some (true, 266, [some (.inr (.inr 120)), some (.inl x1), some (.inl x2), some (.inl x3), some (.inl x4), some (.inl x5), some (.inr (.inl x6)), none, some (.inl x8), some (.inl x9), some (.inl x10), some (.inl x11), some (.inr (.inl x12)), none, some (.inr (.inl x14)), none, some (.inl x16)], [.inr (.inl x14), .inl s1, .inr (.inr 119)], M0 L V b) := by
  rfl

theorem B220_264 (L : Nat) (V : Mv) (b : Bool) (x1 : Int) (x2 : Int) (x3 : Int) (x4 : Int) (x5 : Int) (x6 : Int) (x8 : Int) (x9 : Int) (x10 : Int) (x11 : Int) (x12 : Int) (x14 : Int) (x16 : Int) (s1 : Int)  : nxs 1 220 264 [some (.inr (.inr 120)), some (.inl x1), some (.inl x2), some (.inl x3), some (.inl x4), some (.inl x5), some (.inr (.inl x6)), none, some (.inl x8), some (.inl x9), some (.inl x10), some (.inl x11), some (.inr (.inl x12)), none, some (.inr (.inl x14)), none, some (.inl x16)] [.inl s1, .inr (.inr 119)] (M0 L V b) = some (true, 266, [some (.inr (.inr 120)), some (.inl x1), some (.inl x2), some (.inl x3), some (.inl x4), some (.inl x5), some (.inr (.inl x6)), none, some (.inl x8), some (.inl x9), some (.inl x10), some (.inl x11), some (.inr (.inl x12)), none, some (.inr (.inl x14)), none, some (.inl x16)], [.inr (.inl x12), .inl s1, .inr (.inr 119)], M0 L V b) := by
  rfl

theorem B220_266 (L : Nat) (V : Mv) (b : Bool) (x1 : Int) (x2 : Int) (x3 : Int) (x4 : Int) (x5 : Int) (x6 : Int) (x8 : Int) (x9 : Int) (x10 : Int) (x11 : Int) (x12 : Int) (x14 : Int) (x16 : Int) (s1 : Int) (s2 : Int) (g0 : 0 ≤ s1 ∧ s1 < 8) (g1 : in32 x10) (g2 : in32 x2) : nxs 5 220 266 [some (.inr (.inr 120)), some (.inl x1), some (.inl x2), some (.inl x3), some (.inl x4), some (.inl x5), some (.inr (.inl x6)), none, some (.inl x8), some (.inl x9), some (.inl x10), some (.inl x11), some (.inr (.inl x12)), none, some (.inr (.inl x14)), none, some (.inl x16)] [.inr (.inl s2), .inl s1, .inr (.inr 119)] (M0 L V b) = some (true, cond (!decide (x10 = x2)) 297 274, [some (.inr (.inr 120)), some (.inl x1), some (.inl x2), some (.inl x3), some (.inl x4), some (.inl x5), some (.inr (.inl x6)), none, some (.inl x8), some (.inl x9), some (.inl x10), some (.inl x11), some (.inr (.inl x12)), none, some (.inr (.inl x14)), none, some (.inl x16)], [.inr (.inr 120)], M0 L (uV V 119 (s1).toNat s2) b) := by
  have f0 : (gX (M0 L V b) 119 2 s1 && !Nat.beq 119 0) = true := gs_of (gx_of rfl g0) (by decide)
  have f1 : (r32 x10 && r32 x2) = true := rr32_of g1 g2
  have hG : ((gX (M0 L V b) 119 2 s1 && !Nat.beq 119 0) && ((r32 x10 && r32 x2) && true)) = true := an f0 (an f1 rfl)
  show some ((gX (M0 L V b) 119 2 s1 && !Nat.beq 119 0) && ((r32 x10 && r32 x2) && true), _) = _
  rw [hG]
  try rfl

theorem B220_274 (L : Nat) (V : Mv) (b : Bool) (x1 : Int) (x2 : Int) (x3 : Int) (x4 : Int) (x5 : Int) (x6 : Int) (x8 : Int) (x9 : Int) (x10 : Int) (x11 : Int) (x12 : Int) (x14 : Int) (x16 : Int) (g0 : in32 x11) (g1 : in32 x4) : nxs 3 220 274 [some (.inr (.inr 120)), some (.inl x1), some (.inl x2), some (.inl x3), some (.inl x4), some (.inl x5), some (.inr (.inl x6)), none, some (.inl x8), some (.inl x9), some (.inl x10), some (.inl x11), some (.inr (.inl x12)), none, some (.inr (.inl x14)), none, some (.inl x16)] [.inr (.inr 120)] (M0 L V b) = some (true, cond (!decide (x11 = x4)) 297 281, [some (.inr (.inr 120)), some (.inl x1), some (.inl x2), some (.inl x3), some (.inl x4), some (.inl x5), some (.inr (.inl x6)), none, some (.inl x8), some (.inl x9), some (.inl x10), some (.inl x11), some (.inr (.inl x12)), none, some (.inr (.inl x14)), none, some (.inl x16)], [.inr (.inr 120)], M0 L V b) := by
  have f0 : (r32 x11 && r32 x4) = true := rr32_of g0 g1
  have hG : ((r32 x11 && r32 x4) && true) = true := an f0 rfl
  show some ((r32 x11 && r32 x4) && true, _) = _
  rw [hG]
  try rfl

theorem B220_281 (L : Nat) (V : Mv) (b : Bool) (x1 : Int) (x2 : Int) (x3 : Int) (x4 : Int) (x5 : Int) (x6 : Int) (x8 : Int) (x9 : Int) (x10 : Int) (x11 : Int) (x12 : Int) (x14 : Int) (x16 : Int) (g0 : in64 x14) (g1 : in64 x12) (g2 : in32 (cmpI x14 x12)) : nxs 4 220 281 [some (.inr (.inr 120)), some (.inl x1), some (.inl x2), some (.inl x3), some (.inl x4), some (.inl x5), some (.inr (.inl x6)), none, some (.inl x8), some (.inl x9), some (.inl x10), some (.inl x11), some (.inr (.inl x12)), none, some (.inr (.inl x14)), none, some (.inl x16)] [.inr (.inr 120)] (M0 L V b) = some (true, cond (decide (0 ≤ cmpI x14 x12)) 293 289, [some (.inr (.inr 120)), some (.inl x1), some (.inl x2), some (.inl x3), some (.inl x4), some (.inl x5), some (.inr (.inl x6)), none, some (.inl x8), some (.inl x9), some (.inl x10), some (.inl x11), some (.inr (.inl x12)), none, some (.inr (.inl x14)), none, some (.inl x16)], [.inr (.inr 120)], M0 L V b) := by
  have f0 : (r64 x14 && r64 x12) = true := rr64_of g0 g1
  have f1 : r32 (cmpI x14 x12) = true := r32_of g2
  have hG : ((r64 x14 && r64 x12) && (r32 (cmpI x14 x12) && true)) = true := an f0 (an f1 rfl)
  show some ((r64 x14 && r64 x12) && (r32 (cmpI x14 x12) && true), _) = _
  rw [hG]
  try rfl

theorem B220_289 (L : Nat) (V : Mv) (b : Bool) (x1 : Int) (x2 : Int) (x3 : Int) (x4 : Int) (x5 : Int) (x6 : Int) (x8 : Int) (x9 : Int) (x10 : Int) (x11 : Int) (x12 : Int) (x14 : Int) (x16 : Int)  : nxs 2 220 289 [some (.inr (.inr 120)), some (.inl x1), some (.inl x2), some (.inl x3), some (.inl x4), some (.inl x5), some (.inr (.inl x6)), none, some (.inl x8), some (.inl x9), some (.inl x10), some (.inl x11), some (.inr (.inl x12)), none, some (.inr (.inl x14)), none, some (.inl x16)] [.inr (.inr 120)] (M0 L V b) = some (true, 301, [some (.inr (.inr 120)), some (.inl x1), some (.inl x2), some (.inl x3), some (.inl x4), some (.inl x5), some (.inr (.inl x6)), none, some (.inl x8), some (.inl x9), some (.inl x10), some (.inl x11), some (.inr (.inl x12)), none, some (.inr (.inl x14)), none, some (.inl x16)], [.inl 1, .inr (.inr 120)], M0 L V b) := by
  rfl

theorem B220_293 (L : Nat) (V : Mv) (b : Bool) (x1 : Int) (x2 : Int) (x3 : Int) (x4 : Int) (x5 : Int) (x6 : Int) (x8 : Int) (x9 : Int) (x10 : Int) (x11 : Int) (x12 : Int) (x14 : Int) (x16 : Int)  : nxs 2 220 293 [some (.inr (.inr 120)), some (.inl x1), some (.inl x2), some (.inl x3), some (.inl x4), some (.inl x5), some (.inr (.inl x6)), none, some (.inl x8), some (.inl x9), some (.inl x10), some (.inl x11), some (.inr (.inl x12)), none, some (.inr (.inl x14)), none, some (.inl x16)] [.inr (.inr 120)] (M0 L V b) = some (true, 301, [some (.inr (.inr 120)), some (.inl x1), some (.inl x2), some (.inl x3), some (.inl x4), some (.inl x5), some (.inr (.inl x6)), none, some (.inl x8), some (.inl x9), some (.inl x10), some (.inl x11), some (.inr (.inl x12)), none, some (.inr (.inl x14)), none, some (.inl x16)], [.inl 0, .inr (.inr 120)], M0 L V b) := by
  rfl

theorem B220_297 (L : Nat) (V : Mv) (b : Bool) (x1 : Int) (x2 : Int) (x3 : Int) (x4 : Int) (x5 : Int) (x6 : Int) (x8 : Int) (x9 : Int) (x10 : Int) (x11 : Int) (x12 : Int) (x14 : Int) (x16 : Int)  : nxs 2 220 297 [some (.inr (.inr 120)), some (.inl x1), some (.inl x2), some (.inl x3), some (.inl x4), some (.inl x5), some (.inr (.inl x6)), none, some (.inl x8), some (.inl x9), some (.inl x10), some (.inl x11), some (.inr (.inl x12)), none, some (.inr (.inl x14)), none, some (.inl x16)] [.inr (.inr 120)] (M0 L V b) = some (true, 301, [some (.inr (.inr 120)), some (.inl x1), some (.inl x2), some (.inl x3), some (.inl x4), some (.inl x5), some (.inr (.inl x6)), none, some (.inl x8), some (.inl x9), some (.inl x10), some (.inl x11), some (.inr (.inl x12)), none, some (.inr (.inl x14)), none, some (.inl x16)], [.inl (V 120 36), .inr (.inr 120)], M0 L V b) := by
  rfl

theorem B220_301 (L : Nat) (V : Mv) (b : Bool) (x1 : Int) (x2 : Int) (x3 : Int) (x4 : Int) (x5 : Int) (x6 : Int) (x8 : Int) (x9 : Int) (x10 : Int) (x11 : Int) (x12 : Int) (x14 : Int) (x16 : Int) (s1 : Int)  : nxs 3 220 301 [some (.inr (.inr 120)), some (.inl x1), some (.inl x2), some (.inl x3), some (.inl x4), some (.inl x5), some (.inr (.inl x6)), none, some (.inl x8), some (.inl x9), some (.inl x10), some (.inl x11), some (.inr (.inl x12)), none, some (.inr (.inl x14)), none, some (.inl x16)] [.inl s1, .inr (.inr 120)] (M0 L V b) = some (true, 48, [some (.inr (.inr 120)), some (.inl x1), some (.inl x2), some (.inl x3), some (.inl x4), some (.inl x5), some (.inr (.inl x6)), none, some (.inl x8), some (.inl (x9 + 1)), some (.inl x10), some (.inl x11), some (.inr (.inl x12)), none, some (.inr (.inl x14)), none, some (.inl x16)], [], M0 L (uV V 120 36 s1) b) := by
  rfl

theorem B220_310 (L : Nat) (V : Mv) (b : Bool) (x1 : Int) (x2 : Int) (x3 : Int) (x4 : Int) (x5 : Int) (x6 : Int) (x8 : Int) (x9 : Int)  : nxs 2 220 310 [some (.inr (.inr 120)), some (.inl x1), some (.inl x2), some (.inl x3), some (.inl x4), some (.inl x5), some (.inr (.inl x6)), none, some (.inl x8), some (.inl x9), none, none, none, none, none, none, none] [] (M0 L V b) = some (true, 313, [some (.inr (.inr 120)), some (.inl x1), some (.inl x2), some (.inl x3), some (.inl x4), some (.inl x5), some (.inr (.inl x6)), none, some (.inl x8), some (.inl 0), none, none, none, none, none, none, none], [], M0 L V b) := by
  rfl

theorem B220_313 (L : Nat) (V : Mv) (b : Bool) (x1 : Int) (x2 : Int) (x3 : Int) (x4 : Int) (x5 : Int) (x6 : Int) (x8 : Int) (x9 : Int) (g0 : in32 x9) : nxs 3 220 313 [some (.inr (.inr 120)), some (.inl x1), some (.inl x2), some (.inl x3), some (.inl x4), some (.inl x5), some (.inr (.inl x6)), none, some (.inl x8), some (.inl x9), none, none, none, none, none, none, none] [] (M0 L V b) = some (true, cond (decide (64 ≤ x9)) 340 320, [some (.inr (.inr 120)), some (.inl x1), some (.inl x2), some (.inl x3), some (.inl x4), some (.inl x5), some (.inr (.inl x6)), none, some (.inl x8), some (.inl x9), none, none, none, none, none, none, none], [], M0 L V b) := by
  have f0 : (r32 x9 && r32 64) = true := rr32_of g0 (by decide)
  have hG : ((r32 x9 && r32 64) && true) = true := an f0 rfl
  show some ((r32 x9 && r32 64) && true, _) = _
  rw [hG]
  try rfl

theorem B220_320 (L : Nat) (V : Mv) (b : Bool) (x1 : Int) (x2 : Int) (x3 : Int) (x4 : Int) (x5 : Int) (x6 : Int) (x8 : Int) (x9 : Int) (g0 : 0 ≤ x9 ∧ x9 < 64) : nxs 10 220 320 [some (.inr (.inr 120)), some (.inl x1), some (.inl x2), some (.inl x3), some (.inl x4), some (.inl x5), some (.inr (.inl x6)), none, some (.inl x8), some (.inl x9), none, none, none, none, none, none, none] [] (M0 L V b) = some (true, 313, [some (.inr (.inr 120)), some (.inl x1), some (.inl x2), some (.inl x3), some (.inl x4), some (.inl x5), some (.inr (.inl x6)), none, some (.inl x8), some (.inl (x9 + 1)), none, none, none, none, none, none, none], [], M0 L (uV V 143 (x9).toNat (V 144 (x9).toNat)) b) := by
  have f0 : gX (M0 L V b) 144 2 x9 = true := gx_of rfl g0
  have f1 : (gX (M0 L V b) 143 2 x9 && !Nat.beq 143 0) = true := gs_of (gx_of rfl g0) (by decide)
  have hG : (gX (M0 L V b) 144 2 x9 && ((gX (M0 L V b) 143 2 x9 && !Nat.beq 143 0) && true)) = true := an f0 (an f1 rfl)
  show some (gX (M0 L V b) 144 2 x9 && ((gX (M0 L V b) 143 2 x9 && !Nat.beq 143 0) && true), _) = _
  rw [hG]
  try rfl

theorem B220_340 (L : Nat) (V : Mv) (b : Bool) (x1 : Int) (x2 : Int) (x3 : Int) (x4 : Int) (x5 : Int) (x6 : Int) (x8 : Int) (x9 : Int)  : nxs 2 220 340 [some (.inr (.inr 120)), some (.inl x1), some (.inl x2), some (.inl x3), some (.inl x4), some (.inl x5), some (.inr (.inl x6)), none, some (.inl x8), some (.inl x9), none, none, none, none, none, none, none] [] (M0 L V b) = some (true, 30, [some (.inr (.inr 120)), some (.inl x1), some (.inl x2), some (.inl x3), some (.inl x4), some (.inl x5), some (.inr (.inl x6)), none, some (.inl (x8 + 1)), some (.inl x9), none, none, none, none, none, none, none], [], M0 L V b) := by
  rfl

theorem B220_346 (L : Nat) (V : Mv) (b : Bool) (x1 : Int) (x2 : Int) (x3 : Int) (x4 : Int) (x5 : Int) (x6 : Int) (x8 : Int) (g0 : 0 ≤ (8 * x2) + x4 ∧ (8 * x2) + x4 < 64) : nxs 8 220 346 [some (.inr (.inr 120)), some (.inl x1), some (.inl x2), some (.inl x3), some (.inl x4), some (.inl x5), some (.inr (.inl x6)), none, some (.inl x8), none, none, none, none, none, none, none, none] [] (M0 L V b) = some (true, 358, [some (.inr (.inr 120)), some (.inl x1), some (.inl x2), some (.inl x3), some (.inl x4), some (.inl x5), some (.inr (.inl x6)), none, some (.inl x8), none, none, none, none, none, none, none, none], [.inr (.inl (V 143 ((8 * x2) + x4).toNat))], M0 L V b) := by
  have f0 : gX (M0 L V b) 143 2 ((8 * x2) + x4) = true := gx_of rfl g0
  have hG : (gX (M0 L V b) 143 2 ((8 * x2) + x4) && true) = true := an f0 rfl
  show some (gX (M0 L V b) 143 2 ((8 * x2) + x4) && true, _) = _
  rw [hG]
  try rfl

-- 221: MendedOrNewModel.whom(IIIII)I
theorem B221_0 (L : Nat) (V : Mv) (b : Bool) (x1 : Int) (x2 : Int) (x3 : Int) (x4 : Int) (x5 : Int)  : nxs 3 221 0 [some (.inr (.inr 120)), some (.inl x1), some (.inl x2), some (.inl x3), some (.inl x4), some (.inl x5)] [] (M0 L V b) = some (true, 3, [some (.inr (.inr 120)), some (.inl x1), some (.inl x2), some (.inl x3), some (.inl x4), some (.inl x5)], [.inl x2, .inl x1, .inr (.inr 120)], M0 L V b) := by
  rfl

theorem B221_6 (L : Nat) (V : Mv) (b : Bool) (x1 : Int) (x2 : Int) (x3 : Int) (x4 : Int) (x5 : Int) (s0 : Int) (g0 : in32 s0) : nxs 1 221 6 [some (.inr (.inr 120)), some (.inl x1), some (.inl x2), some (.inl x3), some (.inl x4), some (.inl x5)] [.inl s0] (M0 L V b) = some (true, cond (decide (s0 = 0)) 19 9, [some (.inr (.inr 120)), some (.inl x1), some (.inl x2), some (.inl x3), some (.inl x4), some (.inl x5)], [], M0 L V b) := by
  have f0 : r32 s0 = true := r32_of g0
  have hG : (r32 s0 && true) = true := an f0 rfl
  show some (r32 s0 && true, _) = _
  rw [hG]
  try rfl

theorem B221_9 (L : Nat) (V : Mv) (b : Bool) (x1 : Int) (x2 : Int) (x3 : Int) (x4 : Int) (x5 : Int)  : nxs 3 221 9 [some (.inr (.inr 120)), some (.inl x1), some (.inl x2), some (.inl x3), some (.inl x4), some (.inl x5)] [] (M0 L V b) = some (true, 13, [some (.inr (.inr 120)), some (.inl x1), some (.inl x2), some (.inl x3), some (.inl x4), some (.inl x5)], [.inl x4, .inl x3, .inr (.inr 120)], M0 L V b) := by
  rfl

theorem B221_16 (L : Nat) (V : Mv) (b : Bool) (x1 : Int) (x2 : Int) (x3 : Int) (x4 : Int) (x5 : Int) (s0 : Int) (g0 : in32 s0) : nxs 1 221 16 [some (.inr (.inr 120)), some (.inl x1), some (.inl x2), some (.inl x3), some (.inl x4), some (.inl x5)] [.inl s0] (M0 L V b) = some (true, cond (!decide (s0 = 0)) 21 19, [some (.inr (.inr 120)), some (.inl x1), some (.inl x2), some (.inl x3), some (.inl x4), some (.inl x5)], [], M0 L V b) := by
  have f0 : r32 s0 = true := r32_of g0
  have hG : (r32 s0 && true) = true := an f0 rfl
  show some (r32 s0 && true, _) = _
  rw [hG]
  try rfl

theorem B221_19 (L : Nat) (V : Mv) (b : Bool) (x1 : Int) (x2 : Int) (x3 : Int) (x4 : Int) (x5 : Int)  : nxs 1 221 19 [some (.inr (.inr 120)), some (.inl x1), some (.inl x2), some (.inl x3), some (.inl x4), some (.inl x5)] [] (M0 L V b) = some (true, 20, [some (.inr (.inr 120)), some (.inl x1), some (.inl x2), some (.inl x3), some (.inl x4), some (.inl x5)], [.inl (-1)], M0 L V b) := by
  rfl

theorem B221_21 (L : Nat) (V : Mv) (b : Bool) (x1 : Int) (x2 : Int) (x3 : Int) (x4 : Int) (x5 : Int) (g0 : in32 x5) : nxs 4 221 21 [some (.inr (.inr 120)), some (.inl x1), some (.inl x2), some (.inl x3), some (.inl x4), some (.inl x5)] [] (M0 L V b) = some (true, 28, [some (.inr (.inr 120)), some (.inl x1), some (.inl x2), some (.inl x3), some (.inl x4), some (.inl x5)], [.inr (.inl 6), .inr (.inl 1), .inr (.inl x5)], M0 L V b) := by
  have f0 : r32 x5 = true := r32_of g0
  have hG : (r32 x5 && true) = true := an f0 rfl
  show some (r32 x5 && true, _) = _
  rw [hG]
  try rfl

theorem B221_31 (L : Nat) (V : Mv) (b : Bool) (x1 : Int) (x2 : Int) (x3 : Int) (x4 : Int) (x5 : Int) (s0 : Int) (g0 : in32 s0) : nxs 1 221 31 [some (.inr (.inr 120)), some (.inl x1), some (.inl x2), some (.inl x3), some (.inl x4), some (.inl x5)] [.inl s0] (M0 L V b) = some (true, cond (!decide (s0 = 0)) 37 34, [some (.inr (.inr 120)), some (.inl x1), some (.inl x2), some (.inl x3), some (.inl x4), some (.inl x5)], [], M0 L V b) := by
  have f0 : r32 s0 = true := r32_of g0
  have hG : (r32 s0 && true) = true := an f0 rfl
  show some (r32 s0 && true, _) = _
  rw [hG]
  try rfl

theorem B221_34 (L : Nat) (V : Mv) (b : Bool) (x1 : Int) (x2 : Int) (x3 : Int) (x4 : Int) (x5 : Int)  : nxs 1 221 34 [some (.inr (.inr 120)), some (.inl x1), some (.inl x2), some (.inl x3), some (.inl x4), some (.inl x5)] [] (M0 L V b) = some (true, 36, [some (.inr (.inr 120)), some (.inl x1), some (.inl x2), some (.inl x3), some (.inl x4), some (.inl x5)], [.inl (-2)], M0 L V b) := by
  rfl

theorem B221_37 (L : Nat) (V : Mv) (b : Bool) (x1 : Int) (x2 : Int) (x3 : Int) (x4 : Int) (x5 : Int)  : nxs 6 221 37 [some (.inr (.inr 120)), some (.inl x1), some (.inl x2), some (.inl x3), some (.inl x4), some (.inl x5)] [] (M0 L V b) = some (true, 45, [some (.inr (.inr 120)), some (.inl x1), some (.inl x2), some (.inl x3), some (.inl x4), some (.inl x5)], [.inl x5, .inl x4, .inl x3, .inl x2, .inl x1, .inr (.inr 120)], M0 L V b) := by
  rfl

theorem B221_48 (L : Nat) (V : Mv) (b : Bool) (x1 : Int) (x2 : Int) (x3 : Int) (x4 : Int) (x5 : Int) (s0 : Int)  : nxs 3 221 48 [some (.inr (.inr 120)), some (.inl x1), some (.inl x2), some (.inl x3), some (.inl x4), some (.inl x5)] [.inr (.inl s0)] (M0 L V b) = some (true, 53, [some (.inr (.inr 120)), some (.inl x1), some (.inl x2), some (.inl x3), some (.inl x4), some (.inl x5)], [.inl (V 120 36)], M0 L V b) := by
  rfl

-- 222: MendedOrNewModel.log(I)I
theorem B222_0 (L : Nat) (V : Mv) (b : Bool) (x1 : Int) (g0 : in32 x1) : nxs 4 222 0 [some (.inr (.inr 120)), some (.inl x1)] [] (M0 L V b) = some (true, 6, [some (.inr (.inr 120)), some (.inl x1)], [.inr (.inl 5), .inr (.inl 0), .inr (.inl x1)], M0 L V b) := by
  have f0 : r32 x1 = true := r32_of g0
  have hG : (r32 x1 && true) = true := an f0 rfl
  show some (r32 x1 && true, _) = _
  rw [hG]
  try rfl

theorem B222_9 (L : Nat) (V : Mv) (b : Bool) (x1 : Int) (s0 : Int) (g0 : in32 s0) : nxs 1 222 9 [some (.inr (.inr 120)), some (.inl x1)] [.inl s0] (M0 L V b) = some (true, cond (!decide (s0 = 0)) 15 12, [some (.inr (.inr 120)), some (.inl x1)], [], M0 L V b) := by
  have f0 : r32 s0 = true := r32_of g0
  have hG : (r32 s0 && true) = true := an f0 rfl
  show some (r32 s0 && true, _) = _
  rw [hG]
  try rfl

theorem B222_12 (L : Nat) (V : Mv) (b : Bool) (x1 : Int)  : nxs 1 222 12 [some (.inr (.inr 120)), some (.inl x1)] [] (M0 L V b) = some (true, 14, [some (.inr (.inr 120)), some (.inl x1)], [.inl (-2)], M0 L V b) := by
  rfl

theorem B222_15 (L : Nat) (V : Mv) (b : Bool) (x1 : Int) (g0 : in32 (V 120 37)) : nxs 4 222 15 [some (.inr (.inr 120)), some (.inl x1)] [] (M0 L V b) = some (true, cond (!decide (V 120 37 = 16)) 27 24, [some (.inr (.inr 120)), some (.inl x1)], [], M0 L V b) := by
  have f0 : (r32 (V 120 37) && r32 16) = true := rr32_of g0 (by decide)
  have hG : ((r32 (V 120 37) && r32 16) && true) = true := an f0 rfl
  show some ((r32 (V 120 37) && r32 16) && true, _) = _
  rw [hG]
  try rfl

theorem B222_24 (L : Nat) (V : Mv) (b : Bool) (x1 : Int)  : nxs 1 222 24 [some (.inr (.inr 120)), some (.inl x1)] [] (M0 L V b) = some (true, 26, [some (.inr (.inr 120)), some (.inl x1)], [.inl (-4)], M0 L V b) := by
  rfl

theorem B222_27 (L : Nat) (V : Mv) (b : Bool) (x1 : Int) (g0 : 0 ≤ V 120 37 ∧ V 120 37 < 16) : nxs 14 222 27 [some (.inr (.inr 120)), some (.inl x1)] [] (M0 L V b) = some (true, 51, [some (.inr (.inr 120)), some (.inl x1)], [.inl ((uV (uV V 145 (V 120 37).toNat x1) 120 37 (((uV V 145 (V 120 37).toNat x1) 120 37) + 1)) 120 37)], M0 L (uV (uV V 145 (V 120 37).toNat x1) 120 37 (((uV V 145 (V 120 37).toNat x1) 120 37) + 1)) b) := by
  have f0 : (gX (M0 L V b) 145 1 (V 120 37) && !Nat.beq 145 0) = true := gs_of (gx_of rfl g0) (by decide)
  have hG : ((gX (M0 L V b) 145 1 (V 120 37) && !Nat.beq 145 0) && true) = true := an f0 rfl
  show some ((gX (M0 L V b) 145 1 (V 120 37) && !Nat.beq 145 0) && true, _) = _
  rw [hG]
  try rfl

-- 223: MendedOrNewModel.unlog()I
theorem B223_0 (L : Nat) (V : Mv) (b : Bool)   : nxs 7 223 0 [some (.inr (.inr 120)), none] [] (M0 L V b) = some (true, 11, [some (.inr (.inr 120)), some (.inl (V 120 37))], [.inl (V 120 37)], M0 L (uV V 120 37 0) b) := by
  rfl

-- 224: MendedOrNewModel.read(I)I
theorem B224_0 (L : Nat) (V : Mv) (b : Bool) (x1 : Int)  : nxs 1 224 0 [some (.inr (.inr 120)), some (.inl x1), none, none] [] (M0 L V b) = some (true, 1, [some (.inr (.inr 120)), some (.inl x1), none, none], [.inl x1], M0 L V b) := by
  rfl

theorem B224_4 (L : Nat) (V : Mv) (b : Bool) (x1 : Int) (s0 : Int) (g0 : in32 s0) : nxs 1 224 4 [some (.inr (.inr 120)), some (.inl x1), none, none] [.inl s0] (M0 L V b) = some (true, cond (!decide (s0 = 0)) 9 7, [some (.inr (.inr 120)), some (.inl x1), none, none], [], M0 L V b) := by
  have f0 : r32 s0 = true := r32_of g0
  have hG : (r32 s0 && true) = true := an f0 rfl
  show some (r32 s0 && true, _) = _
  rw [hG]
  try rfl

theorem B224_7 (L : Nat) (V : Mv) (b : Bool) (x1 : Int)  : nxs 1 224 7 [some (.inr (.inr 120)), some (.inl x1), none, none] [] (M0 L V b) = some (true, 8, [some (.inr (.inr 120)), some (.inl x1), none, none], [.inl (-1)], M0 L V b) := by
  rfl

theorem B224_9 (L : Nat) (V : Mv) (b : Bool) (x1 : Int)  : nxs 2 224 9 [some (.inr (.inr 120)), some (.inl x1), none, none] [] (M0 L V b) = some (true, 11, [some (.inr (.inr 120)), some (.inl x1), none, none], [.inl 0, .inr (.inr 120)], M0 L V b) := by
  rfl

theorem B224_14 (L : Nat) (V : Mv) (b : Bool) (x1 : Int)  : nxs 2 224 14 [some (.inr (.inr 120)), some (.inl x1), none, none] [] (M0 L V b) = some (true, 16, [some (.inr (.inr 120)), some (.inl x1), some (.inl 0), none], [], M0 L V b) := by
  rfl

theorem B224_16 (L : Nat) (V : Mv) (b : Bool) (x1 : Int) (x2 : Int) (g0 : in32 x2) (g1 : in32 (V 120 37)) : nxs 4 224 16 [some (.inr (.inr 120)), some (.inl x1), some (.inl x2), none] [] (M0 L V b) = some (true, cond (decide (V 120 37 ≤ x2)) 43 24, [some (.inr (.inr 120)), some (.inl x1), some (.inl x2), none], [], M0 L V b) := by
  have f0 : (r32 x2 && r32 (V 120 37)) = true := rr32_of g0 g1
  have hG : ((r32 x2 && r32 (V 120 37)) && true) = true := an f0 rfl
  show some ((r32 x2 && r32 (V 120 37)) && true, _) = _
  rw [hG]
  try rfl

theorem B224_24 (L : Nat) (V : Mv) (b : Bool) (x1 : Int) (x2 : Int)  : nxs 3 224 24 [some (.inr (.inr 120)), some (.inl x1), some (.inl x2), none] [] (M0 L V b) = some (true, 27, [some (.inr (.inr 120)), some (.inl x1), some (.inl x2), none], [.inl x2, .inl x1, .inr (.inr 120)], M0 L V b) := by
  rfl

theorem B224_30 (L : Nat) (V : Mv) (b : Bool) (x1 : Int) (x2 : Int) (s0 : Int) (g0 : in32 s0) : nxs 3 224 30 [some (.inr (.inr 120)), some (.inl x1), some (.inl x2), none] [.inl s0] (M0 L V b) = some (true, cond (decide (0 ≤ s0)) 37 35, [some (.inr (.inr 120)), some (.inl x1), some (.inl x2), some (.inl s0)], [], M0 L V b) := by
  have f0 : r32 s0 = true := r32_of g0
  have hG : (r32 s0 && true) = true := an f0 rfl
  show some (r32 s0 && true, _) = _
  rw [hG]
  try rfl

theorem B224_35 (L : Nat) (V : Mv) (b : Bool) (x1 : Int) (x2 : Int) (x3 : Int)  : nxs 1 224 35 [some (.inr (.inr 120)), some (.inl x1), some (.inl x2), some (.inl x3)] [] (M0 L V b) = some (true, 36, [some (.inr (.inr 120)), some (.inl x1), some (.inl x2), some (.inl x3)], [.inl x3], M0 L V b) := by
  rfl

theorem B224_37 (L : Nat) (V : Mv) (b : Bool) (x1 : Int) (x2 : Int) (x3 : Int)  : nxs 2 224 37 [some (.inr (.inr 120)), some (.inl x1), some (.inl x2), some (.inl x3)] [] (M0 L V b) = some (true, 16, [some (.inr (.inr 120)), some (.inl x1), some (.inl (x2 + 1)), some (.inl x3)], [], M0 L V b) := by
  rfl

theorem B224_43 (L : Nat) (V : Mv) (b : Bool) (x1 : Int) (x2 : Int)  : nxs 2 224 43 [some (.inr (.inr 120)), some (.inl x1), some (.inl x2), none] [] (M0 L V b) = some (true, 45, [some (.inr (.inr 120)), some (.inl x1), some (.inl x2), none], [.inl x1, .inr (.inr 120)], M0 L V b) := by
  rfl

theorem B224_48 (L : Nat) (V : Mv) (b : Bool) (x1 : Int) (x2 : Int)  : nxs 2 224 48 [some (.inr (.inr 120)), some (.inl x1), some (.inl x2), none] [] (M0 L V b) = some (true, 52, [some (.inr (.inr 120)), some (.inl x1), some (.inl x2), none], [.inl (V 120 37)], M0 L V b) := by
  rfl

-- 225: MendedOrNewModel.tryRow(II)I
theorem B225_0 (L : Nat) (V : Mv) (b : Bool) (x1 : Int) (x2 : Int) (g0 : 0 ≤ x2 ∧ x2 < 16) (g1 : in32 (V 145 (x2).toNat)) : nxs 6 225 0 [some (.inr (.inr 120)), some (.inl x1), some (.inl x2), none] [] (M0 L V b) = some (true, cond (decide (V 145 (x2).toNat ≤ 1)) 28 10, [some (.inr (.inr 120)), some (.inl x1), some (.inl x2), none], [], M0 L V b) := by
  have f0 : gX (M0 L V b) 145 1 x2 = true := gx_of rfl g0
  have f1 : (r32 (V 145 (x2).toNat) && r32 1) = true := rr32_of g1 (by decide)
  have hG : (gX (M0 L V b) 145 1 x2 && ((r32 (V 145 (x2).toNat) && r32 1) && true)) = true := an f0 (an f1 rfl)
  show some (gX (M0 L V b) 145 1 x2 && ((r32 (V 145 (x2).toNat) && r32 1) && true), _) = _
  rw [hG]
  try rfl

theorem B225_10 (L : Nat) (V : Mv) (b : Bool) (x1 : Int) (x2 : Int) (g0 : 0 ≤ x2 ∧ x2 < 16) : nxs 8 225 10 [some (.inr (.inr 120)), some (.inl x1), some (.inl x2), none] [] (M0 L V b) = some (true, 20, [some (.inr (.inr 120)), some (.inl x1), some (.inl x2), none], [.inl ((V 145 (x2).toNat) - 2), .inl x1, .inr (.inr 120)], M0 L V b) := by
  have f0 : gX (M0 L V b) 145 1 x2 = true := gx_of rfl g0
  have hG : (gX (M0 L V b) 145 1 x2 && true) = true := an f0 rfl
  show some (gX (M0 L V b) 145 1 x2 && true, _) = _
  rw [hG]
  try rfl

theorem B225_23 (L : Nat) (V : Mv) (b : Bool) (x1 : Int) (x2 : Int) (s0 : Int) (g0 : in32 s0) : nxs 1 225 23 [some (.inr (.inr 120)), some (.inl x1), some (.inl x2), none] [.inl s0] (M0 L V b) = some (true, cond (!decide (s0 = 0)) 28 26, [some (.inr (.inr 120)), some (.inl x1), some (.inl x2), none], [], M0 L V b) := by
  have f0 : r32 s0 = true := r32_of g0
  have hG : (r32 s0 && true) = true := an f0 rfl
  show some (r32 s0 && true, _) = _
  rw [hG]
  try rfl

theorem B225_26 (L : Nat) (V : Mv) (b : Bool) (x1 : Int) (x2 : Int)  : nxs 1 225 26 [some (.inr (.inr 120)), some (.inl x1), some (.inl x2), none] [] (M0 L V b) = some (true, 27, [some (.inr (.inr 120)), some (.inl x1), some (.inl x2), none], [.inl (-1)], M0 L V b) := by
  rfl

theorem B225_28 (L : Nat) (V : Mv) (b : Bool) (x1 : Int) (x2 : Int) (g0 : 0 ≤ x2 ∧ x2 < 16) (g1 : in32 (V 145 (x2).toNat)) : nxs 6 225 28 [some (.inr (.inr 120)), some (.inl x1), some (.inl x2), none] [] (M0 L V b) = some (true, cond (decide (V 145 (x2).toNat ≤ 1)) 61 38, [some (.inr (.inr 120)), some (.inl x1), some (.inl x2), none], [], M0 L V b) := by
  have f0 : gX (M0 L V b) 145 1 x2 = true := gx_of rfl g0
  have f1 : (r32 (V 145 (x2).toNat) && r32 1) = true := rr32_of g1 (by decide)
  have hG : (gX (M0 L V b) 145 1 x2 && ((r32 (V 145 (x2).toNat) && r32 1) && true)) = true := an f0 (an f1 rfl)
  show some (gX (M0 L V b) 145 1 x2 && ((r32 (V 145 (x2).toNat) && r32 1) && true), _) = _
  rw [hG]
  try rfl

theorem B225_38 (L : Nat) (V : Mv) (b : Bool) (x1 : Int) (x2 : Int) (g0 : 0 ≤ x2 ∧ x2 < 16) (g1 : 0 ≤ ((4 * x1) + (V 145 (x2).toNat)) - 2 ∧ ((4 * x1) + (V 145 (x2).toNat)) - 2 < 16) : nxs 14 225 38 [some (.inr (.inr 120)), some (.inl x1), some (.inl x2), none] [] (M0 L V b) = some (true, 56, [some (.inr (.inr 120)), some (.inl x1), some (.inl x2), none], [.inl (V 126 (((4 * x1) + (V 145 (x2).toNat)) - 2).toNat), .inr (.inr 120)], M0 L V b) := by
  have f0 : gX (M0 L V b) 145 1 x2 = true := gx_of rfl g0
  have f1 : gX (M0 L V b) 126 1 (((4 * x1) + (V 145 (x2).toNat)) - 2) = true := gx_of rfl g1
  have hG : (gX (M0 L V b) 145 1 x2 && (gX (M0 L V b) 126 1 (((4 * x1) + (V 145 (x2).toNat)) - 2) && true)) = true := an f0 (an f1 rfl)
  show some (gX (M0 L V b) 145 1 x2 && (gX (M0 L V b) 126 1 (((4 * x1) + (V 145 (x2).toNat)) - 2) && true), _) = _
  rw [hG]
  try rfl

theorem B225_59 (L : Nat) (V : Mv) (b : Bool) (x1 : Int) (x2 : Int)  : nxs 1 225 59 [some (.inr (.inr 120)), some (.inl x1), some (.inl x2), none] [] (M0 L V b) = some (true, 60, [some (.inr (.inr 120)), some (.inl x1), some (.inl x2), none], [.inl 1], M0 L V b) := by
  rfl

theorem B225_61 (L : Nat) (V : Mv) (b : Bool) (x1 : Int) (x2 : Int)  : nxs 2 225 61 [some (.inr (.inr 120)), some (.inl x1), some (.inl x2), none] [] (M0 L V b) = some (true, 63, [some (.inr (.inr 120)), some (.inl x1), some (.inl x2), none], [.inl x1, .inr (.inr 120)], M0 L V b) := by
  rfl

theorem B225_66 (L : Nat) (V : Mv) (b : Bool) (x1 : Int) (x2 : Int) (s0 : Int) (g0 : in32 s0) : nxs 4 225 66 [some (.inr (.inr 120)), some (.inl x1), some (.inl x2), none] [.inl s0] (M0 L V b) = some (true, cond (!decide (s0 = 1)) 95 72, [some (.inr (.inr 120)), some (.inl x1), some (.inl x2), some (.inl s0)], [], M0 L V b) := by
  have f0 : (r32 s0 && r32 1) = true := rr32_of g0 (by decide)
  have hG : ((r32 s0 && r32 1) && true) = true := an f0 rfl
  show some ((r32 s0 && r32 1) && true, _) = _
  rw [hG]
  try rfl

theorem B225_72 (L : Nat) (V : Mv) (b : Bool) (x1 : Int) (x2 : Int) (x3 : Int) (g0 : 0 ≤ x2 ∧ x2 < 16) (g1 : in32 (V 145 (x2).toNat)) : nxs 8 225 72 [some (.inr (.inr 120)), some (.inl x1), some (.inl x2), some (.inl x3)] [] (M0 L V b) = some (true, cond (!decide (V 145 (x2).toNat = 1)) 88 84, [some (.inr (.inr 120)), some (.inl x1), some (.inl x2), some (.inl x3)], [.inl x1, .inr (.inr 120)], M0 L V b) := by
  have f0 : gX (M0 L V b) 145 1 x2 = true := gx_of rfl g0
  have f1 : (r32 (V 145 (x2).toNat) && r32 1) = true := rr32_of g1 (by decide)
  have hG : (gX (M0 L V b) 145 1 x2 && ((r32 (V 145 (x2).toNat) && r32 1) && true)) = true := an f0 (an f1 rfl)
  show some (gX (M0 L V b) 145 1 x2 && ((r32 (V 145 (x2).toNat) && r32 1) && true), _) = _
  rw [hG]
  try rfl

theorem B225_84 (L : Nat) (V : Mv) (b : Bool) (x1 : Int) (x2 : Int) (x3 : Int) (s1 : Int)  : nxs 2 225 84 [some (.inr (.inr 120)), some (.inl x1), some (.inl x2), some (.inl x3)] [.inl s1, .inr (.inr 120)] (M0 L V b) = some (true, 89, [some (.inr (.inr 120)), some (.inl x1), some (.inl x2), some (.inl x3)], [.inl 1, .inl s1, .inr (.inr 120)], M0 L V b) := by
  rfl

theorem B225_88 (L : Nat) (V : Mv) (b : Bool) (x1 : Int) (x2 : Int) (x3 : Int) (s1 : Int)  : nxs 1 225 88 [some (.inr (.inr 120)), some (.inl x1), some (.inl x2), some (.inl x3)] [.inl s1, .inr (.inr 120)] (M0 L V b) = some (true, 89, [some (.inr (.inr 120)), some (.inl x1), some (.inl x2), some (.inl x3)], [.inl 0, .inl s1, .inr (.inr 120)], M0 L V b) := by
  rfl

theorem B225_92 (L : Nat) (V : Mv) (b : Bool) (x1 : Int) (x2 : Int) (x3 : Int) (s0 : Int)  : nxs 1 225 92 [some (.inr (.inr 120)), some (.inl x1), some (.inl x2), some (.inl x3)] [.inl s0] (M0 L V b) = some (true, 96, [some (.inr (.inr 120)), some (.inl x1), some (.inl x2), some (.inl x3)], [.inl s0], M0 L V b) := by
  rfl

theorem B225_95 (L : Nat) (V : Mv) (b : Bool) (x1 : Int) (x2 : Int) (x3 : Int)  : nxs 1 225 95 [some (.inr (.inr 120)), some (.inl x1), some (.inl x2), some (.inl x3)] [] (M0 L V b) = some (true, 96, [some (.inr (.inr 120)), some (.inl x1), some (.inl x2), some (.inl x3)], [.inl x3], M0 L V b) := by
  rfl

-- 226: MendedOrNewModel.late(III)I
theorem B226_0 (L : Nat) (V : Mv) (b : Bool) (x1 : Int) (x2 : Int) (x3 : Int)  : nxs 1 226 0 [some (.inr (.inr 120)), some (.inl x1), some (.inl x2), some (.inl x3), none, none, none, none, none, none, none] [] (M0 L V b) = some (true, 1, [some (.inr (.inr 120)), some (.inl x1), some (.inl x2), some (.inl x3), none, none, none, none, none, none, none], [.inl x1], M0 L V b) := by
  rfl

theorem B226_4 (L : Nat) (V : Mv) (b : Bool) (x1 : Int) (x2 : Int) (x3 : Int) (s0 : Int) (g0 : in32 s0) : nxs 1 226 4 [some (.inr (.inr 120)), some (.inl x1), some (.inl x2), some (.inl x3), none, none, none, none, none, none, none] [.inl s0] (M0 L V b) = some (true, cond (!decide (s0 = 0)) 9 7, [some (.inr (.inr 120)), some (.inl x1), some (.inl x2), some (.inl x3), none, none, none, none, none, none, none], [], M0 L V b) := by
  have f0 : r32 s0 = true := r32_of g0
  have hG : (r32 s0 && true) = true := an f0 rfl
  show some (r32 s0 && true, _) = _
  rw [hG]
  try rfl

theorem B226_7 (L : Nat) (V : Mv) (b : Bool) (x1 : Int) (x2 : Int) (x3 : Int)  : nxs 1 226 7 [some (.inr (.inr 120)), some (.inl x1), some (.inl x2), some (.inl x3), none, none, none, none, none, none, none] [] (M0 L V b) = some (true, 8, [some (.inr (.inr 120)), some (.inl x1), some (.inl x2), some (.inl x3), none, none, none, none, none, none, none], [.inl (-1)], M0 L V b) := by
  rfl

theorem B226_9 (L : Nat) (V : Mv) (b : Bool) (x1 : Int) (x2 : Int) (x3 : Int) (g0 : in32 x2) : nxs 4 226 9 [some (.inr (.inr 120)), some (.inl x1), some (.inl x2), some (.inl x3), none, none, none, none, none, none, none] [] (M0 L V b) = some (true, 15, [some (.inr (.inr 120)), some (.inl x1), some (.inl x2), some (.inl x3), none, none, none, none, none, none, none], [.inr (.inl 7), .inr (.inl 0), .inr (.inl x2)], M0 L V b) := by
  have f0 : r32 x2 = true := r32_of g0
  have hG : (r32 x2 && true) = true := an f0 rfl
  show some (r32 x2 && true, _) = _
  rw [hG]
  try rfl

theorem B226_18 (L : Nat) (V : Mv) (b : Bool) (x1 : Int) (x2 : Int) (x3 : Int) (s0 : Int) (g0 : in32 s0) : nxs 1 226 18 [some (.inr (.inr 120)), some (.inl x1), some (.inl x2), some (.inl x3), none, none, none, none, none, none, none] [.inl s0] (M0 L V b) = some (true, cond (decide (s0 = 0)) 33 21, [some (.inr (.inr 120)), some (.inl x1), some (.inl x2), some (.inl x3), none, none, none, none, none, none, none], [], M0 L V b) := by
  have f0 : r32 s0 = true := r32_of g0
  have hG : (r32 s0 && true) = true := an f0 rfl
  show some (r32 s0 && true, _) = _
  rw [hG]
  try rfl

theorem B226_21 (L : Nat) (V : Mv) (b : Bool) (x1 : Int) (x2 : Int) (x3 : Int) (g0 : in32 x3) : nxs 4 226 21 [some (.inr (.inr 120)), some (.inl x1), some (.inl x2), some (.inl x3), none, none, none, none, none, none, none] [] (M0 L V b) = some (true, 27, [some (.inr (.inr 120)), some (.inl x1), some (.inl x2), some (.inl x3), none, none, none, none, none, none, none], [.inr (.inl 100), .inr (.inl 1), .inr (.inl x3)], M0 L V b) := by
  have f0 : r32 x3 = true := r32_of g0
  have hG : (r32 x3 && true) = true := an f0 rfl
  show some (r32 x3 && true, _) = _
  rw [hG]
  try rfl

theorem B226_30 (L : Nat) (V : Mv) (b : Bool) (x1 : Int) (x2 : Int) (x3 : Int) (s0 : Int) (g0 : in32 s0) : nxs 1 226 30 [some (.inr (.inr 120)), some (.inl x1), some (.inl x2), some (.inl x3), none, none, none, none, none, none, none] [.inl s0] (M0 L V b) = some (true, cond (!decide (s0 = 0)) 36 33, [some (.inr (.inr 120)), some (.inl x1), some (.inl x2), some (.inl x3), none, none, none, none, none, none, none], [], M0 L V b) := by
  have f0 : r32 s0 = true := r32_of g0
  have hG : (r32 s0 && true) = true := an f0 rfl
  show some (r32 s0 && true, _) = _
  rw [hG]
  try rfl

theorem B226_33 (L : Nat) (V : Mv) (b : Bool) (x1 : Int) (x2 : Int) (x3 : Int)  : nxs 1 226 33 [some (.inr (.inr 120)), some (.inl x1), some (.inl x2), some (.inl x3), none, none, none, none, none, none, none] [] (M0 L V b) = some (true, 35, [some (.inr (.inr 120)), some (.inl x1), some (.inl x2), some (.inl x3), none, none, none, none, none, none, none], [.inl (-2)], M0 L V b) := by
  rfl

theorem B226_36 (L : Nat) (V : Mv) (b : Bool) (x1 : Int) (x2 : Int) (x3 : Int)  : nxs 2 226 36 [some (.inr (.inr 120)), some (.inl x1), some (.inl x2), some (.inl x3), none, none, none, none, none, none, none] [] (M0 L V b) = some (true, 38, [some (.inr (.inr 120)), some (.inl x1), some (.inl x2), some (.inl x3), none, none, none, none, none, none, none], [.inl 0, .inr (.inr 120)], M0 L V b) := by
  rfl

theorem B226_41 (L : Nat) (V : Mv) (b : Bool) (x1 : Int) (x2 : Int) (x3 : Int)  : nxs 2 226 41 [some (.inr (.inr 120)), some (.inl x1), some (.inl x2), some (.inl x3), none, none, none, none, none, none, none] [] (M0 L V b) = some (true, 44, [some (.inr (.inr 120)), some (.inl x1), some (.inl x2), some (.inl x3), some (.inl 0), none, none, none, none, none, none], [], M0 L V b) := by
  rfl

theorem B226_44 (L : Nat) (V : Mv) (b : Bool) (x1 : Int) (x2 : Int) (x3 : Int) (x4 : Int) (g0 : in32 x4) (g1 : in32 (V 120 37)) : nxs 4 226 44 [some (.inr (.inr 120)), some (.inl x1), some (.inl x2), some (.inl x3), some (.inl x4), none, none, none, none, none, none] [] (M0 L V b) = some (true, cond (decide (V 120 37 ≤ x4)) 150 53, [some (.inr (.inr 120)), some (.inl x1), some (.inl x2), some (.inl x3), some (.inl x4), none, none, none, none, none, none], [], M0 L V b) := by
  have f0 : (r32 x4 && r32 (V 120 37)) = true := rr32_of g0 g1
  have hG : ((r32 x4 && r32 (V 120 37)) && true) = true := an f0 rfl
  show some ((r32 x4 && r32 (V 120 37)) && true, _) = _
  rw [hG]
  try rfl

theorem B226_53 (L : Nat) (V : Mv) (b : Bool) (x1 : Int) (x2 : Int) (x3 : Int) (x4 : Int)  : nxs 3 226 53 [some (.inr (.inr 120)), some (.inl x1), some (.inl x2), some (.inl x3), some (.inl x4), none, none, none, none, none, none] [] (M0 L V b) = some (true, 57, [some (.inr (.inr 120)), some (.inl x1), some (.inl x2), some (.inl x3), some (.inl x4), none, none, none, none, none, none], [.inl x4, .inl x1, .inr (.inr 120)], M0 L V b) := by
  rfl

theorem B226_60 (L : Nat) (V : Mv) (b : Bool) (x1 : Int) (x2 : Int) (x3 : Int) (x4 : Int) (s0 : Int) (g0 : in32 s0) : nxs 3 226 60 [some (.inr (.inr 120)), some (.inl x1), some (.inl x2), some (.inl x3), some (.inl x4), none, none, none, none, none, none] [.inl s0] (M0 L V b) = some (true, cond (decide (0 ≤ s0)) 70 67, [some (.inr (.inr 120)), some (.inl x1), some (.inl x2), some (.inl x3), some (.inl x4), some (.inl s0), none, none, none, none, none], [], M0 L V b) := by
  have f0 : r32 s0 = true := r32_of g0
  have hG : (r32 s0 && true) = true := an f0 rfl
  show some (r32 s0 && true, _) = _
  rw [hG]
  try rfl

theorem B226_67 (L : Nat) (V : Mv) (b : Bool) (x1 : Int) (x2 : Int) (x3 : Int) (x4 : Int) (x5 : Int)  : nxs 1 226 67 [some (.inr (.inr 120)), some (.inl x1), some (.inl x2), some (.inl x3), some (.inl x4), some (.inl x5), none, none, none, none, none] [] (M0 L V b) = some (true, 69, [some (.inr (.inr 120)), some (.inl x1), some (.inl x2), some (.inl x3), some (.inl x4), some (.inl x5), none, none, none, none, none], [.inl x5], M0 L V b) := by
  rfl

theorem B226_70 (L : Nat) (V : Mv) (b : Bool) (x1 : Int) (x2 : Int) (x3 : Int) (x4 : Int) (x5 : Int)  : nxs 6 226 70 [some (.inr (.inr 120)), some (.inl x1), some (.inl x2), some (.inl x3), some (.inl x4), some (.inl x5), none, none, none, none, none] [] (M0 L V b) = some (true, 79, [some (.inr (.inr 120)), some (.inl x1), some (.inl x2), some (.inl x3), some (.inl x4), some (.inl x5), some (.inr (.inl 0)), none, some (.inr (.inl 0)), none, some (.inl 0)], [], M0 L V b) := by
  rfl

theorem B226_79 (L : Nat) (V : Mv) (b : Bool) (x1 : Int) (x2 : Int) (x3 : Int) (x4 : Int) (x5 : Int) (x6 : Int) (x8 : Int) (x10 : Int) (g0 : in32 x10) : nxs 3 226 79 [some (.inr (.inr 120)), some (.inl x1), some (.inl x2), some (.inl x3), some (.inl x4), some (.inl x5), some (.inr (.inl x6)), none, some (.inr (.inl x8)), none, some (.inl x10)] [] (M0 L V b) = some (true, cond (decide (8 ≤ x10)) 126 86, [some (.inr (.inr 120)), some (.inl x1), some (.inl x2), some (.inl x3), some (.inl x4), some (.inl x5), some (.inr (.inl x6)), none, some (.inr (.inl x8)), none, some (.inl x10)], [], M0 L V b) := by
  have f0 : (r32 x10 && r32 8) = true := rr32_of g0 (by decide)
  have hG : ((r32 x10 && r32 8) && true) = true := an f0 rfl
  show some ((r32 x10 && r32 8) && true, _) = _
  rw [hG]
  try rfl

theorem B226_86 (L : Nat) (V : Mv) (b : Bool) (x1 : Int) (x2 : Int) (x3 : Int) (x4 : Int) (x5 : Int) (x6 : Int) (x8 : Int) (x10 : Int) (g0 : 0 ≤ x10 ∧ x10 < 8) (g1 : in32 x10) (g2 : in32 x2) : nxs 11 226 86 [some (.inr (.inr 120)), some (.inl x1), some (.inl x2), some (.inl x3), some (.inl x4), some (.inl x5), some (.inr (.inl x6)), none, some (.inr (.inl x8)), none, some (.inl x10)] [] (M0 L V b) = some (true, cond (decide (x10 < x2)) 116 106, [some (.inr (.inr 120)), some (.inl x1), some (.inl x2), some (.inl x3), some (.inl x4), some (.inl x5), some (.inr (.inl (x6 + (V 131 (x10).toNat)))), none, some (.inr (.inl x8)), none, some (.inl x10)], [.inr (.inl x8)], M0 L V b) := by
  have f0 : gX (M0 L V b) 131 2 x10 = true := gx_of rfl g0
  have f1 : (r32 x10 && r32 x2) = true := rr32_of g1 g2
  have hG : (gX (M0 L V b) 131 2 x10 && ((r32 x10 && r32 x2) && true)) = true := an f0 (an f1 rfl)
  show some (gX (M0 L V b) 131 2 x10 && ((r32 x10 && r32 x2) && true), _) = _
  rw [hG]
  try rfl

theorem B226_106 (L : Nat) (V : Mv) (b : Bool) (x1 : Int) (x2 : Int) (x3 : Int) (x4 : Int) (x5 : Int) (x6 : Int) (x8 : Int) (x10 : Int) (s0 : Int) (g0 : 0 ≤ x10 ∧ x10 < 8) : nxs 5 226 106 [some (.inr (.inr 120)), some (.inl x1), some (.inl x2), some (.inl x3), some (.inl x4), some (.inl x5), some (.inr (.inl x6)), none, some (.inr (.inl x8)), none, some (.inl x10)] [.inr (.inl s0)] (M0 L V b) = some (true, 117, [some (.inr (.inr 120)), some (.inl x1), some (.inl x2), some (.inl x3), some (.inl x4), some (.inl x5), some (.inr (.inl x6)), none, some (.inr (.inl x8)), none, some (.inl x10)], [.inr (.inl (V 131 (x10).toNat)), .inr (.inl s0)], M0 L V b) := by
  have f0 : gX (M0 L V b) 131 2 x10 = true := gx_of rfl g0
  have hG : (gX (M0 L V b) 131 2 x10 && true) = true := an f0 rfl
  show some (gX (M0 L V b) 131 2 x10 && true, _) = _
  rw [hG]
  try rfl

theorem B226_116 (L : Nat) (V : Mv) (b : Bool) (x1 : Int) (x2 : Int) (x3 : Int) (x4 : Int) (x5 : Int) (x6 : Int) (x8 : Int) (x10 : Int) (s0 : Int)  : nxs 1 226 116 [some (.inr (.inr 120)), some (.inl x1), some (.inl x2), some (.inl x3), some (.inl x4), some (.inl x5), some (.inr (.inl x6)), none, some (.inr (.inl x8)), none, some (.inl x10)] [.inr (.inl s0)] (M0 L V b) = some (true, 117, [some (.inr (.inr 120)), some (.inl x1), some (.inl x2), some (.inl x3), some (.inl x4), some (.inl x5), some (.inr (.inl x6)), none, some (.inr (.inl x8)), none, some (.inl x10)], [.inr (.inl 0), .inr (.inl s0)], M0 L V b) := by
  rfl

theorem B226_117 (L : Nat) (V : Mv) (b : Bool) (x1 : Int) (x2 : Int) (x3 : Int) (x4 : Int) (x5 : Int) (x6 : Int) (x8 : Int) (x10 : Int) (s0 : Int) (s1 : Int)  : nxs 4 226 117 [some (.inr (.inr 120)), some (.inl x1), some (.inl x2), some (.inl x3), some (.inl x4), some (.inl x5), some (.inr (.inl x6)), none, some (.inr (.inl x8)), none, some (.inl x10)] [.inr (.inl s1), .inr (.inl s0)] (M0 L V b) = some (true, 79, [some (.inr (.inr 120)), some (.inl x1), some (.inl x2), some (.inl x3), some (.inl x4), some (.inl x5), some (.inr (.inl x6)), none, some (.inr (.inl (s0 + s1))), none, some (.inl (x10 + 1))], [], M0 L V b) := by
  rfl

theorem B226_126 (L : Nat) (V : Mv) (b : Bool) (x1 : Int) (x2 : Int) (x3 : Int) (x4 : Int) (x5 : Int) (x6 : Int) (x8 : Int) (x10 : Int) (g0 : in32 x3) (g1 : in64 (100 * x8)) (g2 : in64 (x3 * x6)) (g3 : in32 (cmpI (100 * x8) (x3 * x6))) : nxs 9 226 126 [some (.inr (.inr 120)), some (.inl x1), some (.inl x2), some (.inl x3), some (.inl x4), some (.inl x5), some (.inr (.inl x6)), none, some (.inr (.inl x8)), none, some (.inl x10)] [] (M0 L V b) = some (true, cond (decide (cmpI (100 * x8) (x3 * x6) < 0)) 144 141, [some (.inr (.inr 120)), some (.inl x1), some (.inl x2), some (.inl x3), some (.inl x4), some (.inl x5), some (.inr (.inl x6)), none, some (.inr (.inl x8)), none, some (.inl x10)], [], M0 L V b) := by
  have f0 : r32 x3 = true := r32_of g0
  have f1 : (r64 (100 * x8) && r64 (x3 * x6)) = true := rr64_of g1 g2
  have f2 : r32 (cmpI (100 * x8) (x3 * x6)) = true := r32_of g3
  have hG : (r32 x3 && ((r64 (100 * x8) && r64 (x3 * x6)) && (r32 (cmpI (100 * x8) (x3 * x6)) && true))) = true := an f0 (an f1 (an f2 rfl))
  show some (r32 x3 && ((r64 (100 * x8) && r64 (x3 * x6)) && (r32 (cmpI (100 * x8) (x3 * x6)) && true)), _) = _
  rw [hG]
  try rfl

theorem B226_141 (L : Nat) (V : Mv) (b : Bool) (x1 : Int) (x2 : Int) (x3 : Int) (x4 : Int) (x5 : Int) (x6 : Int) (x8 : Int) (x10 : Int)  : nxs 1 226 141 [some (.inr (.inr 120)), some (.inl x1), some (.inl x2), some (.inl x3), some (.inl x4), some (.inl x5), some (.inr (.inl x6)), none, some (.inr (.inl x8)), none, some (.inl x10)] [] (M0 L V b) = some (true, 143, [some (.inr (.inr 120)), some (.inl x1), some (.inl x2), some (.inl x3), some (.inl x4), some (.inl x5), some (.inr (.inl x6)), none, some (.inr (.inl x8)), none, some (.inl x10)], [.inl x4], M0 L V b) := by
  rfl

theorem B226_144 (L : Nat) (V : Mv) (b : Bool) (x1 : Int) (x2 : Int) (x3 : Int) (x4 : Int) (x5 : Int) (x6 : Int) (x8 : Int) (x10 : Int)  : nxs 2 226 144 [some (.inr (.inr 120)), some (.inl x1), some (.inl x2), some (.inl x3), some (.inl x4), some (.inl x5), some (.inr (.inl x6)), none, some (.inr (.inl x8)), none, some (.inl x10)] [] (M0 L V b) = some (true, 44, [some (.inr (.inr 120)), some (.inl x1), some (.inl x2), some (.inl x3), some (.inl (x4 + 1)), some (.inl x5), some (.inr (.inl x6)), none, some (.inr (.inl x8)), none, some (.inl x10)], [], M0 L V b) := by
  rfl

theorem B226_150 (L : Nat) (V : Mv) (b : Bool) (x1 : Int) (x2 : Int) (x3 : Int) (x4 : Int)  : nxs 1 226 150 [some (.inr (.inr 120)), some (.inl x1), some (.inl x2), some (.inl x3), some (.inl x4), none, none, none, none, none, none] [] (M0 L V b) = some (true, 152, [some (.inr (.inr 120)), some (.inl x1), some (.inl x2), some (.inl x3), some (.inl x4), none, none, none, none, none, none], [.inl (-9)], M0 L V b) := by
  rfl

-- 227: MendedOrNewModel.keep(I)I
theorem B227_0 (L : Nat) (V : Mv) (b : Bool) (x1 : Int) (g0 : in32 x1) : nxs 4 227 0 [some (.inr (.inr 120)), some (.inl x1), none, none] [] (M0 L V b) = some (true, 4, [some (.inr (.inr 120)), some (.inl x1), none, none], [.inr (.inl 1), .inr (.inl 0), .inr (.inl x1)], M0 L V b) := by
  have f0 : r32 x1 = true := r32_of g0
  have hG : (r32 x1 && true) = true := an f0 rfl
  show some (r32 x1 && true, _) = _
  rw [hG]
  try rfl

theorem B227_7 (L : Nat) (V : Mv) (b : Bool) (x1 : Int) (s0 : Int) (g0 : in32 s0) : nxs 1 227 7 [some (.inr (.inr 120)), some (.inl x1), none, none] [.inl s0] (M0 L V b) = some (true, cond (!decide (s0 = 0)) 12 10, [some (.inr (.inr 120)), some (.inl x1), none, none], [], M0 L V b) := by
  have f0 : r32 s0 = true := r32_of g0
  have hG : (r32 s0 && true) = true := an f0 rfl
  show some (r32 s0 && true, _) = _
  rw [hG]
  try rfl

theorem B227_10 (L : Nat) (V : Mv) (b : Bool) (x1 : Int)  : nxs 1 227 10 [some (.inr (.inr 120)), some (.inl x1), none, none] [] (M0 L V b) = some (true, 11, [some (.inr (.inr 120)), some (.inl x1), none, none], [.inl (-1)], M0 L V b) := by
  rfl

theorem B227_12 (L : Nat) (V : Mv) (b : Bool) (x1 : Int) (g0 : 0 ≤ x1 ∧ x1 < 2) (g1 : in32 (V 146 (x1).toNat)) : nxs 5 227 12 [some (.inr (.inr 120)), some (.inl x1), none, none] [] (M0 L V b) = some (true, cond (decide (V 146 (x1).toNat = 0)) 25 21, [some (.inr (.inr 120)), some (.inl x1), none, none], [], M0 L V b) := by
  have f0 : gX (M0 L V b) 146 3 x1 = true := gx_of rfl g0
  have f1 : r32 (V 146 (x1).toNat) = true := r32_of g1
  have hG : (gX (M0 L V b) 146 3 x1 && (r32 (V 146 (x1).toNat) && true)) = true := an f0 (an f1 rfl)
  show some (gX (M0 L V b) 146 3 x1 && (r32 (V 146 (x1).toNat) && true), _) = _
  rw [hG]
  try rfl

theorem B227_21 (L : Nat) (V : Mv) (b : Bool) (x1 : Int)  : nxs 2 227 21 [some (.inr (.inr 120)), some (.inl x1), none, none] [] (M0 L V b) = some (true, 26, [some (.inr (.inr 120)), some (.inl x1), none, none], [.inl 0], M0 L V b) := by
  rfl

theorem B227_25 (L : Nat) (V : Mv) (b : Bool) (x1 : Int)  : nxs 1 227 25 [some (.inr (.inr 120)), some (.inl x1), none, none] [] (M0 L V b) = some (true, 26, [some (.inr (.inr 120)), some (.inl x1), none, none], [.inl 1], M0 L V b) := by
  rfl

theorem B227_26 (L : Nat) (V : Mv) (b : Bool) (x1 : Int) (s0 : Int) (g0 : 0 ≤ x1 ∧ x1 < 2) : nxs 8 227 26 [some (.inr (.inr 120)), some (.inl x1), none, none] [.inl s0] (M0 L V b) = some (true, 36, [some (.inr (.inr 120)), some (.inl x1), some (.inl s0), some (.inl 0)], [], M0 L (uV V 146 (x1).toNat 1) b) := by
  have f0 : (gX (M0 L V b) 146 3 x1 && (!Nat.beq 146 0 && decide ((1 : Int) = 0 ∨ (1 : Int) = 1))) = true := gb_of (gx_of rfl g0) (by decide)
  have hG : ((gX (M0 L V b) 146 3 x1 && (!Nat.beq 146 0 && decide ((1 : Int) = 0 ∨ (1 : Int) = 1))) && true) = true := an f0 rfl
  show some ((gX (M0 L V b) 146 3 x1 && (!Nat.beq 146 0 && decide ((1 : Int) = 0 ∨ (1 : Int) = 1))) && true, _) = _
  rw [hG]
  try rfl

theorem B227_36 (L : Nat) (V : Mv) (b : Bool) (x1 : Int) (x2 : Int) (x3 : Int) (g0 : in32 x3) : nxs 3 227 36 [some (.inr (.inr 120)), some (.inl x1), some (.inl x2), some (.inl x3)] [] (M0 L V b) = some (true, cond (decide (24 ≤ x3)) 65 42, [some (.inr (.inr 120)), some (.inl x1), some (.inl x2), some (.inl x3)], [], M0 L V b) := by
  have f0 : (r32 x3 && r32 24) = true := rr32_of g0 (by decide)
  have hG : ((r32 x3 && r32 24) && true) = true := an f0 rfl
  show some ((r32 x3 && r32 24) && true, _) = _
  rw [hG]
  try rfl

theorem B227_42 (L : Nat) (V : Mv) (b : Bool) (x1 : Int) (x2 : Int) (x3 : Int) (g0 : 0 ≤ x3 ∧ x3 < 24) (g1 : 0 ≤ (24 * x1) + x3 ∧ (24 * x1) + x3 < 48) : nxs 14 227 42 [some (.inr (.inr 120)), some (.inl x1), some (.inl x2), some (.inl x3)] [] (M0 L V b) = some (true, 36, [some (.inr (.inr 120)), some (.inl x1), some (.inl x2), some (.inl (x3 + 1))], [], M0 L (uV V 147 ((24 * x1) + x3).toNat (V 130 (x3).toNat)) b) := by
  have f0 : gX (M0 L V b) 130 2 x3 = true := gx_of rfl g0
  have f1 : (gX (M0 L V b) 147 2 ((24 * x1) + x3) && !Nat.beq 147 0) = true := gs_of (gx_of rfl g1) (by decide)
  have hG : (gX (M0 L V b) 130 2 x3 && ((gX (M0 L V b) 147 2 ((24 * x1) + x3) && !Nat.beq 147 0) && true)) = true := an f0 (an f1 rfl)
  show some (gX (M0 L V b) 130 2 x3 && ((gX (M0 L V b) 147 2 ((24 * x1) + x3) && !Nat.beq 147 0) && true), _) = _
  rw [hG]
  try rfl

theorem B227_65 (L : Nat) (V : Mv) (b : Bool) (x1 : Int) (x2 : Int) (x3 : Int) (g0 : 0 ≤ x1 ∧ x1 < 2) : nxs 8 227 65 [some (.inr (.inr 120)), some (.inl x1), some (.inl x2), some (.inl x3)] [] (M0 L V b) = some (true, 77, [some (.inr (.inr 120)), some (.inl x1), some (.inl x2), some (.inl 0)], [], M0 L (uV V 148 (x1).toNat (V 120 37)) b) := by
  have f0 : (gX (M0 L V b) 148 1 x1 && !Nat.beq 148 0) = true := gs_of (gx_of rfl g0) (by decide)
  have hG : ((gX (M0 L V b) 148 1 x1 && !Nat.beq 148 0) && true) = true := an f0 rfl
  show some ((gX (M0 L V b) 148 1 x1 && !Nat.beq 148 0) && true, _) = _
  rw [hG]
  try rfl

theorem B227_77 (L : Nat) (V : Mv) (b : Bool) (x1 : Int) (x2 : Int) (x3 : Int) (g0 : in32 x3) : nxs 3 227 77 [some (.inr (.inr 120)), some (.inl x1), some (.inl x2), some (.inl x3)] [] (M0 L V b) = some (true, cond (decide (16 ≤ x3)) 106 83, [some (.inr (.inr 120)), some (.inl x1), some (.inl x2), some (.inl x3)], [], M0 L V b) := by
  have f0 : (r32 x3 && r32 16) = true := rr32_of g0 (by decide)
  have hG : ((r32 x3 && r32 16) && true) = true := an f0 rfl
  show some ((r32 x3 && r32 16) && true, _) = _
  rw [hG]
  try rfl

theorem B227_83 (L : Nat) (V : Mv) (b : Bool) (x1 : Int) (x2 : Int) (x3 : Int) (g0 : 0 ≤ x3 ∧ x3 < 16) (g1 : 0 ≤ (16 * x1) + x3 ∧ (16 * x1) + x3 < 32) : nxs 14 227 83 [some (.inr (.inr 120)), some (.inl x1), some (.inl x2), some (.inl x3)] [] (M0 L V b) = some (true, 77, [some (.inr (.inr 120)), some (.inl x1), some (.inl x2), some (.inl (x3 + 1))], [], M0 L (uV V 149 ((16 * x1) + x3).toNat (V 145 (x3).toNat)) b) := by
  have f0 : gX (M0 L V b) 145 1 x3 = true := gx_of rfl g0
  have f1 : (gX (M0 L V b) 149 1 ((16 * x1) + x3) && !Nat.beq 149 0) = true := gs_of (gx_of rfl g1) (by decide)
  have hG : (gX (M0 L V b) 145 1 x3 && ((gX (M0 L V b) 149 1 ((16 * x1) + x3) && !Nat.beq 149 0) && true)) = true := an f0 (an f1 rfl)
  show some (gX (M0 L V b) 145 1 x3 && ((gX (M0 L V b) 149 1 ((16 * x1) + x3) && !Nat.beq 149 0) && true), _) = _
  rw [hG]
  try rfl

theorem B227_106 (L : Nat) (V : Mv) (b : Bool) (x1 : Int) (x2 : Int) (x3 : Int)  : nxs 2 227 106 [some (.inr (.inr 120)), some (.inl x1), some (.inl x2), some (.inl x3)] [] (M0 L V b) = some (true, 108, [some (.inr (.inr 120)), some (.inl x1), some (.inl x2), some (.inl 0)], [], M0 L V b) := by
  rfl

theorem B227_108 (L : Nat) (V : Mv) (b : Bool) (x1 : Int) (x2 : Int) (x3 : Int) (g0 : in32 x3) : nxs 3 227 108 [some (.inr (.inr 120)), some (.inl x1), some (.inl x2), some (.inl x3)] [] (M0 L V b) = some (true, cond (decide (3 ≤ x3)) 135 113, [some (.inr (.inr 120)), some (.inl x1), some (.inl x2), some (.inl x3)], [], M0 L V b) := by
  have f0 : (r32 x3 && r32 3) = true := rr32_of g0 (by decide)
  have hG : ((r32 x3 && r32 3) && true) = true := an f0 rfl
  show some ((r32 x3 && r32 3) && true, _) = _
  rw [hG]
  try rfl

theorem B227_113 (L : Nat) (V : Mv) (b : Bool) (x1 : Int) (x2 : Int) (x3 : Int) (g0 : 0 ≤ x3 ∧ x3 < 3) (g1 : 0 ≤ (3 * x1) + x3 ∧ (3 * x1) + x3 < 6) : nxs 14 227 113 [some (.inr (.inr 120)), some (.inl x1), some (.inl x2), some (.inl x3)] [] (M0 L V b) = some (true, 108, [some (.inr (.inr 120)), some (.inl x1), some (.inl x2), some (.inl (x3 + 1))], [], M0 L (uV V 150 ((3 * x1) + x3).toNat (V 129 (x3).toNat)) b) := by
  have f0 : gX (M0 L V b) 129 1 x3 = true := gx_of rfl g0
  have f1 : (gX (M0 L V b) 150 1 ((3 * x1) + x3) && !Nat.beq 150 0) = true := gs_of (gx_of rfl g1) (by decide)
  have hG : (gX (M0 L V b) 129 1 x3 && ((gX (M0 L V b) 150 1 ((3 * x1) + x3) && !Nat.beq 150 0) && true)) = true := an f0 (an f1 rfl)
  show some (gX (M0 L V b) 129 1 x3 && ((gX (M0 L V b) 150 1 ((3 * x1) + x3) && !Nat.beq 150 0) && true), _) = _
  rw [hG]
  try rfl

theorem B227_135 (L : Nat) (V : Mv) (b : Bool) (x1 : Int) (x2 : Int) (x3 : Int)  : nxs 1 227 135 [some (.inr (.inr 120)), some (.inl x1), some (.inl x2), some (.inl x3)] [] (M0 L V b) = some (true, 136, [some (.inr (.inr 120)), some (.inl x1), some (.inl x2), some (.inl x3)], [.inl x2], M0 L V b) := by
  rfl

-- 228: MendedOrNewModel.again(I)I
theorem B228_0 (L : Nat) (V : Mv) (b : Bool) (x1 : Int) (g0 : in32 x1) : nxs 4 228 0 [some (.inr (.inr 120)), some (.inl x1), none, none, none] [] (M0 L V b) = some (true, 4, [some (.inr (.inr 120)), some (.inl x1), none, none, none], [.inr (.inl 1), .inr (.inl 0), .inr (.inl x1)], M0 L V b) := by
  have f0 : r32 x1 = true := r32_of g0
  have hG : (r32 x1 && true) = true := an f0 rfl
  show some (r32 x1 && true, _) = _
  rw [hG]
  try rfl

theorem B228_7 (L : Nat) (V : Mv) (b : Bool) (x1 : Int) (s0 : Int) (g0 : in32 s0) : nxs 1 228 7 [some (.inr (.inr 120)), some (.inl x1), none, none, none] [.inl s0] (M0 L V b) = some (true, cond (!decide (s0 = 0)) 12 10, [some (.inr (.inr 120)), some (.inl x1), none, none, none], [], M0 L V b) := by
  have f0 : r32 s0 = true := r32_of g0
  have hG : (r32 s0 && true) = true := an f0 rfl
  show some (r32 s0 && true, _) = _
  rw [hG]
  try rfl

theorem B228_10 (L : Nat) (V : Mv) (b : Bool) (x1 : Int)  : nxs 1 228 10 [some (.inr (.inr 120)), some (.inl x1), none, none, none] [] (M0 L V b) = some (true, 11, [some (.inr (.inr 120)), some (.inl x1), none, none, none], [.inl (-1)], M0 L V b) := by
  rfl

theorem B228_12 (L : Nat) (V : Mv) (b : Bool) (x1 : Int) (g0 : 0 ≤ x1 ∧ x1 < 2) (g1 : in32 (V 146 (x1).toNat)) : nxs 5 228 12 [some (.inr (.inr 120)), some (.inl x1), none, none, none] [] (M0 L V b) = some (true, cond (!decide (V 146 (x1).toNat = 0)) 24 21, [some (.inr (.inr 120)), some (.inl x1), none, none, none], [], M0 L V b) := by
  have f0 : gX (M0 L V b) 146 3 x1 = true := gx_of rfl g0
  have f1 : r32 (V 146 (x1).toNat) = true := r32_of g1
  have hG : (gX (M0 L V b) 146 3 x1 && (r32 (V 146 (x1).toNat) && true)) = true := an f0 (an f1 rfl)
  show some (gX (M0 L V b) 146 3 x1 && (r32 (V 146 (x1).toNat) && true), _) = _
  rw [hG]
  try rfl

theorem B228_21 (L : Nat) (V : Mv) (b : Bool) (x1 : Int)  : nxs 1 228 21 [some (.inr (.inr 120)), some (.inl x1), none, none, none] [] (M0 L V b) = some (true, 23, [some (.inr (.inr 120)), some (.inl x1), none, none, none], [.inl (-3)], M0 L V b) := by
  rfl

theorem B228_24 (L : Nat) (V : Mv) (b : Bool) (x1 : Int) (g0 : 0 ≤ x1 ∧ x1 < 2) : nxs 8 228 24 [some (.inr (.inr 120)), some (.inl x1), none, none, none] [] (M0 L V b) = some (true, 36, [some (.inr (.inr 120)), some (.inl x1), some (.inl 0), none, none], [], M0 L (uV V 120 37 (V 148 (x1).toNat)) b) := by
  have f0 : gX (M0 L V b) 148 1 x1 = true := gx_of rfl g0
  have hG : (gX (M0 L V b) 148 1 x1 && true) = true := an f0 rfl
  show some (gX (M0 L V b) 148 1 x1 && true, _) = _
  rw [hG]
  try rfl

theorem B228_36 (L : Nat) (V : Mv) (b : Bool) (x1 : Int) (x2 : Int) (g0 : in32 x2) : nxs 3 228 36 [some (.inr (.inr 120)), some (.inl x1), some (.inl x2), none, none] [] (M0 L V b) = some (true, cond (decide (16 ≤ x2)) 65 42, [some (.inr (.inr 120)), some (.inl x1), some (.inl x2), none, none], [], M0 L V b) := by
  have f0 : (r32 x2 && r32 16) = true := rr32_of g0 (by decide)
  have hG : ((r32 x2 && r32 16) && true) = true := an f0 rfl
  show some ((r32 x2 && r32 16) && true, _) = _
  rw [hG]
  try rfl

theorem B228_42 (L : Nat) (V : Mv) (b : Bool) (x1 : Int) (x2 : Int) (g0 : 0 ≤ (16 * x1) + x2 ∧ (16 * x1) + x2 < 32) (g1 : 0 ≤ x2 ∧ x2 < 16) : nxs 14 228 42 [some (.inr (.inr 120)), some (.inl x1), some (.inl x2), none, none] [] (M0 L V b) = some (true, 36, [some (.inr (.inr 120)), some (.inl x1), some (.inl (x2 + 1)), none, none], [], M0 L (uV V 145 (x2).toNat (V 149 ((16 * x1) + x2).toNat)) b) := by
  have f0 : gX (M0 L V b) 149 1 ((16 * x1) + x2) = true := gx_of rfl g0
  have f1 : (gX (M0 L V b) 145 1 x2 && !Nat.beq 145 0) = true := gs_of (gx_of rfl g1) (by decide)
  have hG : (gX (M0 L V b) 149 1 ((16 * x1) + x2) && ((gX (M0 L V b) 145 1 x2 && !Nat.beq 145 0) && true)) = true := an f0 (an f1 rfl)
  show some (gX (M0 L V b) 149 1 ((16 * x1) + x2) && ((gX (M0 L V b) 145 1 x2 && !Nat.beq 145 0) && true), _) = _
  rw [hG]
  try rfl

theorem B228_65 (L : Nat) (V : Mv) (b : Bool) (x1 : Int) (x2 : Int)  : nxs 4 228 65 [some (.inr (.inr 120)), some (.inl x1), some (.inl x2), none, none] [] (M0 L V b) = some (true, 69, [some (.inr (.inr 120)), some (.inl x1), some (.inl 0), some (.inl 0), none], [], M0 L V b) := by
  rfl

theorem B228_69 (L : Nat) (V : Mv) (b : Bool) (x1 : Int) (x2 : Int) (x3 : Int) (g0 : in32 x3) : nxs 3 228 69 [some (.inr (.inr 120)), some (.inl x1), some (.inl x2), some (.inl x3), none] [] (M0 L V b) = some (true, cond (decide (3 ≤ x3)) 145 74, [some (.inr (.inr 120)), some (.inl x1), some (.inl x2), some (.inl x3), none], [], M0 L V b) := by
  have f0 : (r32 x3 && r32 3) = true := rr32_of g0 (by decide)
  have hG : ((r32 x3 && r32 3) && true) = true := an f0 rfl
  show some ((r32 x3 && r32 3) && true, _) = _
  rw [hG]
  try rfl

theorem B228_74 (L : Nat) (V : Mv) (b : Bool) (x1 : Int) (x2 : Int) (x3 : Int) (g0 : 0 ≤ (3 * x1) + x3 ∧ (3 * x1) + x3 < 6) (g1 : 0 ≤ x3 ∧ x3 < 3) (g2 : in32 (V 150 ((3 * x1) + x3).toNat)) (g3 : in32 (V 129 (x3).toNat)) : nxs 13 228 74 [some (.inr (.inr 120)), some (.inl x1), some (.inl x2), some (.inl x3), none] [] (M0 L V b) = some (true, cond (!decide (V 150 ((3 * x1) + x3).toNat = V 129 (x3).toNat)) 139 93, [some (.inr (.inr 120)), some (.inl x1), some (.inl x2), some (.inl x3), none], [], M0 L V b) := by
  have f0 : gX (M0 L V b) 150 1 ((3 * x1) + x3) = true := gx_of rfl g0
  have f1 : gX (M0 L V b) 129 1 x3 = true := gx_of rfl g1
  have f2 : (r32 (V 150 ((3 * x1) + x3).toNat) && r32 (V 129 (x3).toNat)) = true := rr32_of g2 g3
  have hG : (gX (M0 L V b) 150 1 ((3 * x1) + x3) && (gX (M0 L V b) 129 1 x3 && ((r32 (V 150 ((3 * x1) + x3).toNat) && r32 (V 129 (x3).toNat)) && true))) = true := an f0 (an f1 (an f2 rfl))
  show some (gX (M0 L V b) 150 1 ((3 * x1) + x3) && (gX (M0 L V b) 129 1 x3 && ((r32 (V 150 ((3 * x1) + x3).toNat) && r32 (V 129 (x3).toNat)) && true)), _) = _
  rw [hG]
  try rfl

theorem B228_93 (L : Nat) (V : Mv) (b : Bool) (x1 : Int) (x2 : Int) (x3 : Int)  : nxs 4 228 93 [some (.inr (.inr 120)), some (.inl x1), some (.inl x2), some (.inl x3), none] [] (M0 L V b) = some (true, 99, [some (.inr (.inr 120)), some (.inl x1), some (.inl x2), some (.inl x3), some (.inl (8 * x3))], [], M0 L V b) := by
  rfl

theorem B228_99 (L : Nat) (V : Mv) (b : Bool) (x1 : Int) (x2 : Int) (x3 : Int) (x4 : Int) (g0 : in32 x4) (g1 : in32 ((8 * x3) + 8)) : nxs 7 228 99 [some (.inr (.inr 120)), some (.inl x1), some (.inl x2), some (.inl x3), some (.inl x4)] [] (M0 L V b) = some (true, cond (decide ((8 * x3) + 8 ≤ x4)) 136 111, [some (.inr (.inr 120)), some (.inl x1), some (.inl x2), some (.inl x3), some (.inl x4)], [], M0 L V b) := by
  have f0 : (r32 x4 && r32 ((8 * x3) + 8)) = true := rr32_of g0 g1
  have hG : ((r32 x4 && r32 ((8 * x3) + 8)) && true) = true := an f0 rfl
  show some ((r32 x4 && r32 ((8 * x3) + 8)) && true, _) = _
  rw [hG]
  try rfl

theorem B228_111 (L : Nat) (V : Mv) (b : Bool) (x1 : Int) (x2 : Int) (x3 : Int) (x4 : Int) (g0 : 0 ≤ (24 * x1) + x4 ∧ (24 * x1) + x4 < 48) (g1 : 0 ≤ x4 ∧ x4 < 24) : nxs 14 228 111 [some (.inr (.inr 120)), some (.inl x1), some (.inl x2), some (.inl x3), some (.inl x4)] [] (M0 L V b) = some (true, 99, [some (.inr (.inr 120)), some (.inl x1), some (.inl x2), some (.inl x3), some (.inl (x4 + 1))], [], M0 L (uV V 130 (x4).toNat (V 147 ((24 * x1) + x4).toNat)) b) := by
  have f0 : gX (M0 L V b) 147 2 ((24 * x1) + x4) = true := gx_of rfl g0
  have f1 : (gX (M0 L V b) 130 2 x4 && !Nat.beq 130 0) = true := gs_of (gx_of rfl g1) (by decide)
  have hG : (gX (M0 L V b) 147 2 ((24 * x1) + x4) && ((gX (M0 L V b) 130 2 x4 && !Nat.beq 130 0) && true)) = true := an f0 (an f1 rfl)
  show some (gX (M0 L V b) 147 2 ((24 * x1) + x4) && ((gX (M0 L V b) 130 2 x4 && !Nat.beq 130 0) && true), _) = _
  rw [hG]
  try rfl

theorem B228_136 (L : Nat) (V : Mv) (b : Bool) (x1 : Int) (x2 : Int) (x3 : Int) (x4 : Int)  : nxs 1 228 136 [some (.inr (.inr 120)), some (.inl x1), some (.inl x2), some (.inl x3), some (.inl x4)] [] (M0 L V b) = some (true, 139, [some (.inr (.inr 120)), some (.inl x1), some (.inl (x2 + 1)), some (.inl x3), some (.inl x4)], [], M0 L V b) := by
  rfl

theorem B228_139 (L : Nat) (V : Mv) (b : Bool) (x1 : Int) (x2 : Int) (x3 : Int)  : nxs 2 228 139 [some (.inr (.inr 120)), some (.inl x1), some (.inl x2), some (.inl x3), none] [] (M0 L V b) = some (true, 69, [some (.inr (.inr 120)), some (.inl x1), some (.inl x2), some (.inl (x3 + 1)), none], [], M0 L V b) := by
  rfl

theorem B228_145 (L : Nat) (V : Mv) (b : Bool) (x1 : Int) (x2 : Int) (x3 : Int)  : nxs 1 228 145 [some (.inr (.inr 120)), some (.inl x1), some (.inl x2), some (.inl x3), none] [] (M0 L V b) = some (true, 146, [some (.inr (.inr 120)), some (.inl x1), some (.inl x2), some (.inl x3), none], [.inl x2], M0 L V b) := by
  rfl

-- 229: MendedOrNewModel.count(I)I
theorem B229_28 (L : Nat) (V : Mv) (b : Bool) (x1 : Int)  : nxs 2 229 28 [some (.inr (.inr 120)), some (.inl x1)] [] (M0 L V b) = some (true, 32, [some (.inr (.inr 120)), some (.inl x1)], [.inl (V 120 10)], M0 L V b) := by
  rfl

theorem B229_33 (L : Nat) (V : Mv) (b : Bool) (x1 : Int)  : nxs 2 229 33 [some (.inr (.inr 120)), some (.inl x1)] [] (M0 L V b) = some (true, 37, [some (.inr (.inr 120)), some (.inl x1)], [.inl (V 120 37)], M0 L V b) := by
  rfl

theorem B229_38 (L : Nat) (V : Mv) (b : Bool) (x1 : Int)  : nxs 2 229 38 [some (.inr (.inr 120)), some (.inl x1)] [] (M0 L V b) = some (true, 40, [some (.inr (.inr 120)), some (.inl x1)], [.inl 0, .inr (.inr 120)], M0 L V b) := by
  rfl

theorem B229_43 (L : Nat) (V : Mv) (b : Bool) (x1 : Int) (s0 : Int)  : nxs 2 229 43 [some (.inr (.inr 120)), some (.inl x1)] [.inl s0] (M0 L V b) = some (true, 45, [some (.inr (.inr 120)), some (.inl x1)], [.inl 1, .inr (.inr 120), .inl s0], M0 L V b) := by
  rfl

theorem B229_48 (L : Nat) (V : Mv) (b : Bool) (x1 : Int) (s0 : Int) (s1 : Int)  : nxs 3 229 48 [some (.inr (.inr 120)), some (.inl x1)] [.inl s1, .inl s0] (M0 L V b) = some (true, 51, [some (.inr (.inr 120)), some (.inl x1)], [.inl 2, .inr (.inr 120), .inl (s0 + s1)], M0 L V b) := by
  rfl

theorem B229_54 (L : Nat) (V : Mv) (b : Bool) (x1 : Int) (s0 : Int) (s1 : Int)  : nxs 1 229 54 [some (.inr (.inr 120)), some (.inl x1)] [.inl s1, .inl s0] (M0 L V b) = some (true, 55, [some (.inr (.inr 120)), some (.inl x1)], [.inl (s0 + s1)], M0 L V b) := by
  rfl

theorem B229_56 (L : Nat) (V : Mv) (b : Bool) (x1 : Int)  : nxs 1 229 56 [some (.inr (.inr 120)), some (.inl x1)] [] (M0 L V b) = some (true, 58, [some (.inr (.inr 120)), some (.inl x1)], [.inl (-2)], M0 L V b) := by
  rfl

