/-! M11: the law's loop (by program, gen7.py) -/
def Iv (N : Nat) (V : Mv) : Prop := Inv N V ∧ ∀ k, in32 (V 0 k)
def OpI (mc mr : Nat) (as : List AV) : Prop := ∀ (L N : Nat) (V : Mv) (b : Bool), L ≤ 3584 → N < 512 → Iv N V → Ex L 29 mc (.inr (.inr 1) :: as) V b (fun v V1 b1 => ∃ z : Int, v = some (.inl z) ∧ in32 z ∧ V1 0 = V 0 ∧ Ex L 29 mr (.inr (.inr 120) :: as) V1 b1 (fun v2 V2 _ => v2 = some (.inl z) ∧ Iv (N + 1) V2))
def OpJ (mc mr : Nat) (as : List AV) : Prop := ∀ (L N : Nat) (V : Mv) (b : Bool), L ≤ 3584 → N < 512 → Iv N V → Ex L 29 mc (.inr (.inr 1) :: as) V b (fun v V1 b1 => ∃ z : Int, v = some (.inr (.inl z)) ∧ in64 z ∧ V1 0 = V 0 ∧ Ex L 29 mr (.inr (.inr 120) :: as) V1 b1 (fun v2 V2 _ => v2 = some (.inr (.inl z)) ∧ Iv (N + 1) V2))
theorem B0_18 (L : Nat) (V : Mv) (b : Bool) (x3 : Int) (g0 : in32 x3) (hL : L ≤ 3584) : nxs 6 0 18 [some (.inr (.inr 0)), some (.inr (.inr 1)), some (.inr (.inr 120)), some (.inl x3)] [] (M0 L V b) = some (true, cond (decide ((L : Int) - 7 < x3)) 1774 27, [some (.inr (.inr 0)), some (.inr (.inr 1)), some (.inr (.inr 120)), some (.inl x3)], [], M0 L V b) := by
  have f0 : (r32 x3 && r32 ((L : Int) - 7)) = true := rr32_of g0 ⟨by omega, by omega⟩
  show some (true && ((r32 x3 && r32 ((L : Int) - 7)) && true), _) = _
  rw [f0]
  rfl
theorem B0_27 (L : Nat) (V : Mv) (b : Bool) (x3 : Int) (t : Nat) (g0 : 0 ≤ x3 ∧ x3 < (L : Int)) (g1 : in32 (oAnd (V 0 x3.toNat) 63)) (e : tsw 33 1735 0 37 [167, 230, 243, 256, 279, 312, 355, 398, 441, 464, 513, 546, 579, 613, 673, 723, 746, 806, 849, 909, 952, 975, 1025, 1068, 1138, 1161, 1253, 1316, 1376, 1409, 1501, 1564, 1587, 1600, 1623, 1666, 1689, 1712] (oAnd (V 0 x3.toNat) 63) = (t : Int)) : nxs 6 0 27 [some (.inr (.inr 0)), some (.inr (.inr 1)), some (.inr (.inr 120)), some (.inl x3)] [] (M0 L V b) = some (true, t, [some (.inr (.inr 0)), some (.inr (.inr 1)), some (.inr (.inr 120)), some (.inl x3)], [], M0 L V b) := by
  have f0 : gX (M0 L V b) 0 1 x3 = true := gx_of rfl g0
  show some (gX (M0 L V b) 0 1 x3 && ((r32 (oAnd (V 0 x3.toNat) 63) && decide (0 ≤ tsw 33 1735 0 37 [167, 230, 243, 256, 279, 312, 355, 398, 441, 464, 513, 546, 579, 613, 673, 723, 746, 806, 849, 909, 952, 975, 1025, 1068, 1138, 1161, 1253, 1316, 1376, 1409, 1501, 1564, 1587, 1600, 1623, 1666, 1689, 1712] (oAnd (V 0 x3.toNat) 63))) && true), (tsw 33 1735 0 37 [167, 230, 243, 256, 279, 312, 355, 398, 441, 464, 513, 546, 579, 613, 673, 723, 746, 806, 849, 909, 952, 975, 1025, 1068, 1138, 1161, 1253, 1316, 1376, 1409, 1501, 1564, 1587, 1600, 1623, 1666, 1689, 1712] (oAnd (V 0 x3.toNat) 63)).toNat, _) = _
  rw [f0, r32_of g1, e, decide_eq_true (Int.natCast_nonneg t)]
  rfl
theorem oAnd_in (a c : Int) : in32 (oAnd a c) := ⟨Int32.le_toInt _, Int32.toInt_lt _⟩
theorem oLor_in (a c : Int) : in64 (oLor a c) := ⟨Int64.le_toInt _, Int64.toInt_lt _⟩
theorem B0_200 (L : Nat) (V : Mv) (b : Bool) (x3 : Int) (g0 : 0 ≤ x3 + 1 ∧ x3 + 1 < (L : Int)) (g1 : 0 ≤ x3 + 2 ∧ x3 + 2 < (L : Int)) (g2 : in32 (V 0 (x3 + 2).toNat)) (g3 : 0 ≤ x3 + 3 ∧ x3 + 3 < (L : Int)) (g4 : in32 (V 0 (x3 + 3).toNat)) : nxs 23 0 200 [some (.inr (.inr 0)), some (.inr (.inr 1)), some (.inr (.inr 120)), some (.inl x3)] [] (M0 L V b) = some (true, 226, [some (.inr (.inr 0)), some (.inr (.inr 1)), some (.inr (.inr 120)), some (.inl x3)], [.inr (.inl (oLor (oLshl (V 0 (x3 + 2).toNat) 32) (oLand (V 0 (x3 + 3).toNat) 4294967295))), .inl (V 0 (x3 + 1).toNat), .inr (.inr 1)], M0 L V b) := by
  have f0 : gX (M0 L V b) 0 1 (x3 + 1) = true := gx_of rfl g0
  have f1 : gX (M0 L V b) 0 1 (x3 + 2) = true := gx_of rfl g1
  have f2 : r32 (V 0 (x3 + 2).toNat) = true := r32_of g2
  have f3 : gX (M0 L V b) 0 1 (x3 + 3) = true := gx_of rfl g3
  have f4 : r32 (V 0 (x3 + 3).toNat) = true := r32_of g4
  have hG : (gX (M0 L V b) 0 1 (x3 + 1) && (gX (M0 L V b) 0 1 (x3 + 2) && (r32 (V 0 (x3 + 2).toNat) && (gX (M0 L V b) 0 1 (x3 + 3) && (r32 (V 0 (x3 + 3).toNat) && true))))) = true := an f0 (an f1 (an f2 (an f3 (an f4 rfl))))
  show some (gX (M0 L V b) 0 1 (x3 + 1) && (gX (M0 L V b) 0 1 (x3 + 2) && (r32 (V 0 (x3 + 2).toNat) && (gX (M0 L V b) 0 1 (x3 + 3) && (r32 (V 0 (x3 + 3).toNat) && true)))), _) = _
  rw [hG]
  try rfl

theorem B0_229 (L : Nat) (V : Mv) (b : Bool) (x3 : Int) (s0 : Int) (g0 : 0 ≤ x3 + 1 ∧ x3 + 1 < (L : Int)) (g1 : 0 ≤ x3 + 2 ∧ x3 + 2 < (L : Int)) (g2 : in32 (V 0 (x3 + 2).toNat)) (g3 : 0 ≤ x3 + 3 ∧ x3 + 3 < (L : Int)) (g4 : in32 (V 0 (x3 + 3).toNat)) : nxs 23 0 229 [some (.inr (.inr 0)), some (.inr (.inr 1)), some (.inr (.inr 120)), some (.inl x3)] [.inl s0] (M0 L V b) = some (true, 255, [some (.inr (.inr 0)), some (.inr (.inr 1)), some (.inr (.inr 120)), some (.inl x3)], [.inr (.inl (oLor (oLshl (V 0 (x3 + 2).toNat) 32) (oLand (V 0 (x3 + 3).toNat) 4294967295))), .inl (V 0 (x3 + 1).toNat), .inr (.inr 120), .inl s0], M0 L V b) := by
  have f0 : gX (M0 L V b) 0 1 (x3 + 1) = true := gx_of rfl g0
  have f1 : gX (M0 L V b) 0 1 (x3 + 2) = true := gx_of rfl g1
  have f2 : r32 (V 0 (x3 + 2).toNat) = true := r32_of g2
  have f3 : gX (M0 L V b) 0 1 (x3 + 3) = true := gx_of rfl g3
  have f4 : r32 (V 0 (x3 + 3).toNat) = true := r32_of g4
  have hG : (gX (M0 L V b) 0 1 (x3 + 1) && (gX (M0 L V b) 0 1 (x3 + 2) && (r32 (V 0 (x3 + 2).toNat) && (gX (M0 L V b) 0 1 (x3 + 3) && (r32 (V 0 (x3 + 3).toNat) && true))))) = true := an f0 (an f1 (an f2 (an f3 (an f4 rfl))))
  show some (gX (M0 L V b) 0 1 (x3 + 1) && (gX (M0 L V b) 0 1 (x3 + 2) && (r32 (V 0 (x3 + 2).toNat) && (gX (M0 L V b) 0 1 (x3 + 3) && (r32 (V 0 (x3 + 3).toNat) && true)))), _) = _
  rw [hG]
  try rfl

theorem B0_258 (L : Nat) (V : Mv) (b : Bool) (x3 : Int) (s0 : Int) (s1 : Int) (g0 : in32 s0) (g1 : in32 s1) : nxs 1 0 258 [some (.inr (.inr 0)), some (.inr (.inr 1)), some (.inr (.inr 120)), some (.inl x3)] [.inl s1, .inl s0] (M0 L V b) = some (true, cond (decide (s0 = s1)) 1768 261, [some (.inr (.inr 0)), some (.inr (.inr 1)), some (.inr (.inr 120)), some (.inl x3)], [], M0 L V b) := by
  have f0 : (r32 s0 && r32 s1) = true := rr32_of g0 g1
  have hG : ((r32 s0 && r32 s1) && true) = true := an f0 rfl
  show some ((r32 s0 && r32 s1) && true, _) = _
  rw [hG]
  try rfl

theorem B0_261 (L : Nat) (V : Mv) (b : Bool) (x3 : Int)  : nxs 1 0 261 [some (.inr (.inr 0)), some (.inr (.inr 1)), some (.inr (.inr 120)), some (.inl x3)] [] (M0 L V b) = some (true, 262, [some (.inr (.inr 0)), some (.inr (.inr 1)), some (.inr (.inr 120)), some (.inl x3)], [.inl 0], M0 L V b) := by
  rfl

theorem B0_263 (L : Nat) (V : Mv) (b : Bool) (x3 : Int)  : nxs 1 0 263 [some (.inr (.inr 0)), some (.inr (.inr 1)), some (.inr (.inr 120)), some (.inl x3)] [] (M0 L V b) = some (true, 264, [some (.inr (.inr 0)), some (.inr (.inr 1)), some (.inr (.inr 120)), some (.inl x3)], [.inr (.inr 1)], M0 L V b) := by
  rfl

theorem B0_267 (L : Nat) (V : Mv) (b : Bool) (x3 : Int) (s0 : Int)  : nxs 1 0 267 [some (.inr (.inr 0)), some (.inr (.inr 1)), some (.inr (.inr 120)), some (.inl x3)] [.inl s0] (M0 L V b) = some (true, 268, [some (.inr (.inr 0)), some (.inr (.inr 1)), some (.inr (.inr 120)), some (.inl x3)], [.inr (.inr 120), .inl s0], M0 L V b) := by
  rfl

theorem B0_271 (L : Nat) (V : Mv) (b : Bool) (x3 : Int) (s0 : Int) (s1 : Int) (g0 : in32 s0) (g1 : in32 s1) : nxs 1 0 271 [some (.inr (.inr 0)), some (.inr (.inr 1)), some (.inr (.inr 120)), some (.inl x3)] [.inl s1, .inl s0] (M0 L V b) = some (true, cond (decide (s0 = s1)) 1768 274, [some (.inr (.inr 0)), some (.inr (.inr 1)), some (.inr (.inr 120)), some (.inl x3)], [], M0 L V b) := by
  have f0 : (r32 s0 && r32 s1) = true := rr32_of g0 g1
  have hG : ((r32 s0 && r32 s1) && true) = true := an f0 rfl
  show some ((r32 s0 && r32 s1) && true, _) = _
  rw [hG]
  try rfl

theorem B0_274 (L : Nat) (V : Mv) (b : Bool) (x3 : Int)  : nxs 1 0 274 [some (.inr (.inr 0)), some (.inr (.inr 1)), some (.inr (.inr 120)), some (.inl x3)] [] (M0 L V b) = some (true, 275, [some (.inr (.inr 0)), some (.inr (.inr 1)), some (.inr (.inr 120)), some (.inl x3)], [.inl 0], M0 L V b) := by
  rfl

theorem B0_276 (L : Nat) (V : Mv) (b : Bool) (x3 : Int)  : nxs 1 0 276 [some (.inr (.inr 0)), some (.inr (.inr 1)), some (.inr (.inr 120)), some (.inl x3)] [] (M0 L V b) = some (true, 277, [some (.inr (.inr 0)), some (.inr (.inr 1)), some (.inr (.inr 120)), some (.inl x3)], [.inr (.inr 1)], M0 L V b) := by
  rfl

theorem B0_280 (L : Nat) (V : Mv) (b : Bool) (x3 : Int) (s0 : Int)  : nxs 1 0 280 [some (.inr (.inr 0)), some (.inr (.inr 1)), some (.inr (.inr 120)), some (.inl x3)] [.inl s0] (M0 L V b) = some (true, 281, [some (.inr (.inr 0)), some (.inr (.inr 1)), some (.inr (.inr 120)), some (.inl x3)], [.inr (.inr 120), .inl s0], M0 L V b) := by
  rfl

theorem B0_284 (L : Nat) (V : Mv) (b : Bool) (x3 : Int) (s0 : Int) (s1 : Int) (g0 : in32 s0) (g1 : in32 s1) : nxs 1 0 284 [some (.inr (.inr 0)), some (.inr (.inr 1)), some (.inr (.inr 120)), some (.inl x3)] [.inl s1, .inl s0] (M0 L V b) = some (true, cond (decide (s0 = s1)) 1768 287, [some (.inr (.inr 0)), some (.inr (.inr 1)), some (.inr (.inr 120)), some (.inl x3)], [], M0 L V b) := by
  have f0 : (r32 s0 && r32 s1) = true := rr32_of g0 g1
  have hG : ((r32 s0 && r32 s1) && true) = true := an f0 rfl
  show some ((r32 s0 && r32 s1) && true, _) = _
  rw [hG]
  try rfl

theorem B0_287 (L : Nat) (V : Mv) (b : Bool) (x3 : Int)  : nxs 1 0 287 [some (.inr (.inr 0)), some (.inr (.inr 1)), some (.inr (.inr 120)), some (.inl x3)] [] (M0 L V b) = some (true, 288, [some (.inr (.inr 0)), some (.inr (.inr 1)), some (.inr (.inr 120)), some (.inl x3)], [.inl 0], M0 L V b) := by
  rfl

theorem B0_289 (L : Nat) (V : Mv) (b : Bool) (x3 : Int) (g0 : 0 ≤ x3 + 1 ∧ x3 + 1 < (L : Int)) : nxs 6 0 289 [some (.inr (.inr 0)), some (.inr (.inr 1)), some (.inr (.inr 120)), some (.inl x3)] [] (M0 L V b) = some (true, 295, [some (.inr (.inr 0)), some (.inr (.inr 1)), some (.inr (.inr 120)), some (.inl x3)], [.inl (V 0 (x3 + 1).toNat), .inr (.inr 1)], M0 L V b) := by
  have f0 : gX (M0 L V b) 0 1 (x3 + 1) = true := gx_of rfl g0
  have hG : (gX (M0 L V b) 0 1 (x3 + 1) && true) = true := an f0 rfl
  show some (gX (M0 L V b) 0 1 (x3 + 1) && true, _) = _
  rw [hG]
  try rfl

theorem B0_298 (L : Nat) (V : Mv) (b : Bool) (x3 : Int) (s0 : Int) (g0 : 0 ≤ x3 + 1 ∧ x3 + 1 < (L : Int)) : nxs 6 0 298 [some (.inr (.inr 0)), some (.inr (.inr 1)), some (.inr (.inr 120)), some (.inl x3)] [.inl s0] (M0 L V b) = some (true, 304, [some (.inr (.inr 0)), some (.inr (.inr 1)), some (.inr (.inr 120)), some (.inl x3)], [.inl (V 0 (x3 + 1).toNat), .inr (.inr 120), .inl s0], M0 L V b) := by
  have f0 : gX (M0 L V b) 0 1 (x3 + 1) = true := gx_of rfl g0
  have hG : (gX (M0 L V b) 0 1 (x3 + 1) && true) = true := an f0 rfl
  show some (gX (M0 L V b) 0 1 (x3 + 1) && true, _) = _
  rw [hG]
  try rfl

theorem B0_307 (L : Nat) (V : Mv) (b : Bool) (x3 : Int) (s0 : Int) (s1 : Int) (g0 : in32 s0) (g1 : in32 s1) : nxs 1 0 307 [some (.inr (.inr 0)), some (.inr (.inr 1)), some (.inr (.inr 120)), some (.inl x3)] [.inl s1, .inl s0] (M0 L V b) = some (true, cond (decide (s0 = s1)) 1768 310, [some (.inr (.inr 0)), some (.inr (.inr 1)), some (.inr (.inr 120)), some (.inl x3)], [], M0 L V b) := by
  have f0 : (r32 s0 && r32 s1) = true := rr32_of g0 g1
  have hG : ((r32 s0 && r32 s1) && true) = true := an f0 rfl
  show some ((r32 s0 && r32 s1) && true, _) = _
  rw [hG]
  try rfl

theorem B0_310 (L : Nat) (V : Mv) (b : Bool) (x3 : Int)  : nxs 1 0 310 [some (.inr (.inr 0)), some (.inr (.inr 1)), some (.inr (.inr 120)), some (.inl x3)] [] (M0 L V b) = some (true, 311, [some (.inr (.inr 0)), some (.inr (.inr 1)), some (.inr (.inr 120)), some (.inl x3)], [.inl 0], M0 L V b) := by
  rfl

theorem B0_312 (L : Nat) (V : Mv) (b : Bool) (x3 : Int) (g0 : 0 ≤ x3 + 1 ∧ x3 + 1 < (L : Int)) (g1 : 0 ≤ x3 + 2 ∧ x3 + 2 < (L : Int)) : nxs 11 0 312 [some (.inr (.inr 0)), some (.inr (.inr 1)), some (.inr (.inr 120)), some (.inl x3)] [] (M0 L V b) = some (true, 323, [some (.inr (.inr 0)), some (.inr (.inr 1)), some (.inr (.inr 120)), some (.inl x3)], [.inl (V 0 (x3 + 2).toNat), .inl (V 0 (x3 + 1).toNat), .inr (.inr 1)], M0 L V b) := by
  have f0 : gX (M0 L V b) 0 1 (x3 + 1) = true := gx_of rfl g0
  have f1 : gX (M0 L V b) 0 1 (x3 + 2) = true := gx_of rfl g1
  have hG : (gX (M0 L V b) 0 1 (x3 + 1) && (gX (M0 L V b) 0 1 (x3 + 2) && true)) = true := an f0 (an f1 rfl)
  show some (gX (M0 L V b) 0 1 (x3 + 1) && (gX (M0 L V b) 0 1 (x3 + 2) && true), _) = _
  rw [hG]
  try rfl

theorem B0_326 (L : Nat) (V : Mv) (b : Bool) (x3 : Int) (s0 : Int) (g0 : 0 ≤ x3 + 1 ∧ x3 + 1 < (L : Int)) (g1 : 0 ≤ x3 + 2 ∧ x3 + 2 < (L : Int)) : nxs 11 0 326 [some (.inr (.inr 0)), some (.inr (.inr 1)), some (.inr (.inr 120)), some (.inl x3)] [.inl s0] (M0 L V b) = some (true, 337, [some (.inr (.inr 0)), some (.inr (.inr 1)), some (.inr (.inr 120)), some (.inl x3)], [.inl (V 0 (x3 + 2).toNat), .inl (V 0 (x3 + 1).toNat), .inr (.inr 120), .inl s0], M0 L V b) := by
  have f0 : gX (M0 L V b) 0 1 (x3 + 1) = true := gx_of rfl g0
  have f1 : gX (M0 L V b) 0 1 (x3 + 2) = true := gx_of rfl g1
  have hG : (gX (M0 L V b) 0 1 (x3 + 1) && (gX (M0 L V b) 0 1 (x3 + 2) && true)) = true := an f0 (an f1 rfl)
  show some (gX (M0 L V b) 0 1 (x3 + 1) && (gX (M0 L V b) 0 1 (x3 + 2) && true), _) = _
  rw [hG]
  try rfl

theorem B0_340 (L : Nat) (V : Mv) (b : Bool) (x3 : Int) (s0 : Int) (s1 : Int) (g0 : in32 s0) (g1 : in32 s1) : nxs 1 0 340 [some (.inr (.inr 0)), some (.inr (.inr 1)), some (.inr (.inr 120)), some (.inl x3)] [.inl s1, .inl s0] (M0 L V b) = some (true, cond (decide (s0 = s1)) 1768 343, [some (.inr (.inr 0)), some (.inr (.inr 1)), some (.inr (.inr 120)), some (.inl x3)], [], M0 L V b) := by
  have f0 : (r32 s0 && r32 s1) = true := rr32_of g0 g1
  have hG : ((r32 s0 && r32 s1) && true) = true := an f0 rfl
  show some ((r32 s0 && r32 s1) && true, _) = _
  rw [hG]
  try rfl

theorem B0_343 (L : Nat) (V : Mv) (b : Bool) (x3 : Int)  : nxs 1 0 343 [some (.inr (.inr 0)), some (.inr (.inr 1)), some (.inr (.inr 120)), some (.inl x3)] [] (M0 L V b) = some (true, 344, [some (.inr (.inr 0)), some (.inr (.inr 1)), some (.inr (.inr 120)), some (.inl x3)], [.inl 0], M0 L V b) := by
  rfl

theorem B0_345 (L : Nat) (V : Mv) (b : Bool) (x3 : Int) (g0 : 0 ≤ x3 + 1 ∧ x3 + 1 < (L : Int)) (g1 : 0 ≤ x3 + 2 ∧ x3 + 2 < (L : Int)) (g2 : 0 ≤ x3 + 3 ∧ x3 + 3 < (L : Int)) : nxs 16 0 345 [some (.inr (.inr 0)), some (.inr (.inr 1)), some (.inr (.inr 120)), some (.inl x3)] [] (M0 L V b) = some (true, 361, [some (.inr (.inr 0)), some (.inr (.inr 1)), some (.inr (.inr 120)), some (.inl x3)], [.inl (V 0 (x3 + 3).toNat), .inl (V 0 (x3 + 2).toNat), .inl (V 0 (x3 + 1).toNat), .inr (.inr 1)], M0 L V b) := by
  have f0 : gX (M0 L V b) 0 1 (x3 + 1) = true := gx_of rfl g0
  have f1 : gX (M0 L V b) 0 1 (x3 + 2) = true := gx_of rfl g1
  have f2 : gX (M0 L V b) 0 1 (x3 + 3) = true := gx_of rfl g2
  have hG : (gX (M0 L V b) 0 1 (x3 + 1) && (gX (M0 L V b) 0 1 (x3 + 2) && (gX (M0 L V b) 0 1 (x3 + 3) && true))) = true := an f0 (an f1 (an f2 rfl))
  show some (gX (M0 L V b) 0 1 (x3 + 1) && (gX (M0 L V b) 0 1 (x3 + 2) && (gX (M0 L V b) 0 1 (x3 + 3) && true)), _) = _
  rw [hG]
  try rfl

theorem B0_364 (L : Nat) (V : Mv) (b : Bool) (x3 : Int) (s0 : Int) (g0 : 0 ≤ x3 + 1 ∧ x3 + 1 < (L : Int)) (g1 : 0 ≤ x3 + 2 ∧ x3 + 2 < (L : Int)) (g2 : 0 ≤ x3 + 3 ∧ x3 + 3 < (L : Int)) : nxs 16 0 364 [some (.inr (.inr 0)), some (.inr (.inr 1)), some (.inr (.inr 120)), some (.inl x3)] [.inl s0] (M0 L V b) = some (true, 380, [some (.inr (.inr 0)), some (.inr (.inr 1)), some (.inr (.inr 120)), some (.inl x3)], [.inl (V 0 (x3 + 3).toNat), .inl (V 0 (x3 + 2).toNat), .inl (V 0 (x3 + 1).toNat), .inr (.inr 120), .inl s0], M0 L V b) := by
  have f0 : gX (M0 L V b) 0 1 (x3 + 1) = true := gx_of rfl g0
  have f1 : gX (M0 L V b) 0 1 (x3 + 2) = true := gx_of rfl g1
  have f2 : gX (M0 L V b) 0 1 (x3 + 3) = true := gx_of rfl g2
  have hG : (gX (M0 L V b) 0 1 (x3 + 1) && (gX (M0 L V b) 0 1 (x3 + 2) && (gX (M0 L V b) 0 1 (x3 + 3) && true))) = true := an f0 (an f1 (an f2 rfl))
  show some (gX (M0 L V b) 0 1 (x3 + 1) && (gX (M0 L V b) 0 1 (x3 + 2) && (gX (M0 L V b) 0 1 (x3 + 3) && true)), _) = _
  rw [hG]
  try rfl

theorem B0_383 (L : Nat) (V : Mv) (b : Bool) (x3 : Int) (s0 : Int) (s1 : Int) (g0 : in32 s0) (g1 : in32 s1) : nxs 1 0 383 [some (.inr (.inr 0)), some (.inr (.inr 1)), some (.inr (.inr 120)), some (.inl x3)] [.inl s1, .inl s0] (M0 L V b) = some (true, cond (decide (s0 = s1)) 1768 386, [some (.inr (.inr 0)), some (.inr (.inr 1)), some (.inr (.inr 120)), some (.inl x3)], [], M0 L V b) := by
  have f0 : (r32 s0 && r32 s1) = true := rr32_of g0 g1
  have hG : ((r32 s0 && r32 s1) && true) = true := an f0 rfl
  show some ((r32 s0 && r32 s1) && true, _) = _
  rw [hG]
  try rfl

theorem B0_386 (L : Nat) (V : Mv) (b : Bool) (x3 : Int)  : nxs 1 0 386 [some (.inr (.inr 0)), some (.inr (.inr 1)), some (.inr (.inr 120)), some (.inl x3)] [] (M0 L V b) = some (true, 387, [some (.inr (.inr 0)), some (.inr (.inr 1)), some (.inr (.inr 120)), some (.inl x3)], [.inl 0], M0 L V b) := by
  rfl

theorem B0_388 (L : Nat) (V : Mv) (b : Bool) (x3 : Int) (g0 : 0 ≤ x3 + 1 ∧ x3 + 1 < (L : Int)) (g1 : 0 ≤ x3 + 2 ∧ x3 + 2 < (L : Int)) (g2 : 0 ≤ x3 + 3 ∧ x3 + 3 < (L : Int)) : nxs 16 0 388 [some (.inr (.inr 0)), some (.inr (.inr 1)), some (.inr (.inr 120)), some (.inl x3)] [] (M0 L V b) = some (true, 404, [some (.inr (.inr 0)), some (.inr (.inr 1)), some (.inr (.inr 120)), some (.inl x3)], [.inl (V 0 (x3 + 3).toNat), .inl (V 0 (x3 + 2).toNat), .inl (V 0 (x3 + 1).toNat), .inr (.inr 1)], M0 L V b) := by
  have f0 : gX (M0 L V b) 0 1 (x3 + 1) = true := gx_of rfl g0
  have f1 : gX (M0 L V b) 0 1 (x3 + 2) = true := gx_of rfl g1
  have f2 : gX (M0 L V b) 0 1 (x3 + 3) = true := gx_of rfl g2
  have hG : (gX (M0 L V b) 0 1 (x3 + 1) && (gX (M0 L V b) 0 1 (x3 + 2) && (gX (M0 L V b) 0 1 (x3 + 3) && true))) = true := an f0 (an f1 (an f2 rfl))
  show some (gX (M0 L V b) 0 1 (x3 + 1) && (gX (M0 L V b) 0 1 (x3 + 2) && (gX (M0 L V b) 0 1 (x3 + 3) && true)), _) = _
  rw [hG]
  try rfl

theorem B0_407 (L : Nat) (V : Mv) (b : Bool) (x3 : Int) (s0 : Int) (g0 : 0 ≤ x3 + 1 ∧ x3 + 1 < (L : Int)) (g1 : 0 ≤ x3 + 2 ∧ x3 + 2 < (L : Int)) (g2 : 0 ≤ x3 + 3 ∧ x3 + 3 < (L : Int)) : nxs 16 0 407 [some (.inr (.inr 0)), some (.inr (.inr 1)), some (.inr (.inr 120)), some (.inl x3)] [.inl s0] (M0 L V b) = some (true, 423, [some (.inr (.inr 0)), some (.inr (.inr 1)), some (.inr (.inr 120)), some (.inl x3)], [.inl (V 0 (x3 + 3).toNat), .inl (V 0 (x3 + 2).toNat), .inl (V 0 (x3 + 1).toNat), .inr (.inr 120), .inl s0], M0 L V b) := by
  have f0 : gX (M0 L V b) 0 1 (x3 + 1) = true := gx_of rfl g0
  have f1 : gX (M0 L V b) 0 1 (x3 + 2) = true := gx_of rfl g1
  have f2 : gX (M0 L V b) 0 1 (x3 + 3) = true := gx_of rfl g2
  have hG : (gX (M0 L V b) 0 1 (x3 + 1) && (gX (M0 L V b) 0 1 (x3 + 2) && (gX (M0 L V b) 0 1 (x3 + 3) && true))) = true := an f0 (an f1 (an f2 rfl))
  show some (gX (M0 L V b) 0 1 (x3 + 1) && (gX (M0 L V b) 0 1 (x3 + 2) && (gX (M0 L V b) 0 1 (x3 + 3) && true)), _) = _
  rw [hG]
  try rfl

theorem B0_426 (L : Nat) (V : Mv) (b : Bool) (x3 : Int) (s0 : Int) (s1 : Int) (g0 : in32 s0) (g1 : in32 s1) : nxs 1 0 426 [some (.inr (.inr 0)), some (.inr (.inr 1)), some (.inr (.inr 120)), some (.inl x3)] [.inl s1, .inl s0] (M0 L V b) = some (true, cond (decide (s0 = s1)) 1768 429, [some (.inr (.inr 0)), some (.inr (.inr 1)), some (.inr (.inr 120)), some (.inl x3)], [], M0 L V b) := by
  have f0 : (r32 s0 && r32 s1) = true := rr32_of g0 g1
  have hG : ((r32 s0 && r32 s1) && true) = true := an f0 rfl
  show some ((r32 s0 && r32 s1) && true, _) = _
  rw [hG]
  try rfl

theorem B0_429 (L : Nat) (V : Mv) (b : Bool) (x3 : Int)  : nxs 1 0 429 [some (.inr (.inr 0)), some (.inr (.inr 1)), some (.inr (.inr 120)), some (.inl x3)] [] (M0 L V b) = some (true, 430, [some (.inr (.inr 0)), some (.inr (.inr 1)), some (.inr (.inr 120)), some (.inl x3)], [.inl 0], M0 L V b) := by
  rfl

theorem B0_431 (L : Nat) (V : Mv) (b : Bool) (x3 : Int) (g0 : 0 ≤ x3 + 1 ∧ x3 + 1 < (L : Int)) (g1 : 0 ≤ x3 + 2 ∧ x3 + 2 < (L : Int)) (g2 : 0 ≤ x3 + 3 ∧ x3 + 3 < (L : Int)) : nxs 16 0 431 [some (.inr (.inr 0)), some (.inr (.inr 1)), some (.inr (.inr 120)), some (.inl x3)] [] (M0 L V b) = some (true, 447, [some (.inr (.inr 0)), some (.inr (.inr 1)), some (.inr (.inr 120)), some (.inl x3)], [.inl (V 0 (x3 + 3).toNat), .inl (V 0 (x3 + 2).toNat), .inl (V 0 (x3 + 1).toNat), .inr (.inr 1)], M0 L V b) := by
  have f0 : gX (M0 L V b) 0 1 (x3 + 1) = true := gx_of rfl g0
  have f1 : gX (M0 L V b) 0 1 (x3 + 2) = true := gx_of rfl g1
  have f2 : gX (M0 L V b) 0 1 (x3 + 3) = true := gx_of rfl g2
  have hG : (gX (M0 L V b) 0 1 (x3 + 1) && (gX (M0 L V b) 0 1 (x3 + 2) && (gX (M0 L V b) 0 1 (x3 + 3) && true))) = true := an f0 (an f1 (an f2 rfl))
  show some (gX (M0 L V b) 0 1 (x3 + 1) && (gX (M0 L V b) 0 1 (x3 + 2) && (gX (M0 L V b) 0 1 (x3 + 3) && true)), _) = _
  rw [hG]
  try rfl

theorem B0_450 (L : Nat) (V : Mv) (b : Bool) (x3 : Int) (s0 : Int) (g0 : 0 ≤ x3 + 1 ∧ x3 + 1 < (L : Int)) (g1 : 0 ≤ x3 + 2 ∧ x3 + 2 < (L : Int)) (g2 : 0 ≤ x3 + 3 ∧ x3 + 3 < (L : Int)) : nxs 16 0 450 [some (.inr (.inr 0)), some (.inr (.inr 1)), some (.inr (.inr 120)), some (.inl x3)] [.inl s0] (M0 L V b) = some (true, 466, [some (.inr (.inr 0)), some (.inr (.inr 1)), some (.inr (.inr 120)), some (.inl x3)], [.inl (V 0 (x3 + 3).toNat), .inl (V 0 (x3 + 2).toNat), .inl (V 0 (x3 + 1).toNat), .inr (.inr 120), .inl s0], M0 L V b) := by
  have f0 : gX (M0 L V b) 0 1 (x3 + 1) = true := gx_of rfl g0
  have f1 : gX (M0 L V b) 0 1 (x3 + 2) = true := gx_of rfl g1
  have f2 : gX (M0 L V b) 0 1 (x3 + 3) = true := gx_of rfl g2
  have hG : (gX (M0 L V b) 0 1 (x3 + 1) && (gX (M0 L V b) 0 1 (x3 + 2) && (gX (M0 L V b) 0 1 (x3 + 3) && true))) = true := an f0 (an f1 (an f2 rfl))
  show some (gX (M0 L V b) 0 1 (x3 + 1) && (gX (M0 L V b) 0 1 (x3 + 2) && (gX (M0 L V b) 0 1 (x3 + 3) && true)), _) = _
  rw [hG]
  try rfl

theorem B0_469 (L : Nat) (V : Mv) (b : Bool) (x3 : Int) (s0 : Int) (s1 : Int) (g0 : in32 s0) (g1 : in32 s1) : nxs 1 0 469 [some (.inr (.inr 0)), some (.inr (.inr 1)), some (.inr (.inr 120)), some (.inl x3)] [.inl s1, .inl s0] (M0 L V b) = some (true, cond (decide (s0 = s1)) 1768 472, [some (.inr (.inr 0)), some (.inr (.inr 1)), some (.inr (.inr 120)), some (.inl x3)], [], M0 L V b) := by
  have f0 : (r32 s0 && r32 s1) = true := rr32_of g0 g1
  have hG : ((r32 s0 && r32 s1) && true) = true := an f0 rfl
  show some ((r32 s0 && r32 s1) && true, _) = _
  rw [hG]
  try rfl

theorem B0_472 (L : Nat) (V : Mv) (b : Bool) (x3 : Int)  : nxs 1 0 472 [some (.inr (.inr 0)), some (.inr (.inr 1)), some (.inr (.inr 120)), some (.inl x3)] [] (M0 L V b) = some (true, 473, [some (.inr (.inr 0)), some (.inr (.inr 1)), some (.inr (.inr 120)), some (.inl x3)], [.inl 0], M0 L V b) := by
  rfl

theorem B0_474 (L : Nat) (V : Mv) (b : Bool) (x3 : Int) (g0 : 0 ≤ x3 + 1 ∧ x3 + 1 < (L : Int)) : nxs 6 0 474 [some (.inr (.inr 0)), some (.inr (.inr 1)), some (.inr (.inr 120)), some (.inl x3)] [] (M0 L V b) = some (true, 480, [some (.inr (.inr 0)), some (.inr (.inr 1)), some (.inr (.inr 120)), some (.inl x3)], [.inl (V 0 (x3 + 1).toNat), .inr (.inr 1)], M0 L V b) := by
  have f0 : gX (M0 L V b) 0 1 (x3 + 1) = true := gx_of rfl g0
  have hG : (gX (M0 L V b) 0 1 (x3 + 1) && true) = true := an f0 rfl
  show some (gX (M0 L V b) 0 1 (x3 + 1) && true, _) = _
  rw [hG]
  try rfl

theorem B0_483 (L : Nat) (V : Mv) (b : Bool) (x3 : Int) (s0 : Int) (g0 : 0 ≤ x3 + 1 ∧ x3 + 1 < (L : Int)) : nxs 6 0 483 [some (.inr (.inr 0)), some (.inr (.inr 1)), some (.inr (.inr 120)), some (.inl x3)] [.inl s0] (M0 L V b) = some (true, 489, [some (.inr (.inr 0)), some (.inr (.inr 1)), some (.inr (.inr 120)), some (.inl x3)], [.inl (V 0 (x3 + 1).toNat), .inr (.inr 120), .inl s0], M0 L V b) := by
  have f0 : gX (M0 L V b) 0 1 (x3 + 1) = true := gx_of rfl g0
  have hG : (gX (M0 L V b) 0 1 (x3 + 1) && true) = true := an f0 rfl
  show some (gX (M0 L V b) 0 1 (x3 + 1) && true, _) = _
  rw [hG]
  try rfl

theorem B0_492 (L : Nat) (V : Mv) (b : Bool) (x3 : Int) (s0 : Int) (s1 : Int) (g0 : in32 s0) (g1 : in32 s1) : nxs 1 0 492 [some (.inr (.inr 0)), some (.inr (.inr 1)), some (.inr (.inr 120)), some (.inl x3)] [.inl s1, .inl s0] (M0 L V b) = some (true, cond (decide (s0 = s1)) 1768 495, [some (.inr (.inr 0)), some (.inr (.inr 1)), some (.inr (.inr 120)), some (.inl x3)], [], M0 L V b) := by
  have f0 : (r32 s0 && r32 s1) = true := rr32_of g0 g1
  have hG : ((r32 s0 && r32 s1) && true) = true := an f0 rfl
  show some ((r32 s0 && r32 s1) && true, _) = _
  rw [hG]
  try rfl

theorem B0_495 (L : Nat) (V : Mv) (b : Bool) (x3 : Int)  : nxs 1 0 495 [some (.inr (.inr 0)), some (.inr (.inr 1)), some (.inr (.inr 120)), some (.inl x3)] [] (M0 L V b) = some (true, 496, [some (.inr (.inr 0)), some (.inr (.inr 1)), some (.inr (.inr 120)), some (.inl x3)], [.inl 0], M0 L V b) := by
  rfl

theorem B0_497 (L : Nat) (V : Mv) (b : Bool) (x3 : Int) (g0 : 0 ≤ x3 + 1 ∧ x3 + 1 < (L : Int)) (g1 : 0 ≤ x3 + 2 ∧ x3 + 2 < (L : Int)) (g2 : in32 (V 0 (x3 + 2).toNat)) : nxs 12 0 497 [some (.inr (.inr 0)), some (.inr (.inr 1)), some (.inr (.inr 120)), some (.inl x3)] [] (M0 L V b) = some (true, cond (decide (V 0 (x3 + 2).toNat = 0)) 515 511, [some (.inr (.inr 0)), some (.inr (.inr 1)), some (.inr (.inr 120)), some (.inl x3)], [.inl (V 0 (x3 + 1).toNat), .inr (.inr 1)], M0 L V b) := by
  have f0 : gX (M0 L V b) 0 1 (x3 + 1) = true := gx_of rfl g0
  have f1 : gX (M0 L V b) 0 1 (x3 + 2) = true := gx_of rfl g1
  have f2 : r32 (V 0 (x3 + 2).toNat) = true := r32_of g2
  have hG : (gX (M0 L V b) 0 1 (x3 + 1) && (gX (M0 L V b) 0 1 (x3 + 2) && (r32 (V 0 (x3 + 2).toNat) && true))) = true := an f0 (an f1 (an f2 rfl))
  show some (gX (M0 L V b) 0 1 (x3 + 1) && (gX (M0 L V b) 0 1 (x3 + 2) && (r32 (V 0 (x3 + 2).toNat) && true)), _) = _
  rw [hG]
  try rfl

theorem B0_511 (L : Nat) (V : Mv) (b : Bool) (x3 : Int) (s1 : Int)  : nxs 2 0 511 [some (.inr (.inr 0)), some (.inr (.inr 1)), some (.inr (.inr 120)), some (.inl x3)] [.inl s1, .inr (.inr 1)] (M0 L V b) = some (true, 516, [some (.inr (.inr 0)), some (.inr (.inr 1)), some (.inr (.inr 120)), some (.inl x3)], [.inl 1, .inl s1, .inr (.inr 1)], M0 L V b) := by
  rfl

theorem B0_515 (L : Nat) (V : Mv) (b : Bool) (x3 : Int) (s1 : Int)  : nxs 1 0 515 [some (.inr (.inr 0)), some (.inr (.inr 1)), some (.inr (.inr 120)), some (.inl x3)] [.inl s1, .inr (.inr 1)] (M0 L V b) = some (true, 516, [some (.inr (.inr 0)), some (.inr (.inr 1)), some (.inr (.inr 120)), some (.inl x3)], [.inl 0, .inl s1, .inr (.inr 1)], M0 L V b) := by
  rfl

theorem B0_519 (L : Nat) (V : Mv) (b : Bool) (x3 : Int) (s0 : Int) (g0 : 0 ≤ x3 + 1 ∧ x3 + 1 < (L : Int)) (g1 : 0 ≤ x3 + 2 ∧ x3 + 2 < (L : Int)) (g2 : in32 (V 0 (x3 + 2).toNat)) : nxs 12 0 519 [some (.inr (.inr 0)), some (.inr (.inr 1)), some (.inr (.inr 120)), some (.inl x3)] [.inl s0] (M0 L V b) = some (true, cond (decide (V 0 (x3 + 2).toNat = 0)) 537 533, [some (.inr (.inr 0)), some (.inr (.inr 1)), some (.inr (.inr 120)), some (.inl x3)], [.inl (V 0 (x3 + 1).toNat), .inr (.inr 120), .inl s0], M0 L V b) := by
  have f0 : gX (M0 L V b) 0 1 (x3 + 1) = true := gx_of rfl g0
  have f1 : gX (M0 L V b) 0 1 (x3 + 2) = true := gx_of rfl g1
  have f2 : r32 (V 0 (x3 + 2).toNat) = true := r32_of g2
  have hG : (gX (M0 L V b) 0 1 (x3 + 1) && (gX (M0 L V b) 0 1 (x3 + 2) && (r32 (V 0 (x3 + 2).toNat) && true))) = true := an f0 (an f1 (an f2 rfl))
  show some (gX (M0 L V b) 0 1 (x3 + 1) && (gX (M0 L V b) 0 1 (x3 + 2) && (r32 (V 0 (x3 + 2).toNat) && true)), _) = _
  rw [hG]
  try rfl

theorem B0_533 (L : Nat) (V : Mv) (b : Bool) (x3 : Int) (s0 : Int) (s2 : Int)  : nxs 2 0 533 [some (.inr (.inr 0)), some (.inr (.inr 1)), some (.inr (.inr 120)), some (.inl x3)] [.inl s2, .inr (.inr 120), .inl s0] (M0 L V b) = some (true, 538, [some (.inr (.inr 0)), some (.inr (.inr 1)), some (.inr (.inr 120)), some (.inl x3)], [.inl 1, .inl s2, .inr (.inr 120), .inl s0], M0 L V b) := by
  rfl

theorem B0_537 (L : Nat) (V : Mv) (b : Bool) (x3 : Int) (s0 : Int) (s2 : Int)  : nxs 1 0 537 [some (.inr (.inr 0)), some (.inr (.inr 1)), some (.inr (.inr 120)), some (.inl x3)] [.inl s2, .inr (.inr 120), .inl s0] (M0 L V b) = some (true, 538, [some (.inr (.inr 0)), some (.inr (.inr 1)), some (.inr (.inr 120)), some (.inl x3)], [.inl 0, .inl s2, .inr (.inr 120), .inl s0], M0 L V b) := by
  rfl

theorem B0_541 (L : Nat) (V : Mv) (b : Bool) (x3 : Int) (s0 : Int) (s1 : Int) (g0 : in32 s0) (g1 : in32 s1) : nxs 1 0 541 [some (.inr (.inr 0)), some (.inr (.inr 1)), some (.inr (.inr 120)), some (.inl x3)] [.inl s1, .inl s0] (M0 L V b) = some (true, cond (decide (s0 = s1)) 1768 544, [some (.inr (.inr 0)), some (.inr (.inr 1)), some (.inr (.inr 120)), some (.inl x3)], [], M0 L V b) := by
  have f0 : (r32 s0 && r32 s1) = true := rr32_of g0 g1
  have hG : ((r32 s0 && r32 s1) && true) = true := an f0 rfl
  show some ((r32 s0 && r32 s1) && true, _) = _
  rw [hG]
  try rfl

theorem B0_544 (L : Nat) (V : Mv) (b : Bool) (x3 : Int)  : nxs 1 0 544 [some (.inr (.inr 0)), some (.inr (.inr 1)), some (.inr (.inr 120)), some (.inl x3)] [] (M0 L V b) = some (true, 545, [some (.inr (.inr 0)), some (.inr (.inr 1)), some (.inr (.inr 120)), some (.inl x3)], [.inl 0], M0 L V b) := by
  rfl

theorem B0_546 (L : Nat) (V : Mv) (b : Bool) (x3 : Int) (g0 : 0 ≤ x3 + 1 ∧ x3 + 1 < (L : Int)) (g1 : 0 ≤ x3 + 2 ∧ x3 + 2 < (L : Int)) : nxs 11 0 546 [some (.inr (.inr 0)), some (.inr (.inr 1)), some (.inr (.inr 120)), some (.inl x3)] [] (M0 L V b) = some (true, 557, [some (.inr (.inr 0)), some (.inr (.inr 1)), some (.inr (.inr 120)), some (.inl x3)], [.inl (V 0 (x3 + 2).toNat), .inl (V 0 (x3 + 1).toNat), .inr (.inr 1)], M0 L V b) := by
  have f0 : gX (M0 L V b) 0 1 (x3 + 1) = true := gx_of rfl g0
  have f1 : gX (M0 L V b) 0 1 (x3 + 2) = true := gx_of rfl g1
  have hG : (gX (M0 L V b) 0 1 (x3 + 1) && (gX (M0 L V b) 0 1 (x3 + 2) && true)) = true := an f0 (an f1 rfl)
  show some (gX (M0 L V b) 0 1 (x3 + 1) && (gX (M0 L V b) 0 1 (x3 + 2) && true), _) = _
  rw [hG]
  try rfl

theorem B0_560 (L : Nat) (V : Mv) (b : Bool) (x3 : Int) (s0 : Int) (g0 : 0 ≤ x3 + 1 ∧ x3 + 1 < (L : Int)) (g1 : 0 ≤ x3 + 2 ∧ x3 + 2 < (L : Int)) : nxs 11 0 560 [some (.inr (.inr 0)), some (.inr (.inr 1)), some (.inr (.inr 120)), some (.inl x3)] [.inl s0] (M0 L V b) = some (true, 571, [some (.inr (.inr 0)), some (.inr (.inr 1)), some (.inr (.inr 120)), some (.inl x3)], [.inl (V 0 (x3 + 2).toNat), .inl (V 0 (x3 + 1).toNat), .inr (.inr 120), .inl s0], M0 L V b) := by
  have f0 : gX (M0 L V b) 0 1 (x3 + 1) = true := gx_of rfl g0
  have f1 : gX (M0 L V b) 0 1 (x3 + 2) = true := gx_of rfl g1
  have hG : (gX (M0 L V b) 0 1 (x3 + 1) && (gX (M0 L V b) 0 1 (x3 + 2) && true)) = true := an f0 (an f1 rfl)
  show some (gX (M0 L V b) 0 1 (x3 + 1) && (gX (M0 L V b) 0 1 (x3 + 2) && true), _) = _
  rw [hG]
  try rfl

theorem B0_574 (L : Nat) (V : Mv) (b : Bool) (x3 : Int) (s0 : Int) (s1 : Int) (g0 : in32 s0) (g1 : in32 s1) : nxs 1 0 574 [some (.inr (.inr 0)), some (.inr (.inr 1)), some (.inr (.inr 120)), some (.inl x3)] [.inl s1, .inl s0] (M0 L V b) = some (true, cond (decide (s0 = s1)) 1768 577, [some (.inr (.inr 0)), some (.inr (.inr 1)), some (.inr (.inr 120)), some (.inl x3)], [], M0 L V b) := by
  have f0 : (r32 s0 && r32 s1) = true := rr32_of g0 g1
  have hG : ((r32 s0 && r32 s1) && true) = true := an f0 rfl
  show some ((r32 s0 && r32 s1) && true, _) = _
  rw [hG]
  try rfl

theorem B0_577 (L : Nat) (V : Mv) (b : Bool) (x3 : Int)  : nxs 1 0 577 [some (.inr (.inr 0)), some (.inr (.inr 1)), some (.inr (.inr 120)), some (.inl x3)] [] (M0 L V b) = some (true, 578, [some (.inr (.inr 0)), some (.inr (.inr 1)), some (.inr (.inr 120)), some (.inl x3)], [.inl 0], M0 L V b) := by
  rfl

theorem B0_579 (L : Nat) (V : Mv) (b : Bool) (x3 : Int) (g0 : 0 ≤ x3 + 1 ∧ x3 + 1 < (L : Int)) (g1 : 0 ≤ x3 + 2 ∧ x3 + 2 < (L : Int)) : nxs 11 0 579 [some (.inr (.inr 0)), some (.inr (.inr 1)), some (.inr (.inr 120)), some (.inl x3)] [] (M0 L V b) = some (true, 590, [some (.inr (.inr 0)), some (.inr (.inr 1)), some (.inr (.inr 120)), some (.inl x3)], [.inl (V 0 (x3 + 2).toNat), .inl (V 0 (x3 + 1).toNat), .inr (.inr 1)], M0 L V b) := by
  have f0 : gX (M0 L V b) 0 1 (x3 + 1) = true := gx_of rfl g0
  have f1 : gX (M0 L V b) 0 1 (x3 + 2) = true := gx_of rfl g1
  have hG : (gX (M0 L V b) 0 1 (x3 + 1) && (gX (M0 L V b) 0 1 (x3 + 2) && true)) = true := an f0 (an f1 rfl)
  show some (gX (M0 L V b) 0 1 (x3 + 1) && (gX (M0 L V b) 0 1 (x3 + 2) && true), _) = _
  rw [hG]
  try rfl

theorem B0_593 (L : Nat) (V : Mv) (b : Bool) (x3 : Int) (s0 : Int) (g0 : 0 ≤ x3 + 1 ∧ x3 + 1 < (L : Int)) (g1 : 0 ≤ x3 + 2 ∧ x3 + 2 < (L : Int)) : nxs 11 0 593 [some (.inr (.inr 0)), some (.inr (.inr 1)), some (.inr (.inr 120)), some (.inl x3)] [.inl s0] (M0 L V b) = some (true, 604, [some (.inr (.inr 0)), some (.inr (.inr 1)), some (.inr (.inr 120)), some (.inl x3)], [.inl (V 0 (x3 + 2).toNat), .inl (V 0 (x3 + 1).toNat), .inr (.inr 120), .inl s0], M0 L V b) := by
  have f0 : gX (M0 L V b) 0 1 (x3 + 1) = true := gx_of rfl g0
  have f1 : gX (M0 L V b) 0 1 (x3 + 2) = true := gx_of rfl g1
  have hG : (gX (M0 L V b) 0 1 (x3 + 1) && (gX (M0 L V b) 0 1 (x3 + 2) && true)) = true := an f0 (an f1 rfl)
  show some (gX (M0 L V b) 0 1 (x3 + 1) && (gX (M0 L V b) 0 1 (x3 + 2) && true), _) = _
  rw [hG]
  try rfl

theorem B0_607 (L : Nat) (V : Mv) (b : Bool) (x3 : Int) (s0 : Int) (s1 : Int) (g0 : in32 s0) (g1 : in32 s1) : nxs 1 0 607 [some (.inr (.inr 0)), some (.inr (.inr 1)), some (.inr (.inr 120)), some (.inl x3)] [.inl s1, .inl s0] (M0 L V b) = some (true, cond (decide (s0 = s1)) 1768 610, [some (.inr (.inr 0)), some (.inr (.inr 1)), some (.inr (.inr 120)), some (.inl x3)], [], M0 L V b) := by
  have f0 : (r32 s0 && r32 s1) = true := rr32_of g0 g1
  have hG : ((r32 s0 && r32 s1) && true) = true := an f0 rfl
  show some ((r32 s0 && r32 s1) && true, _) = _
  rw [hG]
  try rfl

theorem B0_610 (L : Nat) (V : Mv) (b : Bool) (x3 : Int)  : nxs 1 0 610 [some (.inr (.inr 0)), some (.inr (.inr 1)), some (.inr (.inr 120)), some (.inl x3)] [] (M0 L V b) = some (true, 611, [some (.inr (.inr 0)), some (.inr (.inr 1)), some (.inr (.inr 120)), some (.inl x3)], [.inl 0], M0 L V b) := by
  rfl

theorem B0_612 (L : Nat) (V : Mv) (b : Bool) (x3 : Int) (g0 : 0 ≤ x3 + 1 ∧ x3 + 1 < (L : Int)) (g1 : 0 ≤ x3 + 2 ∧ x3 + 2 < (L : Int)) : nxs 11 0 612 [some (.inr (.inr 0)), some (.inr (.inr 1)), some (.inr (.inr 120)), some (.inl x3)] [] (M0 L V b) = some (true, 623, [some (.inr (.inr 0)), some (.inr (.inr 1)), some (.inr (.inr 120)), some (.inl x3)], [.inl (V 0 (x3 + 2).toNat), .inl (V 0 (x3 + 1).toNat), .inr (.inr 1)], M0 L V b) := by
  have f0 : gX (M0 L V b) 0 1 (x3 + 1) = true := gx_of rfl g0
  have f1 : gX (M0 L V b) 0 1 (x3 + 2) = true := gx_of rfl g1
  have hG : (gX (M0 L V b) 0 1 (x3 + 1) && (gX (M0 L V b) 0 1 (x3 + 2) && true)) = true := an f0 (an f1 rfl)
  show some (gX (M0 L V b) 0 1 (x3 + 1) && (gX (M0 L V b) 0 1 (x3 + 2) && true), _) = _
  rw [hG]
  try rfl

theorem B0_626 (L : Nat) (V : Mv) (b : Bool) (x3 : Int) (s0 : Int) (g0 : 0 ≤ x3 + 1 ∧ x3 + 1 < (L : Int)) (g1 : 0 ≤ x3 + 2 ∧ x3 + 2 < (L : Int)) : nxs 11 0 626 [some (.inr (.inr 0)), some (.inr (.inr 1)), some (.inr (.inr 120)), some (.inl x3)] [.inr (.inl s0)] (M0 L V b) = some (true, 637, [some (.inr (.inr 0)), some (.inr (.inr 1)), some (.inr (.inr 120)), some (.inl x3)], [.inl (V 0 (x3 + 2).toNat), .inl (V 0 (x3 + 1).toNat), .inr (.inr 120), .inr (.inl s0)], M0 L V b) := by
  have f0 : gX (M0 L V b) 0 1 (x3 + 1) = true := gx_of rfl g0
  have f1 : gX (M0 L V b) 0 1 (x3 + 2) = true := gx_of rfl g1
  have hG : (gX (M0 L V b) 0 1 (x3 + 1) && (gX (M0 L V b) 0 1 (x3 + 2) && true)) = true := an f0 (an f1 rfl)
  show some (gX (M0 L V b) 0 1 (x3 + 1) && (gX (M0 L V b) 0 1 (x3 + 2) && true), _) = _
  rw [hG]
  try rfl

theorem B0_640 (L : Nat) (V : Mv) (b : Bool) (x3 : Int) (s0 : Int) (s1 : Int) (g0 : in64 s0) (g1 : in64 s1) (g2 : in32 (cmpI s0 s1)) : nxs 2 0 640 [some (.inr (.inr 0)), some (.inr (.inr 1)), some (.inr (.inr 120)), some (.inl x3)] [.inr (.inl s1), .inr (.inl s0)] (M0 L V b) = some (true, cond (decide (cmpI s0 s1 = 0)) 1768 644, [some (.inr (.inr 0)), some (.inr (.inr 1)), some (.inr (.inr 120)), some (.inl x3)], [], M0 L V b) := by
  have f0 : (r64 s0 && r64 s1) = true := rr64_of g0 g1
  have f1 : r32 (cmpI s0 s1) = true := r32_of g2
  have hG : ((r64 s0 && r64 s1) && (r32 (cmpI s0 s1) && true)) = true := an f0 (an f1 rfl)
  show some ((r64 s0 && r64 s1) && (r32 (cmpI s0 s1) && true), _) = _
  rw [hG]
  try rfl

theorem B0_644 (L : Nat) (V : Mv) (b : Bool) (x3 : Int)  : nxs 1 0 644 [some (.inr (.inr 0)), some (.inr (.inr 1)), some (.inr (.inr 120)), some (.inl x3)] [] (M0 L V b) = some (true, 645, [some (.inr (.inr 0)), some (.inr (.inr 1)), some (.inr (.inr 120)), some (.inl x3)], [.inl 0], M0 L V b) := by
  rfl

theorem B0_646 (L : Nat) (V : Mv) (b : Bool) (x3 : Int) (g0 : 0 ≤ x3 + 1 ∧ x3 + 1 < (L : Int)) (g1 : 0 ≤ x3 + 2 ∧ x3 + 2 < (L : Int)) (g2 : 0 ≤ x3 + 3 ∧ x3 + 3 < (L : Int)) (g3 : in32 (V 0 (x3 + 3).toNat)) : nxs 17 0 646 [some (.inr (.inr 0)), some (.inr (.inr 1)), some (.inr (.inr 120)), some (.inl x3)] [] (M0 L V b) = some (true, cond (decide (V 0 (x3 + 3).toNat = 0)) 669 665, [some (.inr (.inr 0)), some (.inr (.inr 1)), some (.inr (.inr 120)), some (.inl x3)], [.inl (V 0 (x3 + 2).toNat), .inl (V 0 (x3 + 1).toNat), .inr (.inr 1)], M0 L V b) := by
  have f0 : gX (M0 L V b) 0 1 (x3 + 1) = true := gx_of rfl g0
  have f1 : gX (M0 L V b) 0 1 (x3 + 2) = true := gx_of rfl g1
  have f2 : gX (M0 L V b) 0 1 (x3 + 3) = true := gx_of rfl g2
  have f3 : r32 (V 0 (x3 + 3).toNat) = true := r32_of g3
  have hG : (gX (M0 L V b) 0 1 (x3 + 1) && (gX (M0 L V b) 0 1 (x3 + 2) && (gX (M0 L V b) 0 1 (x3 + 3) && (r32 (V 0 (x3 + 3).toNat) && true)))) = true := an f0 (an f1 (an f2 (an f3 rfl)))
  show some (gX (M0 L V b) 0 1 (x3 + 1) && (gX (M0 L V b) 0 1 (x3 + 2) && (gX (M0 L V b) 0 1 (x3 + 3) && (r32 (V 0 (x3 + 3).toNat) && true))), _) = _
  rw [hG]
  try rfl

theorem B0_665 (L : Nat) (V : Mv) (b : Bool) (x3 : Int) (s1 : Int) (s2 : Int)  : nxs 2 0 665 [some (.inr (.inr 0)), some (.inr (.inr 1)), some (.inr (.inr 120)), some (.inl x3)] [.inl s2, .inl s1, .inr (.inr 1)] (M0 L V b) = some (true, 670, [some (.inr (.inr 0)), some (.inr (.inr 1)), some (.inr (.inr 120)), some (.inl x3)], [.inl 1, .inl s2, .inl s1, .inr (.inr 1)], M0 L V b) := by
  rfl

theorem B0_669 (L : Nat) (V : Mv) (b : Bool) (x3 : Int) (s1 : Int) (s2 : Int)  : nxs 1 0 669 [some (.inr (.inr 0)), some (.inr (.inr 1)), some (.inr (.inr 120)), some (.inl x3)] [.inl s2, .inl s1, .inr (.inr 1)] (M0 L V b) = some (true, 670, [some (.inr (.inr 0)), some (.inr (.inr 1)), some (.inr (.inr 120)), some (.inl x3)], [.inl 0, .inl s2, .inl s1, .inr (.inr 1)], M0 L V b) := by
  rfl

theorem B0_673 (L : Nat) (V : Mv) (b : Bool) (x3 : Int) (s0 : Int) (g0 : 0 ≤ x3 + 1 ∧ x3 + 1 < (L : Int)) (g1 : 0 ≤ x3 + 2 ∧ x3 + 2 < (L : Int)) (g2 : 0 ≤ x3 + 3 ∧ x3 + 3 < (L : Int)) (g3 : in32 (V 0 (x3 + 3).toNat)) : nxs 17 0 673 [some (.inr (.inr 0)), some (.inr (.inr 1)), some (.inr (.inr 120)), some (.inl x3)] [.inr (.inl s0)] (M0 L V b) = some (true, cond (decide (V 0 (x3 + 3).toNat = 0)) 696 692, [some (.inr (.inr 0)), some (.inr (.inr 1)), some (.inr (.inr 120)), some (.inl x3)], [.inl (V 0 (x3 + 2).toNat), .inl (V 0 (x3 + 1).toNat), .inr (.inr 120), .inr (.inl s0)], M0 L V b) := by
  have f0 : gX (M0 L V b) 0 1 (x3 + 1) = true := gx_of rfl g0
  have f1 : gX (M0 L V b) 0 1 (x3 + 2) = true := gx_of rfl g1
  have f2 : gX (M0 L V b) 0 1 (x3 + 3) = true := gx_of rfl g2
  have f3 : r32 (V 0 (x3 + 3).toNat) = true := r32_of g3
  have hG : (gX (M0 L V b) 0 1 (x3 + 1) && (gX (M0 L V b) 0 1 (x3 + 2) && (gX (M0 L V b) 0 1 (x3 + 3) && (r32 (V 0 (x3 + 3).toNat) && true)))) = true := an f0 (an f1 (an f2 (an f3 rfl)))
  show some (gX (M0 L V b) 0 1 (x3 + 1) && (gX (M0 L V b) 0 1 (x3 + 2) && (gX (M0 L V b) 0 1 (x3 + 3) && (r32 (V 0 (x3 + 3).toNat) && true))), _) = _
  rw [hG]
  try rfl

theorem B0_692 (L : Nat) (V : Mv) (b : Bool) (x3 : Int) (s0 : Int) (s2 : Int) (s3 : Int)  : nxs 2 0 692 [some (.inr (.inr 0)), some (.inr (.inr 1)), some (.inr (.inr 120)), some (.inl x3)] [.inl s3, .inl s2, .inr (.inr 120), .inr (.inl s0)] (M0 L V b) = some (true, 697, [some (.inr (.inr 0)), some (.inr (.inr 1)), some (.inr (.inr 120)), some (.inl x3)], [.inl 1, .inl s3, .inl s2, .inr (.inr 120), .inr (.inl s0)], M0 L V b) := by
  rfl

theorem B0_696 (L : Nat) (V : Mv) (b : Bool) (x3 : Int) (s0 : Int) (s2 : Int) (s3 : Int)  : nxs 1 0 696 [some (.inr (.inr 0)), some (.inr (.inr 1)), some (.inr (.inr 120)), some (.inl x3)] [.inl s3, .inl s2, .inr (.inr 120), .inr (.inl s0)] (M0 L V b) = some (true, 697, [some (.inr (.inr 0)), some (.inr (.inr 1)), some (.inr (.inr 120)), some (.inl x3)], [.inl 0, .inl s3, .inl s2, .inr (.inr 120), .inr (.inl s0)], M0 L V b) := by
  rfl

theorem B0_700 (L : Nat) (V : Mv) (b : Bool) (x3 : Int) (s0 : Int) (s1 : Int) (g0 : in64 s0) (g1 : in64 s1) (g2 : in32 (cmpI s0 s1)) : nxs 2 0 700 [some (.inr (.inr 0)), some (.inr (.inr 1)), some (.inr (.inr 120)), some (.inl x3)] [.inr (.inl s1), .inr (.inl s0)] (M0 L V b) = some (true, cond (decide (cmpI s0 s1 = 0)) 1768 704, [some (.inr (.inr 0)), some (.inr (.inr 1)), some (.inr (.inr 120)), some (.inl x3)], [], M0 L V b) := by
  have f0 : (r64 s0 && r64 s1) = true := rr64_of g0 g1
  have f1 : r32 (cmpI s0 s1) = true := r32_of g2
  have hG : ((r64 s0 && r64 s1) && (r32 (cmpI s0 s1) && true)) = true := an f0 (an f1 rfl)
  show some ((r64 s0 && r64 s1) && (r32 (cmpI s0 s1) && true), _) = _
  rw [hG]
  try rfl

theorem B0_704 (L : Nat) (V : Mv) (b : Bool) (x3 : Int)  : nxs 1 0 704 [some (.inr (.inr 0)), some (.inr (.inr 1)), some (.inr (.inr 120)), some (.inl x3)] [] (M0 L V b) = some (true, 705, [some (.inr (.inr 0)), some (.inr (.inr 1)), some (.inr (.inr 120)), some (.inl x3)], [.inl 0], M0 L V b) := by
  rfl

theorem B0_706 (L : Nat) (V : Mv) (b : Bool) (x3 : Int) (g0 : 0 ≤ x3 + 1 ∧ x3 + 1 < (L : Int)) (g1 : 0 ≤ x3 + 2 ∧ x3 + 2 < (L : Int)) (g2 : in32 (V 0 (x3 + 2).toNat)) : nxs 12 0 706 [some (.inr (.inr 0)), some (.inr (.inr 1)), some (.inr (.inr 120)), some (.inl x3)] [] (M0 L V b) = some (true, cond (decide (V 0 (x3 + 2).toNat = 0)) 724 720, [some (.inr (.inr 0)), some (.inr (.inr 1)), some (.inr (.inr 120)), some (.inl x3)], [.inl (V 0 (x3 + 1).toNat), .inr (.inr 1)], M0 L V b) := by
  have f0 : gX (M0 L V b) 0 1 (x3 + 1) = true := gx_of rfl g0
  have f1 : gX (M0 L V b) 0 1 (x3 + 2) = true := gx_of rfl g1
  have f2 : r32 (V 0 (x3 + 2).toNat) = true := r32_of g2
  have hG : (gX (M0 L V b) 0 1 (x3 + 1) && (gX (M0 L V b) 0 1 (x3 + 2) && (r32 (V 0 (x3 + 2).toNat) && true))) = true := an f0 (an f1 (an f2 rfl))
  show some (gX (M0 L V b) 0 1 (x3 + 1) && (gX (M0 L V b) 0 1 (x3 + 2) && (r32 (V 0 (x3 + 2).toNat) && true)), _) = _
  rw [hG]
  try rfl

theorem B0_720 (L : Nat) (V : Mv) (b : Bool) (x3 : Int) (s1 : Int)  : nxs 2 0 720 [some (.inr (.inr 0)), some (.inr (.inr 1)), some (.inr (.inr 120)), some (.inl x3)] [.inl s1, .inr (.inr 1)] (M0 L V b) = some (true, 725, [some (.inr (.inr 0)), some (.inr (.inr 1)), some (.inr (.inr 120)), some (.inl x3)], [.inl 1, .inl s1, .inr (.inr 1)], M0 L V b) := by
  rfl

theorem B0_724 (L : Nat) (V : Mv) (b : Bool) (x3 : Int) (s1 : Int)  : nxs 1 0 724 [some (.inr (.inr 0)), some (.inr (.inr 1)), some (.inr (.inr 120)), some (.inl x3)] [.inl s1, .inr (.inr 1)] (M0 L V b) = some (true, 725, [some (.inr (.inr 0)), some (.inr (.inr 1)), some (.inr (.inr 120)), some (.inl x3)], [.inl 0, .inl s1, .inr (.inr 1)], M0 L V b) := by
  rfl

theorem B0_728 (L : Nat) (V : Mv) (b : Bool) (x3 : Int) (s0 : Int) (g0 : 0 ≤ x3 + 1 ∧ x3 + 1 < (L : Int)) (g1 : 0 ≤ x3 + 2 ∧ x3 + 2 < (L : Int)) (g2 : in32 (V 0 (x3 + 2).toNat)) : nxs 12 0 728 [some (.inr (.inr 0)), some (.inr (.inr 1)), some (.inr (.inr 120)), some (.inl x3)] [.inr (.inl s0)] (M0 L V b) = some (true, cond (decide (V 0 (x3 + 2).toNat = 0)) 746 742, [some (.inr (.inr 0)), some (.inr (.inr 1)), some (.inr (.inr 120)), some (.inl x3)], [.inl (V 0 (x3 + 1).toNat), .inr (.inr 120), .inr (.inl s0)], M0 L V b) := by
  have f0 : gX (M0 L V b) 0 1 (x3 + 1) = true := gx_of rfl g0
  have f1 : gX (M0 L V b) 0 1 (x3 + 2) = true := gx_of rfl g1
  have f2 : r32 (V 0 (x3 + 2).toNat) = true := r32_of g2
  have hG : (gX (M0 L V b) 0 1 (x3 + 1) && (gX (M0 L V b) 0 1 (x3 + 2) && (r32 (V 0 (x3 + 2).toNat) && true))) = true := an f0 (an f1 (an f2 rfl))
  show some (gX (M0 L V b) 0 1 (x3 + 1) && (gX (M0 L V b) 0 1 (x3 + 2) && (r32 (V 0 (x3 + 2).toNat) && true)), _) = _
  rw [hG]
  try rfl

theorem B0_742 (L : Nat) (V : Mv) (b : Bool) (x3 : Int) (s0 : Int) (s2 : Int)  : nxs 2 0 742 [some (.inr (.inr 0)), some (.inr (.inr 1)), some (.inr (.inr 120)), some (.inl x3)] [.inl s2, .inr (.inr 120), .inr (.inl s0)] (M0 L V b) = some (true, 747, [some (.inr (.inr 0)), some (.inr (.inr 1)), some (.inr (.inr 120)), some (.inl x3)], [.inl 1, .inl s2, .inr (.inr 120), .inr (.inl s0)], M0 L V b) := by
  rfl

theorem B0_746 (L : Nat) (V : Mv) (b : Bool) (x3 : Int) (s0 : Int) (s2 : Int)  : nxs 1 0 746 [some (.inr (.inr 0)), some (.inr (.inr 1)), some (.inr (.inr 120)), some (.inl x3)] [.inl s2, .inr (.inr 120), .inr (.inl s0)] (M0 L V b) = some (true, 747, [some (.inr (.inr 0)), some (.inr (.inr 1)), some (.inr (.inr 120)), some (.inl x3)], [.inl 0, .inl s2, .inr (.inr 120), .inr (.inl s0)], M0 L V b) := by
  rfl

theorem B0_750 (L : Nat) (V : Mv) (b : Bool) (x3 : Int) (s0 : Int) (s1 : Int) (g0 : in64 s0) (g1 : in64 s1) (g2 : in32 (cmpI s0 s1)) : nxs 2 0 750 [some (.inr (.inr 0)), some (.inr (.inr 1)), some (.inr (.inr 120)), some (.inl x3)] [.inr (.inl s1), .inr (.inl s0)] (M0 L V b) = some (true, cond (decide (cmpI s0 s1 = 0)) 1768 754, [some (.inr (.inr 0)), some (.inr (.inr 1)), some (.inr (.inr 120)), some (.inl x3)], [], M0 L V b) := by
  have f0 : (r64 s0 && r64 s1) = true := rr64_of g0 g1
  have f1 : r32 (cmpI s0 s1) = true := r32_of g2
  have hG : ((r64 s0 && r64 s1) && (r32 (cmpI s0 s1) && true)) = true := an f0 (an f1 rfl)
  show some ((r64 s0 && r64 s1) && (r32 (cmpI s0 s1) && true), _) = _
  rw [hG]
  try rfl

theorem B0_754 (L : Nat) (V : Mv) (b : Bool) (x3 : Int)  : nxs 1 0 754 [some (.inr (.inr 0)), some (.inr (.inr 1)), some (.inr (.inr 120)), some (.inl x3)] [] (M0 L V b) = some (true, 755, [some (.inr (.inr 0)), some (.inr (.inr 1)), some (.inr (.inr 120)), some (.inl x3)], [.inl 0], M0 L V b) := by
  rfl

theorem B0_756 (L : Nat) (V : Mv) (b : Bool) (x3 : Int) (g0 : 0 ≤ x3 + 1 ∧ x3 + 1 < (L : Int)) : nxs 6 0 756 [some (.inr (.inr 0)), some (.inr (.inr 1)), some (.inr (.inr 120)), some (.inl x3)] [] (M0 L V b) = some (true, 762, [some (.inr (.inr 0)), some (.inr (.inr 1)), some (.inr (.inr 120)), some (.inl x3)], [.inl (V 0 (x3 + 1).toNat), .inr (.inr 1)], M0 L V b) := by
  have f0 : gX (M0 L V b) 0 1 (x3 + 1) = true := gx_of rfl g0
  have hG : (gX (M0 L V b) 0 1 (x3 + 1) && true) = true := an f0 rfl
  show some (gX (M0 L V b) 0 1 (x3 + 1) && true, _) = _
  rw [hG]
  try rfl

theorem B0_765 (L : Nat) (V : Mv) (b : Bool) (x3 : Int) (s0 : Int) (g0 : 0 ≤ x3 + 1 ∧ x3 + 1 < (L : Int)) : nxs 6 0 765 [some (.inr (.inr 0)), some (.inr (.inr 1)), some (.inr (.inr 120)), some (.inl x3)] [.inl s0] (M0 L V b) = some (true, 771, [some (.inr (.inr 0)), some (.inr (.inr 1)), some (.inr (.inr 120)), some (.inl x3)], [.inl (V 0 (x3 + 1).toNat), .inr (.inr 120), .inl s0], M0 L V b) := by
  have f0 : gX (M0 L V b) 0 1 (x3 + 1) = true := gx_of rfl g0
  have hG : (gX (M0 L V b) 0 1 (x3 + 1) && true) = true := an f0 rfl
  show some (gX (M0 L V b) 0 1 (x3 + 1) && true, _) = _
  rw [hG]
  try rfl

theorem B0_774 (L : Nat) (V : Mv) (b : Bool) (x3 : Int) (s0 : Int) (s1 : Int) (g0 : in32 s0) (g1 : in32 s1) : nxs 1 0 774 [some (.inr (.inr 0)), some (.inr (.inr 1)), some (.inr (.inr 120)), some (.inl x3)] [.inl s1, .inl s0] (M0 L V b) = some (true, cond (decide (s0 = s1)) 1768 777, [some (.inr (.inr 0)), some (.inr (.inr 1)), some (.inr (.inr 120)), some (.inl x3)], [], M0 L V b) := by
  have f0 : (r32 s0 && r32 s1) = true := rr32_of g0 g1
  have hG : ((r32 s0 && r32 s1) && true) = true := an f0 rfl
  show some ((r32 s0 && r32 s1) && true, _) = _
  rw [hG]
  try rfl

theorem B0_777 (L : Nat) (V : Mv) (b : Bool) (x3 : Int)  : nxs 1 0 777 [some (.inr (.inr 0)), some (.inr (.inr 1)), some (.inr (.inr 120)), some (.inl x3)] [] (M0 L V b) = some (true, 778, [some (.inr (.inr 0)), some (.inr (.inr 1)), some (.inr (.inr 120)), some (.inl x3)], [.inl 0], M0 L V b) := by
  rfl

theorem B0_779 (L : Nat) (V : Mv) (b : Bool) (x3 : Int) (g0 : 0 ≤ x3 + 1 ∧ x3 + 1 < (L : Int)) (g1 : 0 ≤ x3 + 2 ∧ x3 + 2 < (L : Int)) (g2 : 0 ≤ x3 + 3 ∧ x3 + 3 < (L : Int)) (g3 : in32 (V 0 (x3 + 3).toNat)) : nxs 17 0 779 [some (.inr (.inr 0)), some (.inr (.inr 1)), some (.inr (.inr 120)), some (.inl x3)] [] (M0 L V b) = some (true, cond (decide (V 0 (x3 + 3).toNat = 0)) 802 798, [some (.inr (.inr 0)), some (.inr (.inr 1)), some (.inr (.inr 120)), some (.inl x3)], [.inl (V 0 (x3 + 2).toNat), .inl (V 0 (x3 + 1).toNat), .inr (.inr 1)], M0 L V b) := by
  have f0 : gX (M0 L V b) 0 1 (x3 + 1) = true := gx_of rfl g0
  have f1 : gX (M0 L V b) 0 1 (x3 + 2) = true := gx_of rfl g1
  have f2 : gX (M0 L V b) 0 1 (x3 + 3) = true := gx_of rfl g2
  have f3 : r32 (V 0 (x3 + 3).toNat) = true := r32_of g3
  have hG : (gX (M0 L V b) 0 1 (x3 + 1) && (gX (M0 L V b) 0 1 (x3 + 2) && (gX (M0 L V b) 0 1 (x3 + 3) && (r32 (V 0 (x3 + 3).toNat) && true)))) = true := an f0 (an f1 (an f2 (an f3 rfl)))
  show some (gX (M0 L V b) 0 1 (x3 + 1) && (gX (M0 L V b) 0 1 (x3 + 2) && (gX (M0 L V b) 0 1 (x3 + 3) && (r32 (V 0 (x3 + 3).toNat) && true))), _) = _
  rw [hG]
  try rfl

theorem B0_798 (L : Nat) (V : Mv) (b : Bool) (x3 : Int) (s1 : Int) (s2 : Int)  : nxs 2 0 798 [some (.inr (.inr 0)), some (.inr (.inr 1)), some (.inr (.inr 120)), some (.inl x3)] [.inl s2, .inl s1, .inr (.inr 1)] (M0 L V b) = some (true, 803, [some (.inr (.inr 0)), some (.inr (.inr 1)), some (.inr (.inr 120)), some (.inl x3)], [.inl 1, .inl s2, .inl s1, .inr (.inr 1)], M0 L V b) := by
  rfl

theorem B0_802 (L : Nat) (V : Mv) (b : Bool) (x3 : Int) (s1 : Int) (s2 : Int)  : nxs 1 0 802 [some (.inr (.inr 0)), some (.inr (.inr 1)), some (.inr (.inr 120)), some (.inl x3)] [.inl s2, .inl s1, .inr (.inr 1)] (M0 L V b) = some (true, 803, [some (.inr (.inr 0)), some (.inr (.inr 1)), some (.inr (.inr 120)), some (.inl x3)], [.inl 0, .inl s2, .inl s1, .inr (.inr 1)], M0 L V b) := by
  rfl

theorem B0_806 (L : Nat) (V : Mv) (b : Bool) (x3 : Int) (s0 : Int) (g0 : 0 ≤ x3 + 1 ∧ x3 + 1 < (L : Int)) (g1 : 0 ≤ x3 + 2 ∧ x3 + 2 < (L : Int)) (g2 : 0 ≤ x3 + 3 ∧ x3 + 3 < (L : Int)) (g3 : in32 (V 0 (x3 + 3).toNat)) : nxs 17 0 806 [some (.inr (.inr 0)), some (.inr (.inr 1)), some (.inr (.inr 120)), some (.inl x3)] [.inr (.inl s0)] (M0 L V b) = some (true, cond (decide (V 0 (x3 + 3).toNat = 0)) 829 825, [some (.inr (.inr 0)), some (.inr (.inr 1)), some (.inr (.inr 120)), some (.inl x3)], [.inl (V 0 (x3 + 2).toNat), .inl (V 0 (x3 + 1).toNat), .inr (.inr 120), .inr (.inl s0)], M0 L V b) := by
  have f0 : gX (M0 L V b) 0 1 (x3 + 1) = true := gx_of rfl g0
  have f1 : gX (M0 L V b) 0 1 (x3 + 2) = true := gx_of rfl g1
  have f2 : gX (M0 L V b) 0 1 (x3 + 3) = true := gx_of rfl g2
  have f3 : r32 (V 0 (x3 + 3).toNat) = true := r32_of g3
  have hG : (gX (M0 L V b) 0 1 (x3 + 1) && (gX (M0 L V b) 0 1 (x3 + 2) && (gX (M0 L V b) 0 1 (x3 + 3) && (r32 (V 0 (x3 + 3).toNat) && true)))) = true := an f0 (an f1 (an f2 (an f3 rfl)))
  show some (gX (M0 L V b) 0 1 (x3 + 1) && (gX (M0 L V b) 0 1 (x3 + 2) && (gX (M0 L V b) 0 1 (x3 + 3) && (r32 (V 0 (x3 + 3).toNat) && true))), _) = _
  rw [hG]
  try rfl

theorem B0_825 (L : Nat) (V : Mv) (b : Bool) (x3 : Int) (s0 : Int) (s2 : Int) (s3 : Int)  : nxs 2 0 825 [some (.inr (.inr 0)), some (.inr (.inr 1)), some (.inr (.inr 120)), some (.inl x3)] [.inl s3, .inl s2, .inr (.inr 120), .inr (.inl s0)] (M0 L V b) = some (true, 830, [some (.inr (.inr 0)), some (.inr (.inr 1)), some (.inr (.inr 120)), some (.inl x3)], [.inl 1, .inl s3, .inl s2, .inr (.inr 120), .inr (.inl s0)], M0 L V b) := by
  rfl

theorem B0_829 (L : Nat) (V : Mv) (b : Bool) (x3 : Int) (s0 : Int) (s2 : Int) (s3 : Int)  : nxs 1 0 829 [some (.inr (.inr 0)), some (.inr (.inr 1)), some (.inr (.inr 120)), some (.inl x3)] [.inl s3, .inl s2, .inr (.inr 120), .inr (.inl s0)] (M0 L V b) = some (true, 830, [some (.inr (.inr 0)), some (.inr (.inr 1)), some (.inr (.inr 120)), some (.inl x3)], [.inl 0, .inl s3, .inl s2, .inr (.inr 120), .inr (.inl s0)], M0 L V b) := by
  rfl

theorem B0_833 (L : Nat) (V : Mv) (b : Bool) (x3 : Int) (s0 : Int) (s1 : Int) (g0 : in64 s0) (g1 : in64 s1) (g2 : in32 (cmpI s0 s1)) : nxs 2 0 833 [some (.inr (.inr 0)), some (.inr (.inr 1)), some (.inr (.inr 120)), some (.inl x3)] [.inr (.inl s1), .inr (.inl s0)] (M0 L V b) = some (true, cond (decide (cmpI s0 s1 = 0)) 1768 837, [some (.inr (.inr 0)), some (.inr (.inr 1)), some (.inr (.inr 120)), some (.inl x3)], [], M0 L V b) := by
  have f0 : (r64 s0 && r64 s1) = true := rr64_of g0 g1
  have f1 : r32 (cmpI s0 s1) = true := r32_of g2
  have hG : ((r64 s0 && r64 s1) && (r32 (cmpI s0 s1) && true)) = true := an f0 (an f1 rfl)
  show some ((r64 s0 && r64 s1) && (r32 (cmpI s0 s1) && true), _) = _
  rw [hG]
  try rfl

theorem B0_837 (L : Nat) (V : Mv) (b : Bool) (x3 : Int)  : nxs 1 0 837 [some (.inr (.inr 0)), some (.inr (.inr 1)), some (.inr (.inr 120)), some (.inl x3)] [] (M0 L V b) = some (true, 838, [some (.inr (.inr 0)), some (.inr (.inr 1)), some (.inr (.inr 120)), some (.inl x3)], [.inl 0], M0 L V b) := by
  rfl

theorem B0_839 (L : Nat) (V : Mv) (b : Bool) (x3 : Int) (g0 : 0 ≤ x3 + 1 ∧ x3 + 1 < (L : Int)) (g1 : 0 ≤ x3 + 2 ∧ x3 + 2 < (L : Int)) (g2 : 0 ≤ x3 + 3 ∧ x3 + 3 < (L : Int)) : nxs 16 0 839 [some (.inr (.inr 0)), some (.inr (.inr 1)), some (.inr (.inr 120)), some (.inl x3)] [] (M0 L V b) = some (true, 855, [some (.inr (.inr 0)), some (.inr (.inr 1)), some (.inr (.inr 120)), some (.inl x3)], [.inl (V 0 (x3 + 3).toNat), .inl (V 0 (x3 + 2).toNat), .inl (V 0 (x3 + 1).toNat), .inr (.inr 1)], M0 L V b) := by
  have f0 : gX (M0 L V b) 0 1 (x3 + 1) = true := gx_of rfl g0
  have f1 : gX (M0 L V b) 0 1 (x3 + 2) = true := gx_of rfl g1
  have f2 : gX (M0 L V b) 0 1 (x3 + 3) = true := gx_of rfl g2
  have hG : (gX (M0 L V b) 0 1 (x3 + 1) && (gX (M0 L V b) 0 1 (x3 + 2) && (gX (M0 L V b) 0 1 (x3 + 3) && true))) = true := an f0 (an f1 (an f2 rfl))
  show some (gX (M0 L V b) 0 1 (x3 + 1) && (gX (M0 L V b) 0 1 (x3 + 2) && (gX (M0 L V b) 0 1 (x3 + 3) && true)), _) = _
  rw [hG]
  try rfl

theorem B0_858 (L : Nat) (V : Mv) (b : Bool) (x3 : Int) (s0 : Int) (g0 : 0 ≤ x3 + 1 ∧ x3 + 1 < (L : Int)) (g1 : 0 ≤ x3 + 2 ∧ x3 + 2 < (L : Int)) (g2 : 0 ≤ x3 + 3 ∧ x3 + 3 < (L : Int)) : nxs 16 0 858 [some (.inr (.inr 0)), some (.inr (.inr 1)), some (.inr (.inr 120)), some (.inl x3)] [.inl s0] (M0 L V b) = some (true, 874, [some (.inr (.inr 0)), some (.inr (.inr 1)), some (.inr (.inr 120)), some (.inl x3)], [.inl (V 0 (x3 + 3).toNat), .inl (V 0 (x3 + 2).toNat), .inl (V 0 (x3 + 1).toNat), .inr (.inr 120), .inl s0], M0 L V b) := by
  have f0 : gX (M0 L V b) 0 1 (x3 + 1) = true := gx_of rfl g0
  have f1 : gX (M0 L V b) 0 1 (x3 + 2) = true := gx_of rfl g1
  have f2 : gX (M0 L V b) 0 1 (x3 + 3) = true := gx_of rfl g2
  have hG : (gX (M0 L V b) 0 1 (x3 + 1) && (gX (M0 L V b) 0 1 (x3 + 2) && (gX (M0 L V b) 0 1 (x3 + 3) && true))) = true := an f0 (an f1 (an f2 rfl))
  show some (gX (M0 L V b) 0 1 (x3 + 1) && (gX (M0 L V b) 0 1 (x3 + 2) && (gX (M0 L V b) 0 1 (x3 + 3) && true)), _) = _
  rw [hG]
  try rfl

theorem B0_877 (L : Nat) (V : Mv) (b : Bool) (x3 : Int) (s0 : Int) (s1 : Int) (g0 : in32 s0) (g1 : in32 s1) : nxs 1 0 877 [some (.inr (.inr 0)), some (.inr (.inr 1)), some (.inr (.inr 120)), some (.inl x3)] [.inl s1, .inl s0] (M0 L V b) = some (true, cond (decide (s0 = s1)) 1768 880, [some (.inr (.inr 0)), some (.inr (.inr 1)), some (.inr (.inr 120)), some (.inl x3)], [], M0 L V b) := by
  have f0 : (r32 s0 && r32 s1) = true := rr32_of g0 g1
  have hG : ((r32 s0 && r32 s1) && true) = true := an f0 rfl
  show some ((r32 s0 && r32 s1) && true, _) = _
  rw [hG]
  try rfl

theorem B0_880 (L : Nat) (V : Mv) (b : Bool) (x3 : Int)  : nxs 1 0 880 [some (.inr (.inr 0)), some (.inr (.inr 1)), some (.inr (.inr 120)), some (.inl x3)] [] (M0 L V b) = some (true, 881, [some (.inr (.inr 0)), some (.inr (.inr 1)), some (.inr (.inr 120)), some (.inl x3)], [.inl 0], M0 L V b) := by
  rfl

theorem B0_882 (L : Nat) (V : Mv) (b : Bool) (x3 : Int) (g0 : 0 ≤ x3 + 1 ∧ x3 + 1 < (L : Int)) (g1 : 0 ≤ x3 + 2 ∧ x3 + 2 < (L : Int)) (g2 : 0 ≤ x3 + 3 ∧ x3 + 3 < (L : Int)) (g3 : in32 (V 0 (x3 + 3).toNat)) : nxs 17 0 882 [some (.inr (.inr 0)), some (.inr (.inr 1)), some (.inr (.inr 120)), some (.inl x3)] [] (M0 L V b) = some (true, cond (decide (V 0 (x3 + 3).toNat = 0)) 905 901, [some (.inr (.inr 0)), some (.inr (.inr 1)), some (.inr (.inr 120)), some (.inl x3)], [.inl (V 0 (x3 + 2).toNat), .inl (V 0 (x3 + 1).toNat), .inr (.inr 1)], M0 L V b) := by
  have f0 : gX (M0 L V b) 0 1 (x3 + 1) = true := gx_of rfl g0
  have f1 : gX (M0 L V b) 0 1 (x3 + 2) = true := gx_of rfl g1
  have f2 : gX (M0 L V b) 0 1 (x3 + 3) = true := gx_of rfl g2
  have f3 : r32 (V 0 (x3 + 3).toNat) = true := r32_of g3
  have hG : (gX (M0 L V b) 0 1 (x3 + 1) && (gX (M0 L V b) 0 1 (x3 + 2) && (gX (M0 L V b) 0 1 (x3 + 3) && (r32 (V 0 (x3 + 3).toNat) && true)))) = true := an f0 (an f1 (an f2 (an f3 rfl)))
  show some (gX (M0 L V b) 0 1 (x3 + 1) && (gX (M0 L V b) 0 1 (x3 + 2) && (gX (M0 L V b) 0 1 (x3 + 3) && (r32 (V 0 (x3 + 3).toNat) && true))), _) = _
  rw [hG]
  try rfl

theorem B0_901 (L : Nat) (V : Mv) (b : Bool) (x3 : Int) (s1 : Int) (s2 : Int)  : nxs 2 0 901 [some (.inr (.inr 0)), some (.inr (.inr 1)), some (.inr (.inr 120)), some (.inl x3)] [.inl s2, .inl s1, .inr (.inr 1)] (M0 L V b) = some (true, 906, [some (.inr (.inr 0)), some (.inr (.inr 1)), some (.inr (.inr 120)), some (.inl x3)], [.inl 1, .inl s2, .inl s1, .inr (.inr 1)], M0 L V b) := by
  rfl

theorem B0_905 (L : Nat) (V : Mv) (b : Bool) (x3 : Int) (s1 : Int) (s2 : Int)  : nxs 1 0 905 [some (.inr (.inr 0)), some (.inr (.inr 1)), some (.inr (.inr 120)), some (.inl x3)] [.inl s2, .inl s1, .inr (.inr 1)] (M0 L V b) = some (true, 906, [some (.inr (.inr 0)), some (.inr (.inr 1)), some (.inr (.inr 120)), some (.inl x3)], [.inl 0, .inl s2, .inl s1, .inr (.inr 1)], M0 L V b) := by
  rfl

theorem B0_909 (L : Nat) (V : Mv) (b : Bool) (x3 : Int) (s0 : Int) (g0 : 0 ≤ x3 + 1 ∧ x3 + 1 < (L : Int)) (g1 : 0 ≤ x3 + 2 ∧ x3 + 2 < (L : Int)) (g2 : 0 ≤ x3 + 3 ∧ x3 + 3 < (L : Int)) (g3 : in32 (V 0 (x3 + 3).toNat)) : nxs 17 0 909 [some (.inr (.inr 0)), some (.inr (.inr 1)), some (.inr (.inr 120)), some (.inl x3)] [.inr (.inl s0)] (M0 L V b) = some (true, cond (decide (V 0 (x3 + 3).toNat = 0)) 932 928, [some (.inr (.inr 0)), some (.inr (.inr 1)), some (.inr (.inr 120)), some (.inl x3)], [.inl (V 0 (x3 + 2).toNat), .inl (V 0 (x3 + 1).toNat), .inr (.inr 120), .inr (.inl s0)], M0 L V b) := by
  have f0 : gX (M0 L V b) 0 1 (x3 + 1) = true := gx_of rfl g0
  have f1 : gX (M0 L V b) 0 1 (x3 + 2) = true := gx_of rfl g1
  have f2 : gX (M0 L V b) 0 1 (x3 + 3) = true := gx_of rfl g2
  have f3 : r32 (V 0 (x3 + 3).toNat) = true := r32_of g3
  have hG : (gX (M0 L V b) 0 1 (x3 + 1) && (gX (M0 L V b) 0 1 (x3 + 2) && (gX (M0 L V b) 0 1 (x3 + 3) && (r32 (V 0 (x3 + 3).toNat) && true)))) = true := an f0 (an f1 (an f2 (an f3 rfl)))
  show some (gX (M0 L V b) 0 1 (x3 + 1) && (gX (M0 L V b) 0 1 (x3 + 2) && (gX (M0 L V b) 0 1 (x3 + 3) && (r32 (V 0 (x3 + 3).toNat) && true))), _) = _
  rw [hG]
  try rfl

theorem B0_928 (L : Nat) (V : Mv) (b : Bool) (x3 : Int) (s0 : Int) (s2 : Int) (s3 : Int)  : nxs 2 0 928 [some (.inr (.inr 0)), some (.inr (.inr 1)), some (.inr (.inr 120)), some (.inl x3)] [.inl s3, .inl s2, .inr (.inr 120), .inr (.inl s0)] (M0 L V b) = some (true, 933, [some (.inr (.inr 0)), some (.inr (.inr 1)), some (.inr (.inr 120)), some (.inl x3)], [.inl 1, .inl s3, .inl s2, .inr (.inr 120), .inr (.inl s0)], M0 L V b) := by
  rfl

theorem B0_932 (L : Nat) (V : Mv) (b : Bool) (x3 : Int) (s0 : Int) (s2 : Int) (s3 : Int)  : nxs 1 0 932 [some (.inr (.inr 0)), some (.inr (.inr 1)), some (.inr (.inr 120)), some (.inl x3)] [.inl s3, .inl s2, .inr (.inr 120), .inr (.inl s0)] (M0 L V b) = some (true, 933, [some (.inr (.inr 0)), some (.inr (.inr 1)), some (.inr (.inr 120)), some (.inl x3)], [.inl 0, .inl s3, .inl s2, .inr (.inr 120), .inr (.inl s0)], M0 L V b) := by
  rfl

theorem B0_936 (L : Nat) (V : Mv) (b : Bool) (x3 : Int) (s0 : Int) (s1 : Int) (g0 : in64 s0) (g1 : in64 s1) (g2 : in32 (cmpI s0 s1)) : nxs 2 0 936 [some (.inr (.inr 0)), some (.inr (.inr 1)), some (.inr (.inr 120)), some (.inl x3)] [.inr (.inl s1), .inr (.inl s0)] (M0 L V b) = some (true, cond (decide (cmpI s0 s1 = 0)) 1768 940, [some (.inr (.inr 0)), some (.inr (.inr 1)), some (.inr (.inr 120)), some (.inl x3)], [], M0 L V b) := by
  have f0 : (r64 s0 && r64 s1) = true := rr64_of g0 g1
  have f1 : r32 (cmpI s0 s1) = true := r32_of g2
  have hG : ((r64 s0 && r64 s1) && (r32 (cmpI s0 s1) && true)) = true := an f0 (an f1 rfl)
  show some ((r64 s0 && r64 s1) && (r32 (cmpI s0 s1) && true), _) = _
  rw [hG]
  try rfl

theorem B0_940 (L : Nat) (V : Mv) (b : Bool) (x3 : Int)  : nxs 1 0 940 [some (.inr (.inr 0)), some (.inr (.inr 1)), some (.inr (.inr 120)), some (.inl x3)] [] (M0 L V b) = some (true, 941, [some (.inr (.inr 0)), some (.inr (.inr 1)), some (.inr (.inr 120)), some (.inl x3)], [.inl 0], M0 L V b) := by
  rfl

theorem B0_942 (L : Nat) (V : Mv) (b : Bool) (x3 : Int) (g0 : 0 ≤ x3 + 1 ∧ x3 + 1 < (L : Int)) (g1 : 0 ≤ x3 + 2 ∧ x3 + 2 < (L : Int)) (g2 : 0 ≤ x3 + 3 ∧ x3 + 3 < (L : Int)) : nxs 16 0 942 [some (.inr (.inr 0)), some (.inr (.inr 1)), some (.inr (.inr 120)), some (.inl x3)] [] (M0 L V b) = some (true, 958, [some (.inr (.inr 0)), some (.inr (.inr 1)), some (.inr (.inr 120)), some (.inl x3)], [.inl (V 0 (x3 + 3).toNat), .inl (V 0 (x3 + 2).toNat), .inl (V 0 (x3 + 1).toNat), .inr (.inr 1)], M0 L V b) := by
  have f0 : gX (M0 L V b) 0 1 (x3 + 1) = true := gx_of rfl g0
  have f1 : gX (M0 L V b) 0 1 (x3 + 2) = true := gx_of rfl g1
  have f2 : gX (M0 L V b) 0 1 (x3 + 3) = true := gx_of rfl g2
  have hG : (gX (M0 L V b) 0 1 (x3 + 1) && (gX (M0 L V b) 0 1 (x3 + 2) && (gX (M0 L V b) 0 1 (x3 + 3) && true))) = true := an f0 (an f1 (an f2 rfl))
  show some (gX (M0 L V b) 0 1 (x3 + 1) && (gX (M0 L V b) 0 1 (x3 + 2) && (gX (M0 L V b) 0 1 (x3 + 3) && true)), _) = _
  rw [hG]
  try rfl

theorem B0_961 (L : Nat) (V : Mv) (b : Bool) (x3 : Int) (s0 : Int) (g0 : 0 ≤ x3 + 1 ∧ x3 + 1 < (L : Int)) (g1 : 0 ≤ x3 + 2 ∧ x3 + 2 < (L : Int)) (g2 : 0 ≤ x3 + 3 ∧ x3 + 3 < (L : Int)) : nxs 16 0 961 [some (.inr (.inr 0)), some (.inr (.inr 1)), some (.inr (.inr 120)), some (.inl x3)] [.inl s0] (M0 L V b) = some (true, 977, [some (.inr (.inr 0)), some (.inr (.inr 1)), some (.inr (.inr 120)), some (.inl x3)], [.inl (V 0 (x3 + 3).toNat), .inl (V 0 (x3 + 2).toNat), .inl (V 0 (x3 + 1).toNat), .inr (.inr 120), .inl s0], M0 L V b) := by
  have f0 : gX (M0 L V b) 0 1 (x3 + 1) = true := gx_of rfl g0
  have f1 : gX (M0 L V b) 0 1 (x3 + 2) = true := gx_of rfl g1
  have f2 : gX (M0 L V b) 0 1 (x3 + 3) = true := gx_of rfl g2
  have hG : (gX (M0 L V b) 0 1 (x3 + 1) && (gX (M0 L V b) 0 1 (x3 + 2) && (gX (M0 L V b) 0 1 (x3 + 3) && true))) = true := an f0 (an f1 (an f2 rfl))
  show some (gX (M0 L V b) 0 1 (x3 + 1) && (gX (M0 L V b) 0 1 (x3 + 2) && (gX (M0 L V b) 0 1 (x3 + 3) && true)), _) = _
  rw [hG]
  try rfl

theorem B0_980 (L : Nat) (V : Mv) (b : Bool) (x3 : Int) (s0 : Int) (s1 : Int) (g0 : in32 s0) (g1 : in32 s1) : nxs 1 0 980 [some (.inr (.inr 0)), some (.inr (.inr 1)), some (.inr (.inr 120)), some (.inl x3)] [.inl s1, .inl s0] (M0 L V b) = some (true, cond (decide (s0 = s1)) 1768 983, [some (.inr (.inr 0)), some (.inr (.inr 1)), some (.inr (.inr 120)), some (.inl x3)], [], M0 L V b) := by
  have f0 : (r32 s0 && r32 s1) = true := rr32_of g0 g1
  have hG : ((r32 s0 && r32 s1) && true) = true := an f0 rfl
  show some ((r32 s0 && r32 s1) && true, _) = _
  rw [hG]
  try rfl

theorem B0_983 (L : Nat) (V : Mv) (b : Bool) (x3 : Int)  : nxs 1 0 983 [some (.inr (.inr 0)), some (.inr (.inr 1)), some (.inr (.inr 120)), some (.inl x3)] [] (M0 L V b) = some (true, 984, [some (.inr (.inr 0)), some (.inr (.inr 1)), some (.inr (.inr 120)), some (.inl x3)], [.inl 0], M0 L V b) := by
  rfl

theorem B0_985 (L : Nat) (V : Mv) (b : Bool) (x3 : Int) (g0 : 0 ≤ x3 + 1 ∧ x3 + 1 < (L : Int)) : nxs 6 0 985 [some (.inr (.inr 0)), some (.inr (.inr 1)), some (.inr (.inr 120)), some (.inl x3)] [] (M0 L V b) = some (true, 991, [some (.inr (.inr 0)), some (.inr (.inr 1)), some (.inr (.inr 120)), some (.inl x3)], [.inl (V 0 (x3 + 1).toNat), .inr (.inr 1)], M0 L V b) := by
  have f0 : gX (M0 L V b) 0 1 (x3 + 1) = true := gx_of rfl g0
  have hG : (gX (M0 L V b) 0 1 (x3 + 1) && true) = true := an f0 rfl
  show some (gX (M0 L V b) 0 1 (x3 + 1) && true, _) = _
  rw [hG]
  try rfl

theorem B0_994 (L : Nat) (V : Mv) (b : Bool) (x3 : Int) (s0 : Int) (g0 : 0 ≤ x3 + 1 ∧ x3 + 1 < (L : Int)) : nxs 6 0 994 [some (.inr (.inr 0)), some (.inr (.inr 1)), some (.inr (.inr 120)), some (.inl x3)] [.inl s0] (M0 L V b) = some (true, 1000, [some (.inr (.inr 0)), some (.inr (.inr 1)), some (.inr (.inr 120)), some (.inl x3)], [.inl (V 0 (x3 + 1).toNat), .inr (.inr 120), .inl s0], M0 L V b) := by
  have f0 : gX (M0 L V b) 0 1 (x3 + 1) = true := gx_of rfl g0
  have hG : (gX (M0 L V b) 0 1 (x3 + 1) && true) = true := an f0 rfl
  show some (gX (M0 L V b) 0 1 (x3 + 1) && true, _) = _
  rw [hG]
  try rfl

theorem B0_1003 (L : Nat) (V : Mv) (b : Bool) (x3 : Int) (s0 : Int) (s1 : Int) (g0 : in32 s0) (g1 : in32 s1) : nxs 1 0 1003 [some (.inr (.inr 0)), some (.inr (.inr 1)), some (.inr (.inr 120)), some (.inl x3)] [.inl s1, .inl s0] (M0 L V b) = some (true, cond (decide (s0 = s1)) 1768 1006, [some (.inr (.inr 0)), some (.inr (.inr 1)), some (.inr (.inr 120)), some (.inl x3)], [], M0 L V b) := by
  have f0 : (r32 s0 && r32 s1) = true := rr32_of g0 g1
  have hG : ((r32 s0 && r32 s1) && true) = true := an f0 rfl
  show some ((r32 s0 && r32 s1) && true, _) = _
  rw [hG]
  try rfl

theorem B0_1006 (L : Nat) (V : Mv) (b : Bool) (x3 : Int)  : nxs 1 0 1006 [some (.inr (.inr 0)), some (.inr (.inr 1)), some (.inr (.inr 120)), some (.inl x3)] [] (M0 L V b) = some (true, 1007, [some (.inr (.inr 0)), some (.inr (.inr 1)), some (.inr (.inr 120)), some (.inl x3)], [.inl 0], M0 L V b) := by
  rfl

theorem B0_1008 (L : Nat) (V : Mv) (b : Bool) (x3 : Int) (g0 : 0 ≤ x3 + 1 ∧ x3 + 1 < (L : Int)) (g1 : 0 ≤ x3 + 2 ∧ x3 + 2 < (L : Int)) (g2 : in32 (V 0 (x3 + 2).toNat)) : nxs 12 0 1008 [some (.inr (.inr 0)), some (.inr (.inr 1)), some (.inr (.inr 120)), some (.inl x3)] [] (M0 L V b) = some (true, cond (decide (V 0 (x3 + 2).toNat = 0)) 1026 1022, [some (.inr (.inr 0)), some (.inr (.inr 1)), some (.inr (.inr 120)), some (.inl x3)], [.inl (V 0 (x3 + 1).toNat), .inr (.inr 1)], M0 L V b) := by
  have f0 : gX (M0 L V b) 0 1 (x3 + 1) = true := gx_of rfl g0
  have f1 : gX (M0 L V b) 0 1 (x3 + 2) = true := gx_of rfl g1
  have f2 : r32 (V 0 (x3 + 2).toNat) = true := r32_of g2
  have hG : (gX (M0 L V b) 0 1 (x3 + 1) && (gX (M0 L V b) 0 1 (x3 + 2) && (r32 (V 0 (x3 + 2).toNat) && true))) = true := an f0 (an f1 (an f2 rfl))
  show some (gX (M0 L V b) 0 1 (x3 + 1) && (gX (M0 L V b) 0 1 (x3 + 2) && (r32 (V 0 (x3 + 2).toNat) && true)), _) = _
  rw [hG]
  try rfl

theorem B0_1022 (L : Nat) (V : Mv) (b : Bool) (x3 : Int) (s1 : Int)  : nxs 2 0 1022 [some (.inr (.inr 0)), some (.inr (.inr 1)), some (.inr (.inr 120)), some (.inl x3)] [.inl s1, .inr (.inr 1)] (M0 L V b) = some (true, 1027, [some (.inr (.inr 0)), some (.inr (.inr 1)), some (.inr (.inr 120)), some (.inl x3)], [.inl 1, .inl s1, .inr (.inr 1)], M0 L V b) := by
  rfl

theorem B0_1026 (L : Nat) (V : Mv) (b : Bool) (x3 : Int) (s1 : Int)  : nxs 1 0 1026 [some (.inr (.inr 0)), some (.inr (.inr 1)), some (.inr (.inr 120)), some (.inl x3)] [.inl s1, .inr (.inr 1)] (M0 L V b) = some (true, 1027, [some (.inr (.inr 0)), some (.inr (.inr 1)), some (.inr (.inr 120)), some (.inl x3)], [.inl 0, .inl s1, .inr (.inr 1)], M0 L V b) := by
  rfl

theorem B0_1030 (L : Nat) (V : Mv) (b : Bool) (x3 : Int) (s0 : Int) (g0 : 0 ≤ x3 + 1 ∧ x3 + 1 < (L : Int)) (g1 : 0 ≤ x3 + 2 ∧ x3 + 2 < (L : Int)) (g2 : in32 (V 0 (x3 + 2).toNat)) : nxs 12 0 1030 [some (.inr (.inr 0)), some (.inr (.inr 1)), some (.inr (.inr 120)), some (.inl x3)] [.inr (.inl s0)] (M0 L V b) = some (true, cond (decide (V 0 (x3 + 2).toNat = 0)) 1048 1044, [some (.inr (.inr 0)), some (.inr (.inr 1)), some (.inr (.inr 120)), some (.inl x3)], [.inl (V 0 (x3 + 1).toNat), .inr (.inr 120), .inr (.inl s0)], M0 L V b) := by
  have f0 : gX (M0 L V b) 0 1 (x3 + 1) = true := gx_of rfl g0
  have f1 : gX (M0 L V b) 0 1 (x3 + 2) = true := gx_of rfl g1
  have f2 : r32 (V 0 (x3 + 2).toNat) = true := r32_of g2
  have hG : (gX (M0 L V b) 0 1 (x3 + 1) && (gX (M0 L V b) 0 1 (x3 + 2) && (r32 (V 0 (x3 + 2).toNat) && true))) = true := an f0 (an f1 (an f2 rfl))
  show some (gX (M0 L V b) 0 1 (x3 + 1) && (gX (M0 L V b) 0 1 (x3 + 2) && (r32 (V 0 (x3 + 2).toNat) && true)), _) = _
  rw [hG]
  try rfl

theorem B0_1044 (L : Nat) (V : Mv) (b : Bool) (x3 : Int) (s0 : Int) (s2 : Int)  : nxs 2 0 1044 [some (.inr (.inr 0)), some (.inr (.inr 1)), some (.inr (.inr 120)), some (.inl x3)] [.inl s2, .inr (.inr 120), .inr (.inl s0)] (M0 L V b) = some (true, 1049, [some (.inr (.inr 0)), some (.inr (.inr 1)), some (.inr (.inr 120)), some (.inl x3)], [.inl 1, .inl s2, .inr (.inr 120), .inr (.inl s0)], M0 L V b) := by
  rfl

theorem B0_1048 (L : Nat) (V : Mv) (b : Bool) (x3 : Int) (s0 : Int) (s2 : Int)  : nxs 1 0 1048 [some (.inr (.inr 0)), some (.inr (.inr 1)), some (.inr (.inr 120)), some (.inl x3)] [.inl s2, .inr (.inr 120), .inr (.inl s0)] (M0 L V b) = some (true, 1049, [some (.inr (.inr 0)), some (.inr (.inr 1)), some (.inr (.inr 120)), some (.inl x3)], [.inl 0, .inl s2, .inr (.inr 120), .inr (.inl s0)], M0 L V b) := by
  rfl

theorem B0_1052 (L : Nat) (V : Mv) (b : Bool) (x3 : Int) (s0 : Int) (s1 : Int) (g0 : in64 s0) (g1 : in64 s1) (g2 : in32 (cmpI s0 s1)) : nxs 2 0 1052 [some (.inr (.inr 0)), some (.inr (.inr 1)), some (.inr (.inr 120)), some (.inl x3)] [.inr (.inl s1), .inr (.inl s0)] (M0 L V b) = some (true, cond (decide (cmpI s0 s1 = 0)) 1768 1056, [some (.inr (.inr 0)), some (.inr (.inr 1)), some (.inr (.inr 120)), some (.inl x3)], [], M0 L V b) := by
  have f0 : (r64 s0 && r64 s1) = true := rr64_of g0 g1
  have f1 : r32 (cmpI s0 s1) = true := r32_of g2
  have hG : ((r64 s0 && r64 s1) && (r32 (cmpI s0 s1) && true)) = true := an f0 (an f1 rfl)
  show some ((r64 s0 && r64 s1) && (r32 (cmpI s0 s1) && true), _) = _
  rw [hG]
  try rfl

theorem B0_1056 (L : Nat) (V : Mv) (b : Bool) (x3 : Int)  : nxs 1 0 1056 [some (.inr (.inr 0)), some (.inr (.inr 1)), some (.inr (.inr 120)), some (.inl x3)] [] (M0 L V b) = some (true, 1057, [some (.inr (.inr 0)), some (.inr (.inr 1)), some (.inr (.inr 120)), some (.inl x3)], [.inl 0], M0 L V b) := by
  rfl

theorem B0_1058 (L : Nat) (V : Mv) (b : Bool) (x3 : Int) (g0 : 0 ≤ x3 + 1 ∧ x3 + 1 < (L : Int)) (g1 : 0 ≤ x3 + 2 ∧ x3 + 2 < (L : Int)) (g2 : 0 ≤ x3 + 3 ∧ x3 + 3 < (L : Int)) : nxs 16 0 1058 [some (.inr (.inr 0)), some (.inr (.inr 1)), some (.inr (.inr 120)), some (.inl x3)] [] (M0 L V b) = some (true, 1074, [some (.inr (.inr 0)), some (.inr (.inr 1)), some (.inr (.inr 120)), some (.inl x3)], [.inl (V 0 (x3 + 3).toNat), .inl (V 0 (x3 + 2).toNat), .inl (V 0 (x3 + 1).toNat), .inr (.inr 1)], M0 L V b) := by
  have f0 : gX (M0 L V b) 0 1 (x3 + 1) = true := gx_of rfl g0
  have f1 : gX (M0 L V b) 0 1 (x3 + 2) = true := gx_of rfl g1
  have f2 : gX (M0 L V b) 0 1 (x3 + 3) = true := gx_of rfl g2
  have hG : (gX (M0 L V b) 0 1 (x3 + 1) && (gX (M0 L V b) 0 1 (x3 + 2) && (gX (M0 L V b) 0 1 (x3 + 3) && true))) = true := an f0 (an f1 (an f2 rfl))
  show some (gX (M0 L V b) 0 1 (x3 + 1) && (gX (M0 L V b) 0 1 (x3 + 2) && (gX (M0 L V b) 0 1 (x3 + 3) && true)), _) = _
  rw [hG]
  try rfl

theorem B0_1077 (L : Nat) (V : Mv) (b : Bool) (x3 : Int) (s0 : Int) (g0 : 0 ≤ x3 + 1 ∧ x3 + 1 < (L : Int)) (g1 : 0 ≤ x3 + 2 ∧ x3 + 2 < (L : Int)) (g2 : 0 ≤ x3 + 3 ∧ x3 + 3 < (L : Int)) : nxs 16 0 1077 [some (.inr (.inr 0)), some (.inr (.inr 1)), some (.inr (.inr 120)), some (.inl x3)] [.inl s0] (M0 L V b) = some (true, 1093, [some (.inr (.inr 0)), some (.inr (.inr 1)), some (.inr (.inr 120)), some (.inl x3)], [.inl (V 0 (x3 + 3).toNat), .inl (V 0 (x3 + 2).toNat), .inl (V 0 (x3 + 1).toNat), .inr (.inr 120), .inl s0], M0 L V b) := by
  have f0 : gX (M0 L V b) 0 1 (x3 + 1) = true := gx_of rfl g0
  have f1 : gX (M0 L V b) 0 1 (x3 + 2) = true := gx_of rfl g1
  have f2 : gX (M0 L V b) 0 1 (x3 + 3) = true := gx_of rfl g2
  have hG : (gX (M0 L V b) 0 1 (x3 + 1) && (gX (M0 L V b) 0 1 (x3 + 2) && (gX (M0 L V b) 0 1 (x3 + 3) && true))) = true := an f0 (an f1 (an f2 rfl))
  show some (gX (M0 L V b) 0 1 (x3 + 1) && (gX (M0 L V b) 0 1 (x3 + 2) && (gX (M0 L V b) 0 1 (x3 + 3) && true)), _) = _
  rw [hG]
  try rfl

theorem B0_1096 (L : Nat) (V : Mv) (b : Bool) (x3 : Int) (s0 : Int) (s1 : Int) (g0 : in32 s0) (g1 : in32 s1) : nxs 1 0 1096 [some (.inr (.inr 0)), some (.inr (.inr 1)), some (.inr (.inr 120)), some (.inl x3)] [.inl s1, .inl s0] (M0 L V b) = some (true, cond (decide (s0 = s1)) 1768 1099, [some (.inr (.inr 0)), some (.inr (.inr 1)), some (.inr (.inr 120)), some (.inl x3)], [], M0 L V b) := by
  have f0 : (r32 s0 && r32 s1) = true := rr32_of g0 g1
  have hG : ((r32 s0 && r32 s1) && true) = true := an f0 rfl
  show some ((r32 s0 && r32 s1) && true, _) = _
  rw [hG]
  try rfl

theorem B0_1099 (L : Nat) (V : Mv) (b : Bool) (x3 : Int)  : nxs 1 0 1099 [some (.inr (.inr 0)), some (.inr (.inr 1)), some (.inr (.inr 120)), some (.inl x3)] [] (M0 L V b) = some (true, 1100, [some (.inr (.inr 0)), some (.inr (.inr 1)), some (.inr (.inr 120)), some (.inl x3)], [.inl 0], M0 L V b) := by
  rfl

theorem B0_1101 (L : Nat) (V : Mv) (b : Bool) (x3 : Int) (g0 : 0 ≤ x3 + 1 ∧ x3 + 1 < (L : Int)) (g1 : 0 ≤ x3 + 2 ∧ x3 + 2 < (L : Int)) (g2 : 0 ≤ x3 + 3 ∧ x3 + 3 < (L : Int)) (g3 : 0 ≤ x3 + 4 ∧ x3 + 4 < (L : Int)) (g4 : in32 (V 0 (x3 + 4).toNat)) : nxs 22 0 1101 [some (.inr (.inr 0)), some (.inr (.inr 1)), some (.inr (.inr 120)), some (.inl x3)] [] (M0 L V b) = some (true, cond (decide (V 0 (x3 + 4).toNat = 0)) 1129 1125, [some (.inr (.inr 0)), some (.inr (.inr 1)), some (.inr (.inr 120)), some (.inl x3)], [.inl (V 0 (x3 + 3).toNat), .inl (V 0 (x3 + 2).toNat), .inl (V 0 (x3 + 1).toNat), .inr (.inr 1)], M0 L V b) := by
  have f0 : gX (M0 L V b) 0 1 (x3 + 1) = true := gx_of rfl g0
  have f1 : gX (M0 L V b) 0 1 (x3 + 2) = true := gx_of rfl g1
  have f2 : gX (M0 L V b) 0 1 (x3 + 3) = true := gx_of rfl g2
  have f3 : gX (M0 L V b) 0 1 (x3 + 4) = true := gx_of rfl g3
  have f4 : r32 (V 0 (x3 + 4).toNat) = true := r32_of g4
  have hG : (gX (M0 L V b) 0 1 (x3 + 1) && (gX (M0 L V b) 0 1 (x3 + 2) && (gX (M0 L V b) 0 1 (x3 + 3) && (gX (M0 L V b) 0 1 (x3 + 4) && (r32 (V 0 (x3 + 4).toNat) && true))))) = true := an f0 (an f1 (an f2 (an f3 (an f4 rfl))))
  show some (gX (M0 L V b) 0 1 (x3 + 1) && (gX (M0 L V b) 0 1 (x3 + 2) && (gX (M0 L V b) 0 1 (x3 + 3) && (gX (M0 L V b) 0 1 (x3 + 4) && (r32 (V 0 (x3 + 4).toNat) && true)))), _) = _
  rw [hG]
  try rfl

theorem B0_1125 (L : Nat) (V : Mv) (b : Bool) (x3 : Int) (s1 : Int) (s2 : Int) (s3 : Int)  : nxs 2 0 1125 [some (.inr (.inr 0)), some (.inr (.inr 1)), some (.inr (.inr 120)), some (.inl x3)] [.inl s3, .inl s2, .inl s1, .inr (.inr 1)] (M0 L V b) = some (true, 1130, [some (.inr (.inr 0)), some (.inr (.inr 1)), some (.inr (.inr 120)), some (.inl x3)], [.inl 1, .inl s3, .inl s2, .inl s1, .inr (.inr 1)], M0 L V b) := by
  rfl

theorem B0_1129 (L : Nat) (V : Mv) (b : Bool) (x3 : Int) (s1 : Int) (s2 : Int) (s3 : Int)  : nxs 1 0 1129 [some (.inr (.inr 0)), some (.inr (.inr 1)), some (.inr (.inr 120)), some (.inl x3)] [.inl s3, .inl s2, .inl s1, .inr (.inr 1)] (M0 L V b) = some (true, 1130, [some (.inr (.inr 0)), some (.inr (.inr 1)), some (.inr (.inr 120)), some (.inl x3)], [.inl 0, .inl s3, .inl s2, .inl s1, .inr (.inr 1)], M0 L V b) := by
  rfl

theorem B0_1133 (L : Nat) (V : Mv) (b : Bool) (x3 : Int) (s0 : Int) (g0 : 0 ≤ x3 + 1 ∧ x3 + 1 < (L : Int)) (g1 : 0 ≤ x3 + 2 ∧ x3 + 2 < (L : Int)) (g2 : 0 ≤ x3 + 3 ∧ x3 + 3 < (L : Int)) (g3 : 0 ≤ x3 + 4 ∧ x3 + 4 < (L : Int)) (g4 : in32 (V 0 (x3 + 4).toNat)) : nxs 22 0 1133 [some (.inr (.inr 0)), some (.inr (.inr 1)), some (.inr (.inr 120)), some (.inl x3)] [.inr (.inl s0)] (M0 L V b) = some (true, cond (decide (V 0 (x3 + 4).toNat = 0)) 1161 1157, [some (.inr (.inr 0)), some (.inr (.inr 1)), some (.inr (.inr 120)), some (.inl x3)], [.inl (V 0 (x3 + 3).toNat), .inl (V 0 (x3 + 2).toNat), .inl (V 0 (x3 + 1).toNat), .inr (.inr 120), .inr (.inl s0)], M0 L V b) := by
  have f0 : gX (M0 L V b) 0 1 (x3 + 1) = true := gx_of rfl g0
  have f1 : gX (M0 L V b) 0 1 (x3 + 2) = true := gx_of rfl g1
  have f2 : gX (M0 L V b) 0 1 (x3 + 3) = true := gx_of rfl g2
  have f3 : gX (M0 L V b) 0 1 (x3 + 4) = true := gx_of rfl g3
  have f4 : r32 (V 0 (x3 + 4).toNat) = true := r32_of g4
  have hG : (gX (M0 L V b) 0 1 (x3 + 1) && (gX (M0 L V b) 0 1 (x3 + 2) && (gX (M0 L V b) 0 1 (x3 + 3) && (gX (M0 L V b) 0 1 (x3 + 4) && (r32 (V 0 (x3 + 4).toNat) && true))))) = true := an f0 (an f1 (an f2 (an f3 (an f4 rfl))))
  show some (gX (M0 L V b) 0 1 (x3 + 1) && (gX (M0 L V b) 0 1 (x3 + 2) && (gX (M0 L V b) 0 1 (x3 + 3) && (gX (M0 L V b) 0 1 (x3 + 4) && (r32 (V 0 (x3 + 4).toNat) && true)))), _) = _
  rw [hG]
  try rfl

theorem B0_1157 (L : Nat) (V : Mv) (b : Bool) (x3 : Int) (s0 : Int) (s2 : Int) (s3 : Int) (s4 : Int)  : nxs 2 0 1157 [some (.inr (.inr 0)), some (.inr (.inr 1)), some (.inr (.inr 120)), some (.inl x3)] [.inl s4, .inl s3, .inl s2, .inr (.inr 120), .inr (.inl s0)] (M0 L V b) = some (true, 1162, [some (.inr (.inr 0)), some (.inr (.inr 1)), some (.inr (.inr 120)), some (.inl x3)], [.inl 1, .inl s4, .inl s3, .inl s2, .inr (.inr 120), .inr (.inl s0)], M0 L V b) := by
  rfl

theorem B0_1161 (L : Nat) (V : Mv) (b : Bool) (x3 : Int) (s0 : Int) (s2 : Int) (s3 : Int) (s4 : Int)  : nxs 1 0 1161 [some (.inr (.inr 0)), some (.inr (.inr 1)), some (.inr (.inr 120)), some (.inl x3)] [.inl s4, .inl s3, .inl s2, .inr (.inr 120), .inr (.inl s0)] (M0 L V b) = some (true, 1162, [some (.inr (.inr 0)), some (.inr (.inr 1)), some (.inr (.inr 120)), some (.inl x3)], [.inl 0, .inl s4, .inl s3, .inl s2, .inr (.inr 120), .inr (.inl s0)], M0 L V b) := by
  rfl

theorem B0_1165 (L : Nat) (V : Mv) (b : Bool) (x3 : Int) (s0 : Int) (s1 : Int) (g0 : in64 s0) (g1 : in64 s1) (g2 : in32 (cmpI s0 s1)) : nxs 2 0 1165 [some (.inr (.inr 0)), some (.inr (.inr 1)), some (.inr (.inr 120)), some (.inl x3)] [.inr (.inl s1), .inr (.inl s0)] (M0 L V b) = some (true, cond (decide (cmpI s0 s1 = 0)) 1768 1169, [some (.inr (.inr 0)), some (.inr (.inr 1)), some (.inr (.inr 120)), some (.inl x3)], [], M0 L V b) := by
  have f0 : (r64 s0 && r64 s1) = true := rr64_of g0 g1
  have f1 : r32 (cmpI s0 s1) = true := r32_of g2
  have hG : ((r64 s0 && r64 s1) && (r32 (cmpI s0 s1) && true)) = true := an f0 (an f1 rfl)
  show some ((r64 s0 && r64 s1) && (r32 (cmpI s0 s1) && true), _) = _
  rw [hG]
  try rfl

theorem B0_1169 (L : Nat) (V : Mv) (b : Bool) (x3 : Int)  : nxs 1 0 1169 [some (.inr (.inr 0)), some (.inr (.inr 1)), some (.inr (.inr 120)), some (.inl x3)] [] (M0 L V b) = some (true, 1170, [some (.inr (.inr 0)), some (.inr (.inr 1)), some (.inr (.inr 120)), some (.inl x3)], [.inl 0], M0 L V b) := by
  rfl

theorem B0_1171 (L : Nat) (V : Mv) (b : Bool) (x3 : Int) (g0 : 0 ≤ x3 + 1 ∧ x3 + 1 < (L : Int)) : nxs 6 0 1171 [some (.inr (.inr 0)), some (.inr (.inr 1)), some (.inr (.inr 120)), some (.inl x3)] [] (M0 L V b) = some (true, 1177, [some (.inr (.inr 0)), some (.inr (.inr 1)), some (.inr (.inr 120)), some (.inl x3)], [.inl (V 0 (x3 + 1).toNat), .inr (.inr 1)], M0 L V b) := by
  have f0 : gX (M0 L V b) 0 1 (x3 + 1) = true := gx_of rfl g0
  have hG : (gX (M0 L V b) 0 1 (x3 + 1) && true) = true := an f0 rfl
  show some (gX (M0 L V b) 0 1 (x3 + 1) && true, _) = _
  rw [hG]
  try rfl

theorem B0_1180 (L : Nat) (V : Mv) (b : Bool) (x3 : Int) (s0 : Int) (g0 : 0 ≤ x3 + 1 ∧ x3 + 1 < (L : Int)) : nxs 6 0 1180 [some (.inr (.inr 0)), some (.inr (.inr 1)), some (.inr (.inr 120)), some (.inl x3)] [.inl s0] (M0 L V b) = some (true, 1186, [some (.inr (.inr 0)), some (.inr (.inr 1)), some (.inr (.inr 120)), some (.inl x3)], [.inl (V 0 (x3 + 1).toNat), .inr (.inr 120), .inl s0], M0 L V b) := by
  have f0 : gX (M0 L V b) 0 1 (x3 + 1) = true := gx_of rfl g0
  have hG : (gX (M0 L V b) 0 1 (x3 + 1) && true) = true := an f0 rfl
  show some (gX (M0 L V b) 0 1 (x3 + 1) && true, _) = _
  rw [hG]
  try rfl

theorem B0_1189 (L : Nat) (V : Mv) (b : Bool) (x3 : Int) (s0 : Int) (s1 : Int) (g0 : in32 s0) (g1 : in32 s1) : nxs 1 0 1189 [some (.inr (.inr 0)), some (.inr (.inr 1)), some (.inr (.inr 120)), some (.inl x3)] [.inl s1, .inl s0] (M0 L V b) = some (true, cond (decide (s0 = s1)) 1768 1192, [some (.inr (.inr 0)), some (.inr (.inr 1)), some (.inr (.inr 120)), some (.inl x3)], [], M0 L V b) := by
  have f0 : (r32 s0 && r32 s1) = true := rr32_of g0 g1
  have hG : ((r32 s0 && r32 s1) && true) = true := an f0 rfl
  show some ((r32 s0 && r32 s1) && true, _) = _
  rw [hG]
  try rfl

theorem B0_1192 (L : Nat) (V : Mv) (b : Bool) (x3 : Int)  : nxs 1 0 1192 [some (.inr (.inr 0)), some (.inr (.inr 1)), some (.inr (.inr 120)), some (.inl x3)] [] (M0 L V b) = some (true, 1193, [some (.inr (.inr 0)), some (.inr (.inr 1)), some (.inr (.inr 120)), some (.inl x3)], [.inl 0], M0 L V b) := by
  rfl

theorem B0_1194 (L : Nat) (V : Mv) (b : Bool) (x3 : Int) (g0 : 0 ≤ x3 + 1 ∧ x3 + 1 < (L : Int)) (g1 : 0 ≤ x3 + 2 ∧ x3 + 2 < (L : Int)) (g2 : 0 ≤ x3 + 3 ∧ x3 + 3 < (L : Int)) (g3 : 0 ≤ x3 + 4 ∧ x3 + 4 < (L : Int)) (g4 : 0 ≤ x3 + 5 ∧ x3 + 5 < (L : Int)) (g5 : 0 ≤ x3 + 6 ∧ x3 + 6 < (L : Int)) (g6 : in32 (V 0 (x3 + 6).toNat)) : nxs 32 0 1194 [some (.inr (.inr 0)), some (.inr (.inr 1)), some (.inr (.inr 120)), some (.inl x3)] [] (M0 L V b) = some (true, cond (decide (V 0 (x3 + 6).toNat = 0)) 1233 1229, [some (.inr (.inr 0)), some (.inr (.inr 1)), some (.inr (.inr 120)), some (.inl x3)], [.inl (V 0 (x3 + 5).toNat), .inl (V 0 (x3 + 4).toNat), .inl (V 0 (x3 + 3).toNat), .inl (V 0 (x3 + 2).toNat), .inl (V 0 (x3 + 1).toNat), .inr (.inr 1)], M0 L V b) := by
  have f0 : gX (M0 L V b) 0 1 (x3 + 1) = true := gx_of rfl g0
  have f1 : gX (M0 L V b) 0 1 (x3 + 2) = true := gx_of rfl g1
  have f2 : gX (M0 L V b) 0 1 (x3 + 3) = true := gx_of rfl g2
  have f3 : gX (M0 L V b) 0 1 (x3 + 4) = true := gx_of rfl g3
  have f4 : gX (M0 L V b) 0 1 (x3 + 5) = true := gx_of rfl g4
  have f5 : gX (M0 L V b) 0 1 (x3 + 6) = true := gx_of rfl g5
  have f6 : r32 (V 0 (x3 + 6).toNat) = true := r32_of g6
  have hG : (gX (M0 L V b) 0 1 (x3 + 1) && (gX (M0 L V b) 0 1 (x3 + 2) && (gX (M0 L V b) 0 1 (x3 + 3) && (gX (M0 L V b) 0 1 (x3 + 4) && (gX (M0 L V b) 0 1 (x3 + 5) && (gX (M0 L V b) 0 1 (x3 + 6) && (r32 (V 0 (x3 + 6).toNat) && true))))))) = true := an f0 (an f1 (an f2 (an f3 (an f4 (an f5 (an f6 rfl))))))
  show some (gX (M0 L V b) 0 1 (x3 + 1) && (gX (M0 L V b) 0 1 (x3 + 2) && (gX (M0 L V b) 0 1 (x3 + 3) && (gX (M0 L V b) 0 1 (x3 + 4) && (gX (M0 L V b) 0 1 (x3 + 5) && (gX (M0 L V b) 0 1 (x3 + 6) && (r32 (V 0 (x3 + 6).toNat) && true)))))), _) = _
  rw [hG]
  try rfl

theorem B0_1229 (L : Nat) (V : Mv) (b : Bool) (x3 : Int) (s1 : Int) (s2 : Int) (s3 : Int) (s4 : Int) (s5 : Int)  : nxs 2 0 1229 [some (.inr (.inr 0)), some (.inr (.inr 1)), some (.inr (.inr 120)), some (.inl x3)] [.inl s5, .inl s4, .inl s3, .inl s2, .inl s1, .inr (.inr 1)] (M0 L V b) = some (true, 1234, [some (.inr (.inr 0)), some (.inr (.inr 1)), some (.inr (.inr 120)), some (.inl x3)], [.inl 1, .inl s5, .inl s4, .inl s3, .inl s2, .inl s1, .inr (.inr 1)], M0 L V b) := by
  rfl

theorem B0_1233 (L : Nat) (V : Mv) (b : Bool) (x3 : Int) (s1 : Int) (s2 : Int) (s3 : Int) (s4 : Int) (s5 : Int)  : nxs 1 0 1233 [some (.inr (.inr 0)), some (.inr (.inr 1)), some (.inr (.inr 120)), some (.inl x3)] [.inl s5, .inl s4, .inl s3, .inl s2, .inl s1, .inr (.inr 1)] (M0 L V b) = some (true, 1234, [some (.inr (.inr 0)), some (.inr (.inr 1)), some (.inr (.inr 120)), some (.inl x3)], [.inl 0, .inl s5, .inl s4, .inl s3, .inl s2, .inl s1, .inr (.inr 1)], M0 L V b) := by
  rfl

theorem B0_1237 (L : Nat) (V : Mv) (b : Bool) (x3 : Int) (s0 : Int) (g0 : 0 ≤ x3 + 1 ∧ x3 + 1 < (L : Int)) (g1 : 0 ≤ x3 + 2 ∧ x3 + 2 < (L : Int)) (g2 : 0 ≤ x3 + 3 ∧ x3 + 3 < (L : Int)) (g3 : 0 ≤ x3 + 4 ∧ x3 + 4 < (L : Int)) (g4 : 0 ≤ x3 + 5 ∧ x3 + 5 < (L : Int)) (g5 : 0 ≤ x3 + 6 ∧ x3 + 6 < (L : Int)) (g6 : in32 (V 0 (x3 + 6).toNat)) : nxs 32 0 1237 [some (.inr (.inr 0)), some (.inr (.inr 1)), some (.inr (.inr 120)), some (.inl x3)] [.inr (.inl s0)] (M0 L V b) = some (true, cond (decide (V 0 (x3 + 6).toNat = 0)) 1276 1272, [some (.inr (.inr 0)), some (.inr (.inr 1)), some (.inr (.inr 120)), some (.inl x3)], [.inl (V 0 (x3 + 5).toNat), .inl (V 0 (x3 + 4).toNat), .inl (V 0 (x3 + 3).toNat), .inl (V 0 (x3 + 2).toNat), .inl (V 0 (x3 + 1).toNat), .inr (.inr 120), .inr (.inl s0)], M0 L V b) := by
  have f0 : gX (M0 L V b) 0 1 (x3 + 1) = true := gx_of rfl g0
  have f1 : gX (M0 L V b) 0 1 (x3 + 2) = true := gx_of rfl g1
  have f2 : gX (M0 L V b) 0 1 (x3 + 3) = true := gx_of rfl g2
  have f3 : gX (M0 L V b) 0 1 (x3 + 4) = true := gx_of rfl g3
  have f4 : gX (M0 L V b) 0 1 (x3 + 5) = true := gx_of rfl g4
  have f5 : gX (M0 L V b) 0 1 (x3 + 6) = true := gx_of rfl g5
  have f6 : r32 (V 0 (x3 + 6).toNat) = true := r32_of g6
  have hG : (gX (M0 L V b) 0 1 (x3 + 1) && (gX (M0 L V b) 0 1 (x3 + 2) && (gX (M0 L V b) 0 1 (x3 + 3) && (gX (M0 L V b) 0 1 (x3 + 4) && (gX (M0 L V b) 0 1 (x3 + 5) && (gX (M0 L V b) 0 1 (x3 + 6) && (r32 (V 0 (x3 + 6).toNat) && true))))))) = true := an f0 (an f1 (an f2 (an f3 (an f4 (an f5 (an f6 rfl))))))
  show some (gX (M0 L V b) 0 1 (x3 + 1) && (gX (M0 L V b) 0 1 (x3 + 2) && (gX (M0 L V b) 0 1 (x3 + 3) && (gX (M0 L V b) 0 1 (x3 + 4) && (gX (M0 L V b) 0 1 (x3 + 5) && (gX (M0 L V b) 0 1 (x3 + 6) && (r32 (V 0 (x3 + 6).toNat) && true)))))), _) = _
  rw [hG]
  try rfl

theorem B0_1272 (L : Nat) (V : Mv) (b : Bool) (x3 : Int) (s0 : Int) (s2 : Int) (s3 : Int) (s4 : Int) (s5 : Int) (s6 : Int)  : nxs 2 0 1272 [some (.inr (.inr 0)), some (.inr (.inr 1)), some (.inr (.inr 120)), some (.inl x3)] [.inl s6, .inl s5, .inl s4, .inl s3, .inl s2, .inr (.inr 120), .inr (.inl s0)] (M0 L V b) = some (true, 1277, [some (.inr (.inr 0)), some (.inr (.inr 1)), some (.inr (.inr 120)), some (.inl x3)], [.inl 1, .inl s6, .inl s5, .inl s4, .inl s3, .inl s2, .inr (.inr 120), .inr (.inl s0)], M0 L V b) := by
  rfl

theorem B0_1276 (L : Nat) (V : Mv) (b : Bool) (x3 : Int) (s0 : Int) (s2 : Int) (s3 : Int) (s4 : Int) (s5 : Int) (s6 : Int)  : nxs 1 0 1276 [some (.inr (.inr 0)), some (.inr (.inr 1)), some (.inr (.inr 120)), some (.inl x3)] [.inl s6, .inl s5, .inl s4, .inl s3, .inl s2, .inr (.inr 120), .inr (.inl s0)] (M0 L V b) = some (true, 1277, [some (.inr (.inr 0)), some (.inr (.inr 1)), some (.inr (.inr 120)), some (.inl x3)], [.inl 0, .inl s6, .inl s5, .inl s4, .inl s3, .inl s2, .inr (.inr 120), .inr (.inl s0)], M0 L V b) := by
  rfl

theorem B0_1280 (L : Nat) (V : Mv) (b : Bool) (x3 : Int) (s0 : Int) (s1 : Int) (g0 : in64 s0) (g1 : in64 s1) (g2 : in32 (cmpI s0 s1)) : nxs 2 0 1280 [some (.inr (.inr 0)), some (.inr (.inr 1)), some (.inr (.inr 120)), some (.inl x3)] [.inr (.inl s1), .inr (.inl s0)] (M0 L V b) = some (true, cond (decide (cmpI s0 s1 = 0)) 1768 1284, [some (.inr (.inr 0)), some (.inr (.inr 1)), some (.inr (.inr 120)), some (.inl x3)], [], M0 L V b) := by
  have f0 : (r64 s0 && r64 s1) = true := rr64_of g0 g1
  have f1 : r32 (cmpI s0 s1) = true := r32_of g2
  have hG : ((r64 s0 && r64 s1) && (r32 (cmpI s0 s1) && true)) = true := an f0 (an f1 rfl)
  show some ((r64 s0 && r64 s1) && (r32 (cmpI s0 s1) && true), _) = _
  rw [hG]
  try rfl

theorem B0_1284 (L : Nat) (V : Mv) (b : Bool) (x3 : Int)  : nxs 1 0 1284 [some (.inr (.inr 0)), some (.inr (.inr 1)), some (.inr (.inr 120)), some (.inl x3)] [] (M0 L V b) = some (true, 1285, [some (.inr (.inr 0)), some (.inr (.inr 1)), some (.inr (.inr 120)), some (.inl x3)], [.inl 0], M0 L V b) := by
  rfl

theorem B0_1286 (L : Nat) (V : Mv) (b : Bool) (x3 : Int) (g0 : 0 ≤ x3 + 1 ∧ x3 + 1 < (L : Int)) (g1 : 0 ≤ x3 + 2 ∧ x3 + 2 < (L : Int)) (g2 : 0 ≤ x3 + 3 ∧ x3 + 3 < (L : Int)) (g3 : 0 ≤ x3 + 4 ∧ x3 + 4 < (L : Int)) (g4 : 0 ≤ x3 + 5 ∧ x3 + 5 < (L : Int)) : nxs 26 0 1286 [some (.inr (.inr 0)), some (.inr (.inr 1)), some (.inr (.inr 120)), some (.inl x3)] [] (M0 L V b) = some (true, 1312, [some (.inr (.inr 0)), some (.inr (.inr 1)), some (.inr (.inr 120)), some (.inl x3)], [.inl (V 0 (x3 + 5).toNat), .inl (V 0 (x3 + 4).toNat), .inl (V 0 (x3 + 3).toNat), .inl (V 0 (x3 + 2).toNat), .inl (V 0 (x3 + 1).toNat), .inr (.inr 1)], M0 L V b) := by
  have f0 : gX (M0 L V b) 0 1 (x3 + 1) = true := gx_of rfl g0
  have f1 : gX (M0 L V b) 0 1 (x3 + 2) = true := gx_of rfl g1
  have f2 : gX (M0 L V b) 0 1 (x3 + 3) = true := gx_of rfl g2
  have f3 : gX (M0 L V b) 0 1 (x3 + 4) = true := gx_of rfl g3
  have f4 : gX (M0 L V b) 0 1 (x3 + 5) = true := gx_of rfl g4
  have hG : (gX (M0 L V b) 0 1 (x3 + 1) && (gX (M0 L V b) 0 1 (x3 + 2) && (gX (M0 L V b) 0 1 (x3 + 3) && (gX (M0 L V b) 0 1 (x3 + 4) && (gX (M0 L V b) 0 1 (x3 + 5) && true))))) = true := an f0 (an f1 (an f2 (an f3 (an f4 rfl))))
  show some (gX (M0 L V b) 0 1 (x3 + 1) && (gX (M0 L V b) 0 1 (x3 + 2) && (gX (M0 L V b) 0 1 (x3 + 3) && (gX (M0 L V b) 0 1 (x3 + 4) && (gX (M0 L V b) 0 1 (x3 + 5) && true)))), _) = _
  rw [hG]
  try rfl

theorem B0_1315 (L : Nat) (V : Mv) (b : Bool) (x3 : Int) (s0 : Int) (g0 : 0 ≤ x3 + 1 ∧ x3 + 1 < (L : Int)) (g1 : 0 ≤ x3 + 2 ∧ x3 + 2 < (L : Int)) (g2 : 0 ≤ x3 + 3 ∧ x3 + 3 < (L : Int)) (g3 : 0 ≤ x3 + 4 ∧ x3 + 4 < (L : Int)) (g4 : 0 ≤ x3 + 5 ∧ x3 + 5 < (L : Int)) : nxs 26 0 1315 [some (.inr (.inr 0)), some (.inr (.inr 1)), some (.inr (.inr 120)), some (.inl x3)] [.inl s0] (M0 L V b) = some (true, 1341, [some (.inr (.inr 0)), some (.inr (.inr 1)), some (.inr (.inr 120)), some (.inl x3)], [.inl (V 0 (x3 + 5).toNat), .inl (V 0 (x3 + 4).toNat), .inl (V 0 (x3 + 3).toNat), .inl (V 0 (x3 + 2).toNat), .inl (V 0 (x3 + 1).toNat), .inr (.inr 120), .inl s0], M0 L V b) := by
  have f0 : gX (M0 L V b) 0 1 (x3 + 1) = true := gx_of rfl g0
  have f1 : gX (M0 L V b) 0 1 (x3 + 2) = true := gx_of rfl g1
  have f2 : gX (M0 L V b) 0 1 (x3 + 3) = true := gx_of rfl g2
  have f3 : gX (M0 L V b) 0 1 (x3 + 4) = true := gx_of rfl g3
  have f4 : gX (M0 L V b) 0 1 (x3 + 5) = true := gx_of rfl g4
  have hG : (gX (M0 L V b) 0 1 (x3 + 1) && (gX (M0 L V b) 0 1 (x3 + 2) && (gX (M0 L V b) 0 1 (x3 + 3) && (gX (M0 L V b) 0 1 (x3 + 4) && (gX (M0 L V b) 0 1 (x3 + 5) && true))))) = true := an f0 (an f1 (an f2 (an f3 (an f4 rfl))))
  show some (gX (M0 L V b) 0 1 (x3 + 1) && (gX (M0 L V b) 0 1 (x3 + 2) && (gX (M0 L V b) 0 1 (x3 + 3) && (gX (M0 L V b) 0 1 (x3 + 4) && (gX (M0 L V b) 0 1 (x3 + 5) && true)))), _) = _
  rw [hG]
  try rfl

theorem B0_1344 (L : Nat) (V : Mv) (b : Bool) (x3 : Int) (s0 : Int) (s1 : Int) (g0 : in32 s0) (g1 : in32 s1) : nxs 1 0 1344 [some (.inr (.inr 0)), some (.inr (.inr 1)), some (.inr (.inr 120)), some (.inl x3)] [.inl s1, .inl s0] (M0 L V b) = some (true, cond (decide (s0 = s1)) 1768 1347, [some (.inr (.inr 0)), some (.inr (.inr 1)), some (.inr (.inr 120)), some (.inl x3)], [], M0 L V b) := by
  have f0 : (r32 s0 && r32 s1) = true := rr32_of g0 g1
  have hG : ((r32 s0 && r32 s1) && true) = true := an f0 rfl
  show some ((r32 s0 && r32 s1) && true, _) = _
  rw [hG]
  try rfl

theorem B0_1347 (L : Nat) (V : Mv) (b : Bool) (x3 : Int)  : nxs 1 0 1347 [some (.inr (.inr 0)), some (.inr (.inr 1)), some (.inr (.inr 120)), some (.inl x3)] [] (M0 L V b) = some (true, 1348, [some (.inr (.inr 0)), some (.inr (.inr 1)), some (.inr (.inr 120)), some (.inl x3)], [.inl 0], M0 L V b) := by
  rfl

theorem B0_1349 (L : Nat) (V : Mv) (b : Bool) (x3 : Int) (g0 : 0 ≤ x3 + 1 ∧ x3 + 1 < (L : Int)) (g1 : 0 ≤ x3 + 2 ∧ x3 + 2 < (L : Int)) (g2 : 0 ≤ x3 + 3 ∧ x3 + 3 < (L : Int)) (g3 : in32 (V 0 (x3 + 3).toNat)) : nxs 17 0 1349 [some (.inr (.inr 0)), some (.inr (.inr 1)), some (.inr (.inr 120)), some (.inl x3)] [] (M0 L V b) = some (true, cond (decide (V 0 (x3 + 3).toNat = 0)) 1372 1368, [some (.inr (.inr 0)), some (.inr (.inr 1)), some (.inr (.inr 120)), some (.inl x3)], [.inl (V 0 (x3 + 2).toNat), .inl (V 0 (x3 + 1).toNat), .inr (.inr 1)], M0 L V b) := by
  have f0 : gX (M0 L V b) 0 1 (x3 + 1) = true := gx_of rfl g0
  have f1 : gX (M0 L V b) 0 1 (x3 + 2) = true := gx_of rfl g1
  have f2 : gX (M0 L V b) 0 1 (x3 + 3) = true := gx_of rfl g2
  have f3 : r32 (V 0 (x3 + 3).toNat) = true := r32_of g3
  have hG : (gX (M0 L V b) 0 1 (x3 + 1) && (gX (M0 L V b) 0 1 (x3 + 2) && (gX (M0 L V b) 0 1 (x3 + 3) && (r32 (V 0 (x3 + 3).toNat) && true)))) = true := an f0 (an f1 (an f2 (an f3 rfl)))
  show some (gX (M0 L V b) 0 1 (x3 + 1) && (gX (M0 L V b) 0 1 (x3 + 2) && (gX (M0 L V b) 0 1 (x3 + 3) && (r32 (V 0 (x3 + 3).toNat) && true))), _) = _
  rw [hG]
  try rfl

theorem B0_1368 (L : Nat) (V : Mv) (b : Bool) (x3 : Int) (s1 : Int) (s2 : Int)  : nxs 2 0 1368 [some (.inr (.inr 0)), some (.inr (.inr 1)), some (.inr (.inr 120)), some (.inl x3)] [.inl s2, .inl s1, .inr (.inr 1)] (M0 L V b) = some (true, 1373, [some (.inr (.inr 0)), some (.inr (.inr 1)), some (.inr (.inr 120)), some (.inl x3)], [.inl 1, .inl s2, .inl s1, .inr (.inr 1)], M0 L V b) := by
  rfl

theorem B0_1372 (L : Nat) (V : Mv) (b : Bool) (x3 : Int) (s1 : Int) (s2 : Int)  : nxs 1 0 1372 [some (.inr (.inr 0)), some (.inr (.inr 1)), some (.inr (.inr 120)), some (.inl x3)] [.inl s2, .inl s1, .inr (.inr 1)] (M0 L V b) = some (true, 1373, [some (.inr (.inr 0)), some (.inr (.inr 1)), some (.inr (.inr 120)), some (.inl x3)], [.inl 0, .inl s2, .inl s1, .inr (.inr 1)], M0 L V b) := by
  rfl

theorem B0_1376 (L : Nat) (V : Mv) (b : Bool) (x3 : Int) (s0 : Int) (g0 : 0 ≤ x3 + 1 ∧ x3 + 1 < (L : Int)) (g1 : 0 ≤ x3 + 2 ∧ x3 + 2 < (L : Int)) (g2 : 0 ≤ x3 + 3 ∧ x3 + 3 < (L : Int)) (g3 : in32 (V 0 (x3 + 3).toNat)) : nxs 17 0 1376 [some (.inr (.inr 0)), some (.inr (.inr 1)), some (.inr (.inr 120)), some (.inl x3)] [.inr (.inl s0)] (M0 L V b) = some (true, cond (decide (V 0 (x3 + 3).toNat = 0)) 1399 1395, [some (.inr (.inr 0)), some (.inr (.inr 1)), some (.inr (.inr 120)), some (.inl x3)], [.inl (V 0 (x3 + 2).toNat), .inl (V 0 (x3 + 1).toNat), .inr (.inr 120), .inr (.inl s0)], M0 L V b) := by
  have f0 : gX (M0 L V b) 0 1 (x3 + 1) = true := gx_of rfl g0
  have f1 : gX (M0 L V b) 0 1 (x3 + 2) = true := gx_of rfl g1
  have f2 : gX (M0 L V b) 0 1 (x3 + 3) = true := gx_of rfl g2
  have f3 : r32 (V 0 (x3 + 3).toNat) = true := r32_of g3
  have hG : (gX (M0 L V b) 0 1 (x3 + 1) && (gX (M0 L V b) 0 1 (x3 + 2) && (gX (M0 L V b) 0 1 (x3 + 3) && (r32 (V 0 (x3 + 3).toNat) && true)))) = true := an f0 (an f1 (an f2 (an f3 rfl)))
  show some (gX (M0 L V b) 0 1 (x3 + 1) && (gX (M0 L V b) 0 1 (x3 + 2) && (gX (M0 L V b) 0 1 (x3 + 3) && (r32 (V 0 (x3 + 3).toNat) && true))), _) = _
  rw [hG]
  try rfl

theorem B0_1395 (L : Nat) (V : Mv) (b : Bool) (x3 : Int) (s0 : Int) (s2 : Int) (s3 : Int)  : nxs 2 0 1395 [some (.inr (.inr 0)), some (.inr (.inr 1)), some (.inr (.inr 120)), some (.inl x3)] [.inl s3, .inl s2, .inr (.inr 120), .inr (.inl s0)] (M0 L V b) = some (true, 1400, [some (.inr (.inr 0)), some (.inr (.inr 1)), some (.inr (.inr 120)), some (.inl x3)], [.inl 1, .inl s3, .inl s2, .inr (.inr 120), .inr (.inl s0)], M0 L V b) := by
  rfl

theorem B0_1399 (L : Nat) (V : Mv) (b : Bool) (x3 : Int) (s0 : Int) (s2 : Int) (s3 : Int)  : nxs 1 0 1399 [some (.inr (.inr 0)), some (.inr (.inr 1)), some (.inr (.inr 120)), some (.inl x3)] [.inl s3, .inl s2, .inr (.inr 120), .inr (.inl s0)] (M0 L V b) = some (true, 1400, [some (.inr (.inr 0)), some (.inr (.inr 1)), some (.inr (.inr 120)), some (.inl x3)], [.inl 0, .inl s3, .inl s2, .inr (.inr 120), .inr (.inl s0)], M0 L V b) := by
  rfl

theorem B0_1403 (L : Nat) (V : Mv) (b : Bool) (x3 : Int) (s0 : Int) (s1 : Int) (g0 : in64 s0) (g1 : in64 s1) (g2 : in32 (cmpI s0 s1)) : nxs 2 0 1403 [some (.inr (.inr 0)), some (.inr (.inr 1)), some (.inr (.inr 120)), some (.inl x3)] [.inr (.inl s1), .inr (.inl s0)] (M0 L V b) = some (true, cond (decide (cmpI s0 s1 = 0)) 1768 1407, [some (.inr (.inr 0)), some (.inr (.inr 1)), some (.inr (.inr 120)), some (.inl x3)], [], M0 L V b) := by
  have f0 : (r64 s0 && r64 s1) = true := rr64_of g0 g1
  have f1 : r32 (cmpI s0 s1) = true := r32_of g2
  have hG : ((r64 s0 && r64 s1) && (r32 (cmpI s0 s1) && true)) = true := an f0 (an f1 rfl)
  show some ((r64 s0 && r64 s1) && (r32 (cmpI s0 s1) && true), _) = _
  rw [hG]
  try rfl

theorem B0_1407 (L : Nat) (V : Mv) (b : Bool) (x3 : Int)  : nxs 1 0 1407 [some (.inr (.inr 0)), some (.inr (.inr 1)), some (.inr (.inr 120)), some (.inl x3)] [] (M0 L V b) = some (true, 1408, [some (.inr (.inr 0)), some (.inr (.inr 1)), some (.inr (.inr 120)), some (.inl x3)], [.inl 0], M0 L V b) := by
  rfl

theorem B0_1409 (L : Nat) (V : Mv) (b : Bool) (x3 : Int) (g0 : 0 ≤ x3 + 1 ∧ x3 + 1 < (L : Int)) (g1 : 0 ≤ x3 + 2 ∧ x3 + 2 < (L : Int)) : nxs 11 0 1409 [some (.inr (.inr 0)), some (.inr (.inr 1)), some (.inr (.inr 120)), some (.inl x3)] [] (M0 L V b) = some (true, 1420, [some (.inr (.inr 0)), some (.inr (.inr 1)), some (.inr (.inr 120)), some (.inl x3)], [.inl (V 0 (x3 + 2).toNat), .inl (V 0 (x3 + 1).toNat), .inr (.inr 1)], M0 L V b) := by
  have f0 : gX (M0 L V b) 0 1 (x3 + 1) = true := gx_of rfl g0
  have f1 : gX (M0 L V b) 0 1 (x3 + 2) = true := gx_of rfl g1
  have hG : (gX (M0 L V b) 0 1 (x3 + 1) && (gX (M0 L V b) 0 1 (x3 + 2) && true)) = true := an f0 (an f1 rfl)
  show some (gX (M0 L V b) 0 1 (x3 + 1) && (gX (M0 L V b) 0 1 (x3 + 2) && true), _) = _
  rw [hG]
  try rfl

theorem B0_1423 (L : Nat) (V : Mv) (b : Bool) (x3 : Int) (s0 : Int) (g0 : 0 ≤ x3 + 1 ∧ x3 + 1 < (L : Int)) (g1 : 0 ≤ x3 + 2 ∧ x3 + 2 < (L : Int)) : nxs 11 0 1423 [some (.inr (.inr 0)), some (.inr (.inr 1)), some (.inr (.inr 120)), some (.inl x3)] [.inl s0] (M0 L V b) = some (true, 1434, [some (.inr (.inr 0)), some (.inr (.inr 1)), some (.inr (.inr 120)), some (.inl x3)], [.inl (V 0 (x3 + 2).toNat), .inl (V 0 (x3 + 1).toNat), .inr (.inr 120), .inl s0], M0 L V b) := by
  have f0 : gX (M0 L V b) 0 1 (x3 + 1) = true := gx_of rfl g0
  have f1 : gX (M0 L V b) 0 1 (x3 + 2) = true := gx_of rfl g1
  have hG : (gX (M0 L V b) 0 1 (x3 + 1) && (gX (M0 L V b) 0 1 (x3 + 2) && true)) = true := an f0 (an f1 rfl)
  show some (gX (M0 L V b) 0 1 (x3 + 1) && (gX (M0 L V b) 0 1 (x3 + 2) && true), _) = _
  rw [hG]
  try rfl

theorem B0_1437 (L : Nat) (V : Mv) (b : Bool) (x3 : Int) (s0 : Int) (s1 : Int) (g0 : in32 s0) (g1 : in32 s1) : nxs 1 0 1437 [some (.inr (.inr 0)), some (.inr (.inr 1)), some (.inr (.inr 120)), some (.inl x3)] [.inl s1, .inl s0] (M0 L V b) = some (true, cond (decide (s0 = s1)) 1768 1440, [some (.inr (.inr 0)), some (.inr (.inr 1)), some (.inr (.inr 120)), some (.inl x3)], [], M0 L V b) := by
  have f0 : (r32 s0 && r32 s1) = true := rr32_of g0 g1
  have hG : ((r32 s0 && r32 s1) && true) = true := an f0 rfl
  show some ((r32 s0 && r32 s1) && true, _) = _
  rw [hG]
  try rfl

theorem B0_1440 (L : Nat) (V : Mv) (b : Bool) (x3 : Int)  : nxs 1 0 1440 [some (.inr (.inr 0)), some (.inr (.inr 1)), some (.inr (.inr 120)), some (.inl x3)] [] (M0 L V b) = some (true, 1441, [some (.inr (.inr 0)), some (.inr (.inr 1)), some (.inr (.inr 120)), some (.inl x3)], [.inl 0], M0 L V b) := by
  rfl

theorem B0_1442 (L : Nat) (V : Mv) (b : Bool) (x3 : Int) (g0 : 0 ≤ x3 + 1 ∧ x3 + 1 < (L : Int)) (g1 : 0 ≤ x3 + 2 ∧ x3 + 2 < (L : Int)) (g2 : 0 ≤ x3 + 3 ∧ x3 + 3 < (L : Int)) (g3 : 0 ≤ x3 + 4 ∧ x3 + 4 < (L : Int)) (g4 : 0 ≤ x3 + 5 ∧ x3 + 5 < (L : Int)) (g5 : 0 ≤ x3 + 6 ∧ x3 + 6 < (L : Int)) (g6 : in32 (V 0 (x3 + 6).toNat)) : nxs 32 0 1442 [some (.inr (.inr 0)), some (.inr (.inr 1)), some (.inr (.inr 120)), some (.inl x3)] [] (M0 L V b) = some (true, cond (decide (V 0 (x3 + 6).toNat = 0)) 1481 1477, [some (.inr (.inr 0)), some (.inr (.inr 1)), some (.inr (.inr 120)), some (.inl x3)], [.inl (V 0 (x3 + 5).toNat), .inl (V 0 (x3 + 4).toNat), .inl (V 0 (x3 + 3).toNat), .inl (V 0 (x3 + 2).toNat), .inl (V 0 (x3 + 1).toNat), .inr (.inr 1)], M0 L V b) := by
  have f0 : gX (M0 L V b) 0 1 (x3 + 1) = true := gx_of rfl g0
  have f1 : gX (M0 L V b) 0 1 (x3 + 2) = true := gx_of rfl g1
  have f2 : gX (M0 L V b) 0 1 (x3 + 3) = true := gx_of rfl g2
  have f3 : gX (M0 L V b) 0 1 (x3 + 4) = true := gx_of rfl g3
  have f4 : gX (M0 L V b) 0 1 (x3 + 5) = true := gx_of rfl g4
  have f5 : gX (M0 L V b) 0 1 (x3 + 6) = true := gx_of rfl g5
  have f6 : r32 (V 0 (x3 + 6).toNat) = true := r32_of g6
  have hG : (gX (M0 L V b) 0 1 (x3 + 1) && (gX (M0 L V b) 0 1 (x3 + 2) && (gX (M0 L V b) 0 1 (x3 + 3) && (gX (M0 L V b) 0 1 (x3 + 4) && (gX (M0 L V b) 0 1 (x3 + 5) && (gX (M0 L V b) 0 1 (x3 + 6) && (r32 (V 0 (x3 + 6).toNat) && true))))))) = true := an f0 (an f1 (an f2 (an f3 (an f4 (an f5 (an f6 rfl))))))
  show some (gX (M0 L V b) 0 1 (x3 + 1) && (gX (M0 L V b) 0 1 (x3 + 2) && (gX (M0 L V b) 0 1 (x3 + 3) && (gX (M0 L V b) 0 1 (x3 + 4) && (gX (M0 L V b) 0 1 (x3 + 5) && (gX (M0 L V b) 0 1 (x3 + 6) && (r32 (V 0 (x3 + 6).toNat) && true)))))), _) = _
  rw [hG]
  try rfl

theorem B0_1477 (L : Nat) (V : Mv) (b : Bool) (x3 : Int) (s1 : Int) (s2 : Int) (s3 : Int) (s4 : Int) (s5 : Int)  : nxs 2 0 1477 [some (.inr (.inr 0)), some (.inr (.inr 1)), some (.inr (.inr 120)), some (.inl x3)] [.inl s5, .inl s4, .inl s3, .inl s2, .inl s1, .inr (.inr 1)] (M0 L V b) = some (true, 1482, [some (.inr (.inr 0)), some (.inr (.inr 1)), some (.inr (.inr 120)), some (.inl x3)], [.inl 1, .inl s5, .inl s4, .inl s3, .inl s2, .inl s1, .inr (.inr 1)], M0 L V b) := by
  rfl

theorem B0_1481 (L : Nat) (V : Mv) (b : Bool) (x3 : Int) (s1 : Int) (s2 : Int) (s3 : Int) (s4 : Int) (s5 : Int)  : nxs 1 0 1481 [some (.inr (.inr 0)), some (.inr (.inr 1)), some (.inr (.inr 120)), some (.inl x3)] [.inl s5, .inl s4, .inl s3, .inl s2, .inl s1, .inr (.inr 1)] (M0 L V b) = some (true, 1482, [some (.inr (.inr 0)), some (.inr (.inr 1)), some (.inr (.inr 120)), some (.inl x3)], [.inl 0, .inl s5, .inl s4, .inl s3, .inl s2, .inl s1, .inr (.inr 1)], M0 L V b) := by
  rfl

theorem B0_1485 (L : Nat) (V : Mv) (b : Bool) (x3 : Int) (s0 : Int) (g0 : 0 ≤ x3 + 1 ∧ x3 + 1 < (L : Int)) (g1 : 0 ≤ x3 + 2 ∧ x3 + 2 < (L : Int)) (g2 : 0 ≤ x3 + 3 ∧ x3 + 3 < (L : Int)) (g3 : 0 ≤ x3 + 4 ∧ x3 + 4 < (L : Int)) (g4 : 0 ≤ x3 + 5 ∧ x3 + 5 < (L : Int)) (g5 : 0 ≤ x3 + 6 ∧ x3 + 6 < (L : Int)) (g6 : in32 (V 0 (x3 + 6).toNat)) : nxs 32 0 1485 [some (.inr (.inr 0)), some (.inr (.inr 1)), some (.inr (.inr 120)), some (.inl x3)] [.inr (.inl s0)] (M0 L V b) = some (true, cond (decide (V 0 (x3 + 6).toNat = 0)) 1524 1520, [some (.inr (.inr 0)), some (.inr (.inr 1)), some (.inr (.inr 120)), some (.inl x3)], [.inl (V 0 (x3 + 5).toNat), .inl (V 0 (x3 + 4).toNat), .inl (V 0 (x3 + 3).toNat), .inl (V 0 (x3 + 2).toNat), .inl (V 0 (x3 + 1).toNat), .inr (.inr 120), .inr (.inl s0)], M0 L V b) := by
  have f0 : gX (M0 L V b) 0 1 (x3 + 1) = true := gx_of rfl g0
  have f1 : gX (M0 L V b) 0 1 (x3 + 2) = true := gx_of rfl g1
  have f2 : gX (M0 L V b) 0 1 (x3 + 3) = true := gx_of rfl g2
  have f3 : gX (M0 L V b) 0 1 (x3 + 4) = true := gx_of rfl g3
  have f4 : gX (M0 L V b) 0 1 (x3 + 5) = true := gx_of rfl g4
  have f5 : gX (M0 L V b) 0 1 (x3 + 6) = true := gx_of rfl g5
  have f6 : r32 (V 0 (x3 + 6).toNat) = true := r32_of g6
  have hG : (gX (M0 L V b) 0 1 (x3 + 1) && (gX (M0 L V b) 0 1 (x3 + 2) && (gX (M0 L V b) 0 1 (x3 + 3) && (gX (M0 L V b) 0 1 (x3 + 4) && (gX (M0 L V b) 0 1 (x3 + 5) && (gX (M0 L V b) 0 1 (x3 + 6) && (r32 (V 0 (x3 + 6).toNat) && true))))))) = true := an f0 (an f1 (an f2 (an f3 (an f4 (an f5 (an f6 rfl))))))
  show some (gX (M0 L V b) 0 1 (x3 + 1) && (gX (M0 L V b) 0 1 (x3 + 2) && (gX (M0 L V b) 0 1 (x3 + 3) && (gX (M0 L V b) 0 1 (x3 + 4) && (gX (M0 L V b) 0 1 (x3 + 5) && (gX (M0 L V b) 0 1 (x3 + 6) && (r32 (V 0 (x3 + 6).toNat) && true)))))), _) = _
  rw [hG]
  try rfl

theorem B0_1520 (L : Nat) (V : Mv) (b : Bool) (x3 : Int) (s0 : Int) (s2 : Int) (s3 : Int) (s4 : Int) (s5 : Int) (s6 : Int)  : nxs 2 0 1520 [some (.inr (.inr 0)), some (.inr (.inr 1)), some (.inr (.inr 120)), some (.inl x3)] [.inl s6, .inl s5, .inl s4, .inl s3, .inl s2, .inr (.inr 120), .inr (.inl s0)] (M0 L V b) = some (true, 1525, [some (.inr (.inr 0)), some (.inr (.inr 1)), some (.inr (.inr 120)), some (.inl x3)], [.inl 1, .inl s6, .inl s5, .inl s4, .inl s3, .inl s2, .inr (.inr 120), .inr (.inl s0)], M0 L V b) := by
  rfl

theorem B0_1524 (L : Nat) (V : Mv) (b : Bool) (x3 : Int) (s0 : Int) (s2 : Int) (s3 : Int) (s4 : Int) (s5 : Int) (s6 : Int)  : nxs 1 0 1524 [some (.inr (.inr 0)), some (.inr (.inr 1)), some (.inr (.inr 120)), some (.inl x3)] [.inl s6, .inl s5, .inl s4, .inl s3, .inl s2, .inr (.inr 120), .inr (.inl s0)] (M0 L V b) = some (true, 1525, [some (.inr (.inr 0)), some (.inr (.inr 1)), some (.inr (.inr 120)), some (.inl x3)], [.inl 0, .inl s6, .inl s5, .inl s4, .inl s3, .inl s2, .inr (.inr 120), .inr (.inl s0)], M0 L V b) := by
  rfl

theorem B0_1528 (L : Nat) (V : Mv) (b : Bool) (x3 : Int) (s0 : Int) (s1 : Int) (g0 : in64 s0) (g1 : in64 s1) (g2 : in32 (cmpI s0 s1)) : nxs 2 0 1528 [some (.inr (.inr 0)), some (.inr (.inr 1)), some (.inr (.inr 120)), some (.inl x3)] [.inr (.inl s1), .inr (.inl s0)] (M0 L V b) = some (true, cond (decide (cmpI s0 s1 = 0)) 1768 1532, [some (.inr (.inr 0)), some (.inr (.inr 1)), some (.inr (.inr 120)), some (.inl x3)], [], M0 L V b) := by
  have f0 : (r64 s0 && r64 s1) = true := rr64_of g0 g1
  have f1 : r32 (cmpI s0 s1) = true := r32_of g2
  have hG : ((r64 s0 && r64 s1) && (r32 (cmpI s0 s1) && true)) = true := an f0 (an f1 rfl)
  show some ((r64 s0 && r64 s1) && (r32 (cmpI s0 s1) && true), _) = _
  rw [hG]
  try rfl

theorem B0_1532 (L : Nat) (V : Mv) (b : Bool) (x3 : Int)  : nxs 1 0 1532 [some (.inr (.inr 0)), some (.inr (.inr 1)), some (.inr (.inr 120)), some (.inl x3)] [] (M0 L V b) = some (true, 1533, [some (.inr (.inr 0)), some (.inr (.inr 1)), some (.inr (.inr 120)), some (.inl x3)], [.inl 0], M0 L V b) := by
  rfl

theorem B0_1534 (L : Nat) (V : Mv) (b : Bool) (x3 : Int) (g0 : 0 ≤ x3 + 1 ∧ x3 + 1 < (L : Int)) (g1 : 0 ≤ x3 + 2 ∧ x3 + 2 < (L : Int)) (g2 : 0 ≤ x3 + 3 ∧ x3 + 3 < (L : Int)) (g3 : 0 ≤ x3 + 4 ∧ x3 + 4 < (L : Int)) (g4 : 0 ≤ x3 + 5 ∧ x3 + 5 < (L : Int)) : nxs 26 0 1534 [some (.inr (.inr 0)), some (.inr (.inr 1)), some (.inr (.inr 120)), some (.inl x3)] [] (M0 L V b) = some (true, 1560, [some (.inr (.inr 0)), some (.inr (.inr 1)), some (.inr (.inr 120)), some (.inl x3)], [.inl (V 0 (x3 + 5).toNat), .inl (V 0 (x3 + 4).toNat), .inl (V 0 (x3 + 3).toNat), .inl (V 0 (x3 + 2).toNat), .inl (V 0 (x3 + 1).toNat), .inr (.inr 1)], M0 L V b) := by
  have f0 : gX (M0 L V b) 0 1 (x3 + 1) = true := gx_of rfl g0
  have f1 : gX (M0 L V b) 0 1 (x3 + 2) = true := gx_of rfl g1
  have f2 : gX (M0 L V b) 0 1 (x3 + 3) = true := gx_of rfl g2
  have f3 : gX (M0 L V b) 0 1 (x3 + 4) = true := gx_of rfl g3
  have f4 : gX (M0 L V b) 0 1 (x3 + 5) = true := gx_of rfl g4
  have hG : (gX (M0 L V b) 0 1 (x3 + 1) && (gX (M0 L V b) 0 1 (x3 + 2) && (gX (M0 L V b) 0 1 (x3 + 3) && (gX (M0 L V b) 0 1 (x3 + 4) && (gX (M0 L V b) 0 1 (x3 + 5) && true))))) = true := an f0 (an f1 (an f2 (an f3 (an f4 rfl))))
  show some (gX (M0 L V b) 0 1 (x3 + 1) && (gX (M0 L V b) 0 1 (x3 + 2) && (gX (M0 L V b) 0 1 (x3 + 3) && (gX (M0 L V b) 0 1 (x3 + 4) && (gX (M0 L V b) 0 1 (x3 + 5) && true)))), _) = _
  rw [hG]
  try rfl

theorem B0_1563 (L : Nat) (V : Mv) (b : Bool) (x3 : Int) (s0 : Int) (g0 : 0 ≤ x3 + 1 ∧ x3 + 1 < (L : Int)) (g1 : 0 ≤ x3 + 2 ∧ x3 + 2 < (L : Int)) (g2 : 0 ≤ x3 + 3 ∧ x3 + 3 < (L : Int)) (g3 : 0 ≤ x3 + 4 ∧ x3 + 4 < (L : Int)) (g4 : 0 ≤ x3 + 5 ∧ x3 + 5 < (L : Int)) : nxs 26 0 1563 [some (.inr (.inr 0)), some (.inr (.inr 1)), some (.inr (.inr 120)), some (.inl x3)] [.inl s0] (M0 L V b) = some (true, 1589, [some (.inr (.inr 0)), some (.inr (.inr 1)), some (.inr (.inr 120)), some (.inl x3)], [.inl (V 0 (x3 + 5).toNat), .inl (V 0 (x3 + 4).toNat), .inl (V 0 (x3 + 3).toNat), .inl (V 0 (x3 + 2).toNat), .inl (V 0 (x3 + 1).toNat), .inr (.inr 120), .inl s0], M0 L V b) := by
  have f0 : gX (M0 L V b) 0 1 (x3 + 1) = true := gx_of rfl g0
  have f1 : gX (M0 L V b) 0 1 (x3 + 2) = true := gx_of rfl g1
  have f2 : gX (M0 L V b) 0 1 (x3 + 3) = true := gx_of rfl g2
  have f3 : gX (M0 L V b) 0 1 (x3 + 4) = true := gx_of rfl g3
  have f4 : gX (M0 L V b) 0 1 (x3 + 5) = true := gx_of rfl g4
  have hG : (gX (M0 L V b) 0 1 (x3 + 1) && (gX (M0 L V b) 0 1 (x3 + 2) && (gX (M0 L V b) 0 1 (x3 + 3) && (gX (M0 L V b) 0 1 (x3 + 4) && (gX (M0 L V b) 0 1 (x3 + 5) && true))))) = true := an f0 (an f1 (an f2 (an f3 (an f4 rfl))))
  show some (gX (M0 L V b) 0 1 (x3 + 1) && (gX (M0 L V b) 0 1 (x3 + 2) && (gX (M0 L V b) 0 1 (x3 + 3) && (gX (M0 L V b) 0 1 (x3 + 4) && (gX (M0 L V b) 0 1 (x3 + 5) && true)))), _) = _
  rw [hG]
  try rfl

theorem B0_1592 (L : Nat) (V : Mv) (b : Bool) (x3 : Int) (s0 : Int) (s1 : Int) (g0 : in32 s0) (g1 : in32 s1) : nxs 1 0 1592 [some (.inr (.inr 0)), some (.inr (.inr 1)), some (.inr (.inr 120)), some (.inl x3)] [.inl s1, .inl s0] (M0 L V b) = some (true, cond (decide (s0 = s1)) 1768 1595, [some (.inr (.inr 0)), some (.inr (.inr 1)), some (.inr (.inr 120)), some (.inl x3)], [], M0 L V b) := by
  have f0 : (r32 s0 && r32 s1) = true := rr32_of g0 g1
  have hG : ((r32 s0 && r32 s1) && true) = true := an f0 rfl
  show some ((r32 s0 && r32 s1) && true, _) = _
  rw [hG]
  try rfl

theorem B0_1595 (L : Nat) (V : Mv) (b : Bool) (x3 : Int)  : nxs 1 0 1595 [some (.inr (.inr 0)), some (.inr (.inr 1)), some (.inr (.inr 120)), some (.inl x3)] [] (M0 L V b) = some (true, 1596, [some (.inr (.inr 0)), some (.inr (.inr 1)), some (.inr (.inr 120)), some (.inl x3)], [.inl 0], M0 L V b) := by
  rfl

theorem B0_1597 (L : Nat) (V : Mv) (b : Bool) (x3 : Int) (g0 : 0 ≤ x3 + 1 ∧ x3 + 1 < (L : Int)) : nxs 6 0 1597 [some (.inr (.inr 0)), some (.inr (.inr 1)), some (.inr (.inr 120)), some (.inl x3)] [] (M0 L V b) = some (true, 1603, [some (.inr (.inr 0)), some (.inr (.inr 1)), some (.inr (.inr 120)), some (.inl x3)], [.inl (V 0 (x3 + 1).toNat), .inr (.inr 1)], M0 L V b) := by
  have f0 : gX (M0 L V b) 0 1 (x3 + 1) = true := gx_of rfl g0
  have hG : (gX (M0 L V b) 0 1 (x3 + 1) && true) = true := an f0 rfl
  show some (gX (M0 L V b) 0 1 (x3 + 1) && true, _) = _
  rw [hG]
  try rfl

theorem B0_1606 (L : Nat) (V : Mv) (b : Bool) (x3 : Int) (s0 : Int) (g0 : 0 ≤ x3 + 1 ∧ x3 + 1 < (L : Int)) : nxs 6 0 1606 [some (.inr (.inr 0)), some (.inr (.inr 1)), some (.inr (.inr 120)), some (.inl x3)] [.inl s0] (M0 L V b) = some (true, 1612, [some (.inr (.inr 0)), some (.inr (.inr 1)), some (.inr (.inr 120)), some (.inl x3)], [.inl (V 0 (x3 + 1).toNat), .inr (.inr 120), .inl s0], M0 L V b) := by
  have f0 : gX (M0 L V b) 0 1 (x3 + 1) = true := gx_of rfl g0
  have hG : (gX (M0 L V b) 0 1 (x3 + 1) && true) = true := an f0 rfl
  show some (gX (M0 L V b) 0 1 (x3 + 1) && true, _) = _
  rw [hG]
  try rfl

theorem B0_1615 (L : Nat) (V : Mv) (b : Bool) (x3 : Int) (s0 : Int) (s1 : Int) (g0 : in32 s0) (g1 : in32 s1) : nxs 1 0 1615 [some (.inr (.inr 0)), some (.inr (.inr 1)), some (.inr (.inr 120)), some (.inl x3)] [.inl s1, .inl s0] (M0 L V b) = some (true, cond (decide (s0 = s1)) 1768 1618, [some (.inr (.inr 0)), some (.inr (.inr 1)), some (.inr (.inr 120)), some (.inl x3)], [], M0 L V b) := by
  have f0 : (r32 s0 && r32 s1) = true := rr32_of g0 g1
  have hG : ((r32 s0 && r32 s1) && true) = true := an f0 rfl
  show some ((r32 s0 && r32 s1) && true, _) = _
  rw [hG]
  try rfl

theorem B0_1618 (L : Nat) (V : Mv) (b : Bool) (x3 : Int)  : nxs 1 0 1618 [some (.inr (.inr 0)), some (.inr (.inr 1)), some (.inr (.inr 120)), some (.inl x3)] [] (M0 L V b) = some (true, 1619, [some (.inr (.inr 0)), some (.inr (.inr 1)), some (.inr (.inr 120)), some (.inl x3)], [.inl 0], M0 L V b) := by
  rfl

theorem B0_1620 (L : Nat) (V : Mv) (b : Bool) (x3 : Int)  : nxs 1 0 1620 [some (.inr (.inr 0)), some (.inr (.inr 1)), some (.inr (.inr 120)), some (.inl x3)] [] (M0 L V b) = some (true, 1621, [some (.inr (.inr 0)), some (.inr (.inr 1)), some (.inr (.inr 120)), some (.inl x3)], [.inr (.inr 1)], M0 L V b) := by
  rfl

theorem B0_1624 (L : Nat) (V : Mv) (b : Bool) (x3 : Int) (s0 : Int)  : nxs 1 0 1624 [some (.inr (.inr 0)), some (.inr (.inr 1)), some (.inr (.inr 120)), some (.inl x3)] [.inl s0] (M0 L V b) = some (true, 1625, [some (.inr (.inr 0)), some (.inr (.inr 1)), some (.inr (.inr 120)), some (.inl x3)], [.inr (.inr 120), .inl s0], M0 L V b) := by
  rfl

theorem B0_1628 (L : Nat) (V : Mv) (b : Bool) (x3 : Int) (s0 : Int) (s1 : Int) (g0 : in32 s0) (g1 : in32 s1) : nxs 1 0 1628 [some (.inr (.inr 0)), some (.inr (.inr 1)), some (.inr (.inr 120)), some (.inl x3)] [.inl s1, .inl s0] (M0 L V b) = some (true, cond (decide (s0 = s1)) 1768 1631, [some (.inr (.inr 0)), some (.inr (.inr 1)), some (.inr (.inr 120)), some (.inl x3)], [], M0 L V b) := by
  have f0 : (r32 s0 && r32 s1) = true := rr32_of g0 g1
  have hG : ((r32 s0 && r32 s1) && true) = true := an f0 rfl
  show some ((r32 s0 && r32 s1) && true, _) = _
  rw [hG]
  try rfl

theorem B0_1631 (L : Nat) (V : Mv) (b : Bool) (x3 : Int)  : nxs 1 0 1631 [some (.inr (.inr 0)), some (.inr (.inr 1)), some (.inr (.inr 120)), some (.inl x3)] [] (M0 L V b) = some (true, 1632, [some (.inr (.inr 0)), some (.inr (.inr 1)), some (.inr (.inr 120)), some (.inl x3)], [.inl 0], M0 L V b) := by
  rfl

theorem B0_1633 (L : Nat) (V : Mv) (b : Bool) (x3 : Int) (g0 : 0 ≤ x3 + 1 ∧ x3 + 1 < (L : Int)) : nxs 6 0 1633 [some (.inr (.inr 0)), some (.inr (.inr 1)), some (.inr (.inr 120)), some (.inl x3)] [] (M0 L V b) = some (true, 1639, [some (.inr (.inr 0)), some (.inr (.inr 1)), some (.inr (.inr 120)), some (.inl x3)], [.inl (V 0 (x3 + 1).toNat), .inr (.inr 1)], M0 L V b) := by
  have f0 : gX (M0 L V b) 0 1 (x3 + 1) = true := gx_of rfl g0
  have hG : (gX (M0 L V b) 0 1 (x3 + 1) && true) = true := an f0 rfl
  show some (gX (M0 L V b) 0 1 (x3 + 1) && true, _) = _
  rw [hG]
  try rfl

theorem B0_1642 (L : Nat) (V : Mv) (b : Bool) (x3 : Int) (s0 : Int) (g0 : 0 ≤ x3 + 1 ∧ x3 + 1 < (L : Int)) : nxs 6 0 1642 [some (.inr (.inr 0)), some (.inr (.inr 1)), some (.inr (.inr 120)), some (.inl x3)] [.inl s0] (M0 L V b) = some (true, 1648, [some (.inr (.inr 0)), some (.inr (.inr 1)), some (.inr (.inr 120)), some (.inl x3)], [.inl (V 0 (x3 + 1).toNat), .inr (.inr 120), .inl s0], M0 L V b) := by
  have f0 : gX (M0 L V b) 0 1 (x3 + 1) = true := gx_of rfl g0
  have hG : (gX (M0 L V b) 0 1 (x3 + 1) && true) = true := an f0 rfl
  show some (gX (M0 L V b) 0 1 (x3 + 1) && true, _) = _
  rw [hG]
  try rfl

theorem B0_1651 (L : Nat) (V : Mv) (b : Bool) (x3 : Int) (s0 : Int) (s1 : Int) (g0 : in32 s0) (g1 : in32 s1) : nxs 1 0 1651 [some (.inr (.inr 0)), some (.inr (.inr 1)), some (.inr (.inr 120)), some (.inl x3)] [.inl s1, .inl s0] (M0 L V b) = some (true, cond (decide (s0 = s1)) 1768 1654, [some (.inr (.inr 0)), some (.inr (.inr 1)), some (.inr (.inr 120)), some (.inl x3)], [], M0 L V b) := by
  have f0 : (r32 s0 && r32 s1) = true := rr32_of g0 g1
  have hG : ((r32 s0 && r32 s1) && true) = true := an f0 rfl
  show some ((r32 s0 && r32 s1) && true, _) = _
  rw [hG]
  try rfl

theorem B0_1654 (L : Nat) (V : Mv) (b : Bool) (x3 : Int)  : nxs 1 0 1654 [some (.inr (.inr 0)), some (.inr (.inr 1)), some (.inr (.inr 120)), some (.inl x3)] [] (M0 L V b) = some (true, 1655, [some (.inr (.inr 0)), some (.inr (.inr 1)), some (.inr (.inr 120)), some (.inl x3)], [.inl 0], M0 L V b) := by
  rfl

theorem B0_1656 (L : Nat) (V : Mv) (b : Bool) (x3 : Int) (g0 : 0 ≤ x3 + 1 ∧ x3 + 1 < (L : Int)) (g1 : 0 ≤ x3 + 2 ∧ x3 + 2 < (L : Int)) (g2 : 0 ≤ x3 + 3 ∧ x3 + 3 < (L : Int)) : nxs 16 0 1656 [some (.inr (.inr 0)), some (.inr (.inr 1)), some (.inr (.inr 120)), some (.inl x3)] [] (M0 L V b) = some (true, 1672, [some (.inr (.inr 0)), some (.inr (.inr 1)), some (.inr (.inr 120)), some (.inl x3)], [.inl (V 0 (x3 + 3).toNat), .inl (V 0 (x3 + 2).toNat), .inl (V 0 (x3 + 1).toNat), .inr (.inr 1)], M0 L V b) := by
  have f0 : gX (M0 L V b) 0 1 (x3 + 1) = true := gx_of rfl g0
  have f1 : gX (M0 L V b) 0 1 (x3 + 2) = true := gx_of rfl g1
  have f2 : gX (M0 L V b) 0 1 (x3 + 3) = true := gx_of rfl g2
  have hG : (gX (M0 L V b) 0 1 (x3 + 1) && (gX (M0 L V b) 0 1 (x3 + 2) && (gX (M0 L V b) 0 1 (x3 + 3) && true))) = true := an f0 (an f1 (an f2 rfl))
  show some (gX (M0 L V b) 0 1 (x3 + 1) && (gX (M0 L V b) 0 1 (x3 + 2) && (gX (M0 L V b) 0 1 (x3 + 3) && true)), _) = _
  rw [hG]
  try rfl

theorem B0_1675 (L : Nat) (V : Mv) (b : Bool) (x3 : Int) (s0 : Int) (g0 : 0 ≤ x3 + 1 ∧ x3 + 1 < (L : Int)) (g1 : 0 ≤ x3 + 2 ∧ x3 + 2 < (L : Int)) (g2 : 0 ≤ x3 + 3 ∧ x3 + 3 < (L : Int)) : nxs 16 0 1675 [some (.inr (.inr 0)), some (.inr (.inr 1)), some (.inr (.inr 120)), some (.inl x3)] [.inl s0] (M0 L V b) = some (true, 1691, [some (.inr (.inr 0)), some (.inr (.inr 1)), some (.inr (.inr 120)), some (.inl x3)], [.inl (V 0 (x3 + 3).toNat), .inl (V 0 (x3 + 2).toNat), .inl (V 0 (x3 + 1).toNat), .inr (.inr 120), .inl s0], M0 L V b) := by
  have f0 : gX (M0 L V b) 0 1 (x3 + 1) = true := gx_of rfl g0
  have f1 : gX (M0 L V b) 0 1 (x3 + 2) = true := gx_of rfl g1
  have f2 : gX (M0 L V b) 0 1 (x3 + 3) = true := gx_of rfl g2
  have hG : (gX (M0 L V b) 0 1 (x3 + 1) && (gX (M0 L V b) 0 1 (x3 + 2) && (gX (M0 L V b) 0 1 (x3 + 3) && true))) = true := an f0 (an f1 (an f2 rfl))
  show some (gX (M0 L V b) 0 1 (x3 + 1) && (gX (M0 L V b) 0 1 (x3 + 2) && (gX (M0 L V b) 0 1 (x3 + 3) && true)), _) = _
  rw [hG]
  try rfl

theorem B0_1694 (L : Nat) (V : Mv) (b : Bool) (x3 : Int) (s0 : Int) (s1 : Int) (g0 : in32 s0) (g1 : in32 s1) : nxs 1 0 1694 [some (.inr (.inr 0)), some (.inr (.inr 1)), some (.inr (.inr 120)), some (.inl x3)] [.inl s1, .inl s0] (M0 L V b) = some (true, cond (decide (s0 = s1)) 1768 1697, [some (.inr (.inr 0)), some (.inr (.inr 1)), some (.inr (.inr 120)), some (.inl x3)], [], M0 L V b) := by
  have f0 : (r32 s0 && r32 s1) = true := rr32_of g0 g1
  have hG : ((r32 s0 && r32 s1) && true) = true := an f0 rfl
  show some ((r32 s0 && r32 s1) && true, _) = _
  rw [hG]
  try rfl

theorem B0_1697 (L : Nat) (V : Mv) (b : Bool) (x3 : Int)  : nxs 1 0 1697 [some (.inr (.inr 0)), some (.inr (.inr 1)), some (.inr (.inr 120)), some (.inl x3)] [] (M0 L V b) = some (true, 1698, [some (.inr (.inr 0)), some (.inr (.inr 1)), some (.inr (.inr 120)), some (.inl x3)], [.inl 0], M0 L V b) := by
  rfl

theorem B0_1699 (L : Nat) (V : Mv) (b : Bool) (x3 : Int) (g0 : 0 ≤ x3 + 1 ∧ x3 + 1 < (L : Int)) : nxs 6 0 1699 [some (.inr (.inr 0)), some (.inr (.inr 1)), some (.inr (.inr 120)), some (.inl x3)] [] (M0 L V b) = some (true, 1705, [some (.inr (.inr 0)), some (.inr (.inr 1)), some (.inr (.inr 120)), some (.inl x3)], [.inl (V 0 (x3 + 1).toNat), .inr (.inr 1)], M0 L V b) := by
  have f0 : gX (M0 L V b) 0 1 (x3 + 1) = true := gx_of rfl g0
  have hG : (gX (M0 L V b) 0 1 (x3 + 1) && true) = true := an f0 rfl
  show some (gX (M0 L V b) 0 1 (x3 + 1) && true, _) = _
  rw [hG]
  try rfl

theorem B0_1708 (L : Nat) (V : Mv) (b : Bool) (x3 : Int) (s0 : Int) (g0 : 0 ≤ x3 + 1 ∧ x3 + 1 < (L : Int)) : nxs 6 0 1708 [some (.inr (.inr 0)), some (.inr (.inr 1)), some (.inr (.inr 120)), some (.inl x3)] [.inl s0] (M0 L V b) = some (true, 1714, [some (.inr (.inr 0)), some (.inr (.inr 1)), some (.inr (.inr 120)), some (.inl x3)], [.inl (V 0 (x3 + 1).toNat), .inr (.inr 120), .inl s0], M0 L V b) := by
  have f0 : gX (M0 L V b) 0 1 (x3 + 1) = true := gx_of rfl g0
  have hG : (gX (M0 L V b) 0 1 (x3 + 1) && true) = true := an f0 rfl
  show some (gX (M0 L V b) 0 1 (x3 + 1) && true, _) = _
  rw [hG]
  try rfl

theorem B0_1717 (L : Nat) (V : Mv) (b : Bool) (x3 : Int) (s0 : Int) (s1 : Int) (g0 : in32 s0) (g1 : in32 s1) : nxs 1 0 1717 [some (.inr (.inr 0)), some (.inr (.inr 1)), some (.inr (.inr 120)), some (.inl x3)] [.inl s1, .inl s0] (M0 L V b) = some (true, cond (decide (s0 = s1)) 1768 1720, [some (.inr (.inr 0)), some (.inr (.inr 1)), some (.inr (.inr 120)), some (.inl x3)], [], M0 L V b) := by
  have f0 : (r32 s0 && r32 s1) = true := rr32_of g0 g1
  have hG : ((r32 s0 && r32 s1) && true) = true := an f0 rfl
  show some ((r32 s0 && r32 s1) && true, _) = _
  rw [hG]
  try rfl

theorem B0_1720 (L : Nat) (V : Mv) (b : Bool) (x3 : Int)  : nxs 1 0 1720 [some (.inr (.inr 0)), some (.inr (.inr 1)), some (.inr (.inr 120)), some (.inl x3)] [] (M0 L V b) = some (true, 1721, [some (.inr (.inr 0)), some (.inr (.inr 1)), some (.inr (.inr 120)), some (.inl x3)], [.inl 0], M0 L V b) := by
  rfl

theorem B0_1722 (L : Nat) (V : Mv) (b : Bool) (x3 : Int) (g0 : 0 ≤ x3 + 1 ∧ x3 + 1 < (L : Int)) : nxs 6 0 1722 [some (.inr (.inr 0)), some (.inr (.inr 1)), some (.inr (.inr 120)), some (.inl x3)] [] (M0 L V b) = some (true, 1728, [some (.inr (.inr 0)), some (.inr (.inr 1)), some (.inr (.inr 120)), some (.inl x3)], [.inl (V 0 (x3 + 1).toNat), .inr (.inr 1)], M0 L V b) := by
  have f0 : gX (M0 L V b) 0 1 (x3 + 1) = true := gx_of rfl g0
  have hG : (gX (M0 L V b) 0 1 (x3 + 1) && true) = true := an f0 rfl
  show some (gX (M0 L V b) 0 1 (x3 + 1) && true, _) = _
  rw [hG]
  try rfl

theorem B0_1731 (L : Nat) (V : Mv) (b : Bool) (x3 : Int) (s0 : Int) (g0 : 0 ≤ x3 + 1 ∧ x3 + 1 < (L : Int)) : nxs 6 0 1731 [some (.inr (.inr 0)), some (.inr (.inr 1)), some (.inr (.inr 120)), some (.inl x3)] [.inl s0] (M0 L V b) = some (true, 1737, [some (.inr (.inr 0)), some (.inr (.inr 1)), some (.inr (.inr 120)), some (.inl x3)], [.inl (V 0 (x3 + 1).toNat), .inr (.inr 120), .inl s0], M0 L V b) := by
  have f0 : gX (M0 L V b) 0 1 (x3 + 1) = true := gx_of rfl g0
  have hG : (gX (M0 L V b) 0 1 (x3 + 1) && true) = true := an f0 rfl
  show some (gX (M0 L V b) 0 1 (x3 + 1) && true, _) = _
  rw [hG]
  try rfl

theorem B0_1740 (L : Nat) (V : Mv) (b : Bool) (x3 : Int) (s0 : Int) (s1 : Int) (g0 : in32 s0) (g1 : in32 s1) : nxs 1 0 1740 [some (.inr (.inr 0)), some (.inr (.inr 1)), some (.inr (.inr 120)), some (.inl x3)] [.inl s1, .inl s0] (M0 L V b) = some (true, cond (decide (s0 = s1)) 1768 1743, [some (.inr (.inr 0)), some (.inr (.inr 1)), some (.inr (.inr 120)), some (.inl x3)], [], M0 L V b) := by
  have f0 : (r32 s0 && r32 s1) = true := rr32_of g0 g1
  have hG : ((r32 s0 && r32 s1) && true) = true := an f0 rfl
  show some ((r32 s0 && r32 s1) && true, _) = _
  rw [hG]
  try rfl

theorem B0_1743 (L : Nat) (V : Mv) (b : Bool) (x3 : Int)  : nxs 1 0 1743 [some (.inr (.inr 0)), some (.inr (.inr 1)), some (.inr (.inr 120)), some (.inl x3)] [] (M0 L V b) = some (true, 1744, [some (.inr (.inr 0)), some (.inr (.inr 1)), some (.inr (.inr 120)), some (.inl x3)], [.inl 0], M0 L V b) := by
  rfl

theorem B0_1745 (L : Nat) (V : Mv) (b : Bool) (x3 : Int) (g0 : 0 ≤ x3 + 1 ∧ x3 + 1 < (L : Int)) : nxs 6 0 1745 [some (.inr (.inr 0)), some (.inr (.inr 1)), some (.inr (.inr 120)), some (.inl x3)] [] (M0 L V b) = some (true, 1751, [some (.inr (.inr 0)), some (.inr (.inr 1)), some (.inr (.inr 120)), some (.inl x3)], [.inl (V 0 (x3 + 1).toNat), .inr (.inr 1)], M0 L V b) := by
  have f0 : gX (M0 L V b) 0 1 (x3 + 1) = true := gx_of rfl g0
  have hG : (gX (M0 L V b) 0 1 (x3 + 1) && true) = true := an f0 rfl
  show some (gX (M0 L V b) 0 1 (x3 + 1) && true, _) = _
  rw [hG]
  try rfl

theorem B0_1754 (L : Nat) (V : Mv) (b : Bool) (x3 : Int) (s0 : Int) (g0 : 0 ≤ x3 + 1 ∧ x3 + 1 < (L : Int)) : nxs 6 0 1754 [some (.inr (.inr 0)), some (.inr (.inr 1)), some (.inr (.inr 120)), some (.inl x3)] [.inl s0] (M0 L V b) = some (true, 1760, [some (.inr (.inr 0)), some (.inr (.inr 1)), some (.inr (.inr 120)), some (.inl x3)], [.inl (V 0 (x3 + 1).toNat), .inr (.inr 120), .inl s0], M0 L V b) := by
  have f0 : gX (M0 L V b) 0 1 (x3 + 1) = true := gx_of rfl g0
  have hG : (gX (M0 L V b) 0 1 (x3 + 1) && true) = true := an f0 rfl
  show some (gX (M0 L V b) 0 1 (x3 + 1) && true, _) = _
  rw [hG]
  try rfl

theorem B0_1763 (L : Nat) (V : Mv) (b : Bool) (x3 : Int) (s0 : Int) (s1 : Int) (g0 : in32 s0) (g1 : in32 s1) : nxs 1 0 1763 [some (.inr (.inr 0)), some (.inr (.inr 1)), some (.inr (.inr 120)), some (.inl x3)] [.inl s1, .inl s0] (M0 L V b) = some (true, cond (decide (s0 = s1)) 1768 1766, [some (.inr (.inr 0)), some (.inr (.inr 1)), some (.inr (.inr 120)), some (.inl x3)], [], M0 L V b) := by
  have f0 : (r32 s0 && r32 s1) = true := rr32_of g0 g1
  have hG : ((r32 s0 && r32 s1) && true) = true := an f0 rfl
  show some ((r32 s0 && r32 s1) && true, _) = _
  rw [hG]
  try rfl

theorem B0_1766 (L : Nat) (V : Mv) (b : Bool) (x3 : Int)  : nxs 1 0 1766 [some (.inr (.inr 0)), some (.inr (.inr 1)), some (.inr (.inr 120)), some (.inl x3)] [] (M0 L V b) = some (true, 1767, [some (.inr (.inr 0)), some (.inr (.inr 1)), some (.inr (.inr 120)), some (.inl x3)], [.inl 0], M0 L V b) := by
  rfl

theorem B0_1768 (L : Nat) (V : Mv) (b : Bool) (x3 : Int)  : nxs 2 0 1768 [some (.inr (.inr 0)), some (.inr (.inr 1)), some (.inr (.inr 120)), some (.inl x3)] [] (M0 L V b) = some (true, 18, [some (.inr (.inr 0)), some (.inr (.inr 1)), some (.inr (.inr 120)), some (.inl (x3 + 7))], [], M0 L V b) := by
  rfl

theorem B0_1774 (L : Nat) (V : Mv) (b : Bool) (x3 : Int)  : nxs 1 0 1774 [some (.inr (.inr 0)), some (.inr (.inr 1)), some (.inr (.inr 120)), some (.inl x3)] [] (M0 L V b) = some (true, 1775, [some (.inr (.inr 0)), some (.inr (.inr 1)), some (.inr (.inr 120)), some (.inl x3)], [.inl 1], M0 L V b) := by
  rfl

theorem tail0 {L N : Nat} {V : Mv} {b : Bool} {Q : Option AV → Mv → Bool → Prop} (kk : ∀ V2 b2, Iv (N + 1) V2 → Ev L 30 0 18 [some (.inr (.inr 0)), some (.inr (.inr 1)), some (.inr (.inr 120)), some (.inl (7 * ((N + 1 : Nat) : Int)))] [] V2 b2 Q) (h : Iv (N + 1) V) : Ev L 30 0 1768 [some (.inr (.inr 0)), some (.inr (.inr 1)), some (.inr (.inr 120)), some (.inl (7 * (N : Int)))] [] V b Q := by
  refine Ev.blk 2 (B0_1768 _ _ _ _) rfl ?_
  rw [show 7 * (N : Int) + 7 = 7 * ((N + 1 : Nat) : Int) by omega]
  exact kk V b h
theorem cs_0 {L N : Nat} {V : Mv} {b : Bool} {Q : Option AV → Mv → Bool → Prop} (op : ∀ a0 a1 : Int, in32 a0 → in64 a1 → OpI 2 131 [.inl a0, .inr (.inl a1)]) (hL : L ≤ 3584) (hN : N < 512) (h7 : 7 * (N : Int) + 7 ≤ (L : Int)) (hI : Iv N V) (kk : ∀ V2 b2, Iv (N + 1) V2 → Ev L 30 0 18 [some (.inr (.inr 0)), some (.inr (.inr 1)), some (.inr (.inr 120)), some (.inl (7 * ((N + 1 : Nat) : Int)))] [] V2 b2 Q) : Ev L 30 0 200 [some (.inr (.inr 0)), some (.inr (.inr 1)), some (.inr (.inr 120)), some (.inl (7 * (N : Int)))] [] V b Q := by
  have hs := hI.2
  refine Ev.blk 23 (B0_200 _ _ _ _ (by first | omega | exact hs _ | assumption | exact cmpI_in _ _ | (rw [h0]; exact hs _) | exact ⟨by omega, by omega⟩) (by first | omega | exact hs _ | assumption | exact cmpI_in _ _ | (rw [h0]; exact hs _) | exact ⟨by omega, by omega⟩) (by first | omega | exact hs _ | assumption | exact cmpI_in _ _ | (rw [h0]; exact hs _) | exact ⟨by omega, by omega⟩) (by first | omega | exact hs _ | assumption | exact cmpI_in _ _ | (rw [h0]; exact hs _) | exact ⟨by omega, by omega⟩) (by first | omega | exact hs _ | assumption | exact cmpI_in _ _ | (rw [h0]; exact hs _) | exact ⟨by omega, by omega⟩)) rfl ?_
  refine Ev.call rfl rfl (rfl) (op _ _ (hs _) (oLor_in _ _) L N V b hL hN hI) (by omega) ?_
  rintro v V1 b1 ⟨z, rfl, hz, h0, h1⟩
  refine Ev.blk 23 (B0_229 _ _ _ _ _ (by first | omega | exact hs _ | assumption | exact cmpI_in _ _ | (rw [h0]; exact hs _) | exact ⟨by omega, by omega⟩) (by first | omega | exact hs _ | assumption | exact cmpI_in _ _ | (rw [h0]; exact hs _) | exact ⟨by omega, by omega⟩) (by first | omega | exact hs _ | assumption | exact cmpI_in _ _ | (rw [h0]; exact hs _) | exact ⟨by omega, by omega⟩) (by first | omega | exact hs _ | assumption | exact cmpI_in _ _ | (rw [h0]; exact hs _) | exact ⟨by omega, by omega⟩) (by first | omega | exact hs _ | assumption | exact cmpI_in _ _ | (rw [h0]; exact hs _) | exact ⟨by omega, by omega⟩)) rfl ?_
  try rw [h0]
  refine Ev.call rfl rfl (rfl) (h1) (by omega) ?_
  rintro v V2 b2 ⟨rfl, h2⟩
  refine Ev.blk 1 (B0_258 _ _ _ _ _ _ (by first | omega | exact hs _ | assumption | exact cmpI_in _ _ | (rw [h0]; exact hs _) | exact ⟨by omega, by omega⟩) (by first | omega | exact hs _ | assumption | exact cmpI_in _ _ | (rw [h0]; exact hs _) | exact ⟨by omega, by omega⟩)) rfl ?_
  try rw [h0]
  refine Ev.ite (fun q => ?_) (fun q => ?_)
  · replace q := of_decide_eq_true q
    exact tail0 kk h2
  · replace q := of_decide_eq_false q
    refine Ev.blk 1 (B0_261 _ _ _ _) rfl ?_
    try rw [h0]
    refine Ev.ret rfl rfl rfl (by first | rfl | exact decide_eq_true (b01_or _)) ?_
    exact absurd rfl q

theorem cs_1 {L N : Nat} {V : Mv} {b : Bool} {Q : Option AV → Mv → Bool → Prop} (op : OpI 3 133 []) (hL : L ≤ 3584) (hN : N < 512) (h7 : 7 * (N : Int) + 7 ≤ (L : Int)) (hI : Iv N V) (kk : ∀ V2 b2, Iv (N + 1) V2 → Ev L 30 0 18 [some (.inr (.inr 0)), some (.inr (.inr 1)), some (.inr (.inr 120)), some (.inl (7 * ((N + 1 : Nat) : Int)))] [] V2 b2 Q) : Ev L 30 0 263 [some (.inr (.inr 0)), some (.inr (.inr 1)), some (.inr (.inr 120)), some (.inl (7 * (N : Int)))] [] V b Q := by
  have hs := hI.2
  refine Ev.blk 1 (B0_263 _ _ _ _) rfl ?_
  refine Ev.call rfl rfl (rfl) (op L N V b hL hN hI) (by omega) ?_
  rintro v V1 b1 ⟨z, rfl, hz, h0, h1⟩
  refine Ev.blk 1 (B0_267 _ _ _ _ _) rfl ?_
  try rw [h0]
  refine Ev.call rfl rfl (rfl) (h1) (by omega) ?_
  rintro v V2 b2 ⟨rfl, h2⟩
  refine Ev.blk 1 (B0_271 _ _ _ _ _ _ (by first | omega | exact hs _ | assumption | exact cmpI_in _ _ | (rw [h0]; exact hs _) | exact ⟨by omega, by omega⟩) (by first | omega | exact hs _ | assumption | exact cmpI_in _ _ | (rw [h0]; exact hs _) | exact ⟨by omega, by omega⟩)) rfl ?_
  try rw [h0]
  refine Ev.ite (fun q => ?_) (fun q => ?_)
  · replace q := of_decide_eq_true q
    exact tail0 kk h2
  · replace q := of_decide_eq_false q
    refine Ev.blk 1 (B0_274 _ _ _ _) rfl ?_
    try rw [h0]
    refine Ev.ret rfl rfl rfl (by first | rfl | exact decide_eq_true (b01_or _)) ?_
    exact absurd rfl q

theorem cs_2 {L N : Nat} {V : Mv} {b : Bool} {Q : Option AV → Mv → Bool → Prop} (op : OpI 4 134 []) (hL : L ≤ 3584) (hN : N < 512) (h7 : 7 * (N : Int) + 7 ≤ (L : Int)) (hI : Iv N V) (kk : ∀ V2 b2, Iv (N + 1) V2 → Ev L 30 0 18 [some (.inr (.inr 0)), some (.inr (.inr 1)), some (.inr (.inr 120)), some (.inl (7 * ((N + 1 : Nat) : Int)))] [] V2 b2 Q) : Ev L 30 0 276 [some (.inr (.inr 0)), some (.inr (.inr 1)), some (.inr (.inr 120)), some (.inl (7 * (N : Int)))] [] V b Q := by
  have hs := hI.2
  refine Ev.blk 1 (B0_276 _ _ _ _) rfl ?_
  refine Ev.call rfl rfl (rfl) (op L N V b hL hN hI) (by omega) ?_
  rintro v V1 b1 ⟨z, rfl, hz, h0, h1⟩
  refine Ev.blk 1 (B0_280 _ _ _ _ _) rfl ?_
  try rw [h0]
  refine Ev.call rfl rfl (rfl) (h1) (by omega) ?_
  rintro v V2 b2 ⟨rfl, h2⟩
  refine Ev.blk 1 (B0_284 _ _ _ _ _ _ (by first | omega | exact hs _ | assumption | exact cmpI_in _ _ | (rw [h0]; exact hs _) | exact ⟨by omega, by omega⟩) (by first | omega | exact hs _ | assumption | exact cmpI_in _ _ | (rw [h0]; exact hs _) | exact ⟨by omega, by omega⟩)) rfl ?_
  try rw [h0]
  refine Ev.ite (fun q => ?_) (fun q => ?_)
  · replace q := of_decide_eq_true q
    exact tail0 kk h2
  · replace q := of_decide_eq_false q
    refine Ev.blk 1 (B0_287 _ _ _ _) rfl ?_
    try rw [h0]
    refine Ev.ret rfl rfl rfl (by first | rfl | exact decide_eq_true (b01_or _)) ?_
    exact absurd rfl q

theorem cs_3 {L N : Nat} {V : Mv} {b : Bool} {Q : Option AV → Mv → Bool → Prop} (op : ∀ a0 : Int, in32 a0 → OpI 5 144 [.inl a0]) (hL : L ≤ 3584) (hN : N < 512) (h7 : 7 * (N : Int) + 7 ≤ (L : Int)) (hI : Iv N V) (kk : ∀ V2 b2, Iv (N + 1) V2 → Ev L 30 0 18 [some (.inr (.inr 0)), some (.inr (.inr 1)), some (.inr (.inr 120)), some (.inl (7 * ((N + 1 : Nat) : Int)))] [] V2 b2 Q) : Ev L 30 0 289 [some (.inr (.inr 0)), some (.inr (.inr 1)), some (.inr (.inr 120)), some (.inl (7 * (N : Int)))] [] V b Q := by
  have hs := hI.2
  refine Ev.blk 6 (B0_289 _ _ _ _ (by first | omega | exact hs _ | assumption | exact cmpI_in _ _ | (rw [h0]; exact hs _) | exact ⟨by omega, by omega⟩)) rfl ?_
  refine Ev.call rfl rfl (rfl) (op _ (hs _) L N V b hL hN hI) (by omega) ?_
  rintro v V1 b1 ⟨z, rfl, hz, h0, h1⟩
  refine Ev.blk 6 (B0_298 _ _ _ _ _ (by first | omega | exact hs _ | assumption | exact cmpI_in _ _ | (rw [h0]; exact hs _) | exact ⟨by omega, by omega⟩)) rfl ?_
  try rw [h0]
  refine Ev.call rfl rfl (rfl) (h1) (by omega) ?_
  rintro v V2 b2 ⟨rfl, h2⟩
  refine Ev.blk 1 (B0_307 _ _ _ _ _ _ (by first | omega | exact hs _ | assumption | exact cmpI_in _ _ | (rw [h0]; exact hs _) | exact ⟨by omega, by omega⟩) (by first | omega | exact hs _ | assumption | exact cmpI_in _ _ | (rw [h0]; exact hs _) | exact ⟨by omega, by omega⟩)) rfl ?_
  try rw [h0]
  refine Ev.ite (fun q => ?_) (fun q => ?_)
  · replace q := of_decide_eq_true q
    exact tail0 kk h2
  · replace q := of_decide_eq_false q
    refine Ev.blk 1 (B0_310 _ _ _ _) rfl ?_
    try rw [h0]
    refine Ev.ret rfl rfl rfl (by first | rfl | exact decide_eq_true (b01_or _)) ?_
    exact absurd rfl q

theorem cs_4 {L N : Nat} {V : Mv} {b : Bool} {Q : Option AV → Mv → Bool → Prop} (op : ∀ a0 a1 : Int, in32 a0 → in32 a1 → OpI 7 146 [.inl a0, .inl a1]) (hL : L ≤ 3584) (hN : N < 512) (h7 : 7 * (N : Int) + 7 ≤ (L : Int)) (hI : Iv N V) (kk : ∀ V2 b2, Iv (N + 1) V2 → Ev L 30 0 18 [some (.inr (.inr 0)), some (.inr (.inr 1)), some (.inr (.inr 120)), some (.inl (7 * ((N + 1 : Nat) : Int)))] [] V2 b2 Q) : Ev L 30 0 312 [some (.inr (.inr 0)), some (.inr (.inr 1)), some (.inr (.inr 120)), some (.inl (7 * (N : Int)))] [] V b Q := by
  have hs := hI.2
  refine Ev.blk 11 (B0_312 _ _ _ _ (by first | omega | exact hs _ | assumption | exact cmpI_in _ _ | (rw [h0]; exact hs _) | exact ⟨by omega, by omega⟩) (by first | omega | exact hs _ | assumption | exact cmpI_in _ _ | (rw [h0]; exact hs _) | exact ⟨by omega, by omega⟩)) rfl ?_
  refine Ev.call rfl rfl (rfl) (op _ _ (hs _) (hs _) L N V b hL hN hI) (by omega) ?_
  rintro v V1 b1 ⟨z, rfl, hz, h0, h1⟩
  refine Ev.blk 11 (B0_326 _ _ _ _ _ (by first | omega | exact hs _ | assumption | exact cmpI_in _ _ | (rw [h0]; exact hs _) | exact ⟨by omega, by omega⟩) (by first | omega | exact hs _ | assumption | exact cmpI_in _ _ | (rw [h0]; exact hs _) | exact ⟨by omega, by omega⟩)) rfl ?_
  try rw [h0]
  refine Ev.call rfl rfl (rfl) (h1) (by omega) ?_
  rintro v V2 b2 ⟨rfl, h2⟩
  refine Ev.blk 1 (B0_340 _ _ _ _ _ _ (by first | omega | exact hs _ | assumption | exact cmpI_in _ _ | (rw [h0]; exact hs _) | exact ⟨by omega, by omega⟩) (by first | omega | exact hs _ | assumption | exact cmpI_in _ _ | (rw [h0]; exact hs _) | exact ⟨by omega, by omega⟩)) rfl ?_
  try rw [h0]
  refine Ev.ite (fun q => ?_) (fun q => ?_)
  · replace q := of_decide_eq_true q
    exact tail0 kk h2
  · replace q := of_decide_eq_false q
    refine Ev.blk 1 (B0_343 _ _ _ _) rfl ?_
    try rw [h0]
    refine Ev.ret rfl rfl rfl (by first | rfl | exact decide_eq_true (b01_or _)) ?_
    exact absurd rfl q

theorem cs_5 {L N : Nat} {V : Mv} {b : Bool} {Q : Option AV → Mv → Bool → Prop} (op : ∀ a0 a1 a2 : Int, in32 a0 → in32 a1 → in32 a2 → OpI 8 148 [.inl a0, .inl a1, .inl a2]) (hL : L ≤ 3584) (hN : N < 512) (h7 : 7 * (N : Int) + 7 ≤ (L : Int)) (hI : Iv N V) (kk : ∀ V2 b2, Iv (N + 1) V2 → Ev L 30 0 18 [some (.inr (.inr 0)), some (.inr (.inr 1)), some (.inr (.inr 120)), some (.inl (7 * ((N + 1 : Nat) : Int)))] [] V2 b2 Q) : Ev L 30 0 345 [some (.inr (.inr 0)), some (.inr (.inr 1)), some (.inr (.inr 120)), some (.inl (7 * (N : Int)))] [] V b Q := by
  have hs := hI.2
  refine Ev.blk 16 (B0_345 _ _ _ _ (by first | omega | exact hs _ | assumption | exact cmpI_in _ _ | (rw [h0]; exact hs _) | exact ⟨by omega, by omega⟩) (by first | omega | exact hs _ | assumption | exact cmpI_in _ _ | (rw [h0]; exact hs _) | exact ⟨by omega, by omega⟩) (by first | omega | exact hs _ | assumption | exact cmpI_in _ _ | (rw [h0]; exact hs _) | exact ⟨by omega, by omega⟩)) rfl ?_
  refine Ev.call rfl rfl (rfl) (op _ _ _ (hs _) (hs _) (hs _) L N V b hL hN hI) (by omega) ?_
  rintro v V1 b1 ⟨z, rfl, hz, h0, h1⟩
  refine Ev.blk 16 (B0_364 _ _ _ _ _ (by first | omega | exact hs _ | assumption | exact cmpI_in _ _ | (rw [h0]; exact hs _) | exact ⟨by omega, by omega⟩) (by first | omega | exact hs _ | assumption | exact cmpI_in _ _ | (rw [h0]; exact hs _) | exact ⟨by omega, by omega⟩) (by first | omega | exact hs _ | assumption | exact cmpI_in _ _ | (rw [h0]; exact hs _) | exact ⟨by omega, by omega⟩)) rfl ?_
  try rw [h0]
  refine Ev.call rfl rfl (rfl) (h1) (by omega) ?_
  rintro v V2 b2 ⟨rfl, h2⟩
  refine Ev.blk 1 (B0_383 _ _ _ _ _ _ (by first | omega | exact hs _ | assumption | exact cmpI_in _ _ | (rw [h0]; exact hs _) | exact ⟨by omega, by omega⟩) (by first | omega | exact hs _ | assumption | exact cmpI_in _ _ | (rw [h0]; exact hs _) | exact ⟨by omega, by omega⟩)) rfl ?_
  try rw [h0]
  refine Ev.ite (fun q => ?_) (fun q => ?_)
  · replace q := of_decide_eq_true q
    exact tail0 kk h2
  · replace q := of_decide_eq_false q
    refine Ev.blk 1 (B0_386 _ _ _ _) rfl ?_
    try rw [h0]
    refine Ev.ret rfl rfl rfl (by first | rfl | exact decide_eq_true (b01_or _)) ?_
    exact absurd rfl q

theorem cs_6 {L N : Nat} {V : Mv} {b : Bool} {Q : Option AV → Mv → Bool → Prop} (op : ∀ a0 a1 a2 : Int, in32 a0 → in32 a1 → in32 a2 → OpI 10 150 [.inl a0, .inl a1, .inl a2]) (hL : L ≤ 3584) (hN : N < 512) (h7 : 7 * (N : Int) + 7 ≤ (L : Int)) (hI : Iv N V) (kk : ∀ V2 b2, Iv (N + 1) V2 → Ev L 30 0 18 [some (.inr (.inr 0)), some (.inr (.inr 1)), some (.inr (.inr 120)), some (.inl (7 * ((N + 1 : Nat) : Int)))] [] V2 b2 Q) : Ev L 30 0 388 [some (.inr (.inr 0)), some (.inr (.inr 1)), some (.inr (.inr 120)), some (.inl (7 * (N : Int)))] [] V b Q := by
  have hs := hI.2
  refine Ev.blk 16 (B0_388 _ _ _ _ (by first | omega | exact hs _ | assumption | exact cmpI_in _ _ | (rw [h0]; exact hs _) | exact ⟨by omega, by omega⟩) (by first | omega | exact hs _ | assumption | exact cmpI_in _ _ | (rw [h0]; exact hs _) | exact ⟨by omega, by omega⟩) (by first | omega | exact hs _ | assumption | exact cmpI_in _ _ | (rw [h0]; exact hs _) | exact ⟨by omega, by omega⟩)) rfl ?_
  refine Ev.call rfl rfl (rfl) (op _ _ _ (hs _) (hs _) (hs _) L N V b hL hN hI) (by omega) ?_
  rintro v V1 b1 ⟨z, rfl, hz, h0, h1⟩
  refine Ev.blk 16 (B0_407 _ _ _ _ _ (by first | omega | exact hs _ | assumption | exact cmpI_in _ _ | (rw [h0]; exact hs _) | exact ⟨by omega, by omega⟩) (by first | omega | exact hs _ | assumption | exact cmpI_in _ _ | (rw [h0]; exact hs _) | exact ⟨by omega, by omega⟩) (by first | omega | exact hs _ | assumption | exact cmpI_in _ _ | (rw [h0]; exact hs _) | exact ⟨by omega, by omega⟩)) rfl ?_
  try rw [h0]
  refine Ev.call rfl rfl (rfl) (h1) (by omega) ?_
  rintro v V2 b2 ⟨rfl, h2⟩
  refine Ev.blk 1 (B0_426 _ _ _ _ _ _ (by first | omega | exact hs _ | assumption | exact cmpI_in _ _ | (rw [h0]; exact hs _) | exact ⟨by omega, by omega⟩) (by first | omega | exact hs _ | assumption | exact cmpI_in _ _ | (rw [h0]; exact hs _) | exact ⟨by omega, by omega⟩)) rfl ?_
  try rw [h0]
  refine Ev.ite (fun q => ?_) (fun q => ?_)
  · replace q := of_decide_eq_true q
    exact tail0 kk h2
  · replace q := of_decide_eq_false q
    refine Ev.blk 1 (B0_429 _ _ _ _) rfl ?_
    try rw [h0]
    refine Ev.ret rfl rfl rfl (by first | rfl | exact decide_eq_true (b01_or _)) ?_
    exact absurd rfl q

theorem cs_7 {L N : Nat} {V : Mv} {b : Bool} {Q : Option AV → Mv → Bool → Prop} (op : ∀ a0 a1 a2 : Int, in32 a0 → in32 a1 → in32 a2 → OpI 11 152 [.inl a0, .inl a1, .inl a2]) (hL : L ≤ 3584) (hN : N < 512) (h7 : 7 * (N : Int) + 7 ≤ (L : Int)) (hI : Iv N V) (kk : ∀ V2 b2, Iv (N + 1) V2 → Ev L 30 0 18 [some (.inr (.inr 0)), some (.inr (.inr 1)), some (.inr (.inr 120)), some (.inl (7 * ((N + 1 : Nat) : Int)))] [] V2 b2 Q) : Ev L 30 0 431 [some (.inr (.inr 0)), some (.inr (.inr 1)), some (.inr (.inr 120)), some (.inl (7 * (N : Int)))] [] V b Q := by
  have hs := hI.2
  refine Ev.blk 16 (B0_431 _ _ _ _ (by first | omega | exact hs _ | assumption | exact cmpI_in _ _ | (rw [h0]; exact hs _) | exact ⟨by omega, by omega⟩) (by first | omega | exact hs _ | assumption | exact cmpI_in _ _ | (rw [h0]; exact hs _) | exact ⟨by omega, by omega⟩) (by first | omega | exact hs _ | assumption | exact cmpI_in _ _ | (rw [h0]; exact hs _) | exact ⟨by omega, by omega⟩)) rfl ?_
  refine Ev.call rfl rfl (rfl) (op _ _ _ (hs _) (hs _) (hs _) L N V b hL hN hI) (by omega) ?_
  rintro v V1 b1 ⟨z, rfl, hz, h0, h1⟩
  refine Ev.blk 16 (B0_450 _ _ _ _ _ (by first | omega | exact hs _ | assumption | exact cmpI_in _ _ | (rw [h0]; exact hs _) | exact ⟨by omega, by omega⟩) (by first | omega | exact hs _ | assumption | exact cmpI_in _ _ | (rw [h0]; exact hs _) | exact ⟨by omega, by omega⟩) (by first | omega | exact hs _ | assumption | exact cmpI_in _ _ | (rw [h0]; exact hs _) | exact ⟨by omega, by omega⟩)) rfl ?_
  try rw [h0]
  refine Ev.call rfl rfl (rfl) (h1) (by omega) ?_
  rintro v V2 b2 ⟨rfl, h2⟩
  refine Ev.blk 1 (B0_469 _ _ _ _ _ _ (by first | omega | exact hs _ | assumption | exact cmpI_in _ _ | (rw [h0]; exact hs _) | exact ⟨by omega, by omega⟩) (by first | omega | exact hs _ | assumption | exact cmpI_in _ _ | (rw [h0]; exact hs _) | exact ⟨by omega, by omega⟩)) rfl ?_
  try rw [h0]
  refine Ev.ite (fun q => ?_) (fun q => ?_)
  · replace q := of_decide_eq_true q
    exact tail0 kk h2
  · replace q := of_decide_eq_false q
    refine Ev.blk 1 (B0_472 _ _ _ _) rfl ?_
    try rw [h0]
    refine Ev.ret rfl rfl rfl (by first | rfl | exact decide_eq_true (b01_or _)) ?_
    exact absurd rfl q

theorem cs_8 {L N : Nat} {V : Mv} {b : Bool} {Q : Option AV → Mv → Bool → Prop} (op : ∀ a0 : Int, in32 a0 → OpI 13 154 [.inl a0]) (hL : L ≤ 3584) (hN : N < 512) (h7 : 7 * (N : Int) + 7 ≤ (L : Int)) (hI : Iv N V) (kk : ∀ V2 b2, Iv (N + 1) V2 → Ev L 30 0 18 [some (.inr (.inr 0)), some (.inr (.inr 1)), some (.inr (.inr 120)), some (.inl (7 * ((N + 1 : Nat) : Int)))] [] V2 b2 Q) : Ev L 30 0 474 [some (.inr (.inr 0)), some (.inr (.inr 1)), some (.inr (.inr 120)), some (.inl (7 * (N : Int)))] [] V b Q := by
  have hs := hI.2
  refine Ev.blk 6 (B0_474 _ _ _ _ (by first | omega | exact hs _ | assumption | exact cmpI_in _ _ | (rw [h0]; exact hs _) | exact ⟨by omega, by omega⟩)) rfl ?_
  refine Ev.call rfl rfl (rfl) (op _ (hs _) L N V b hL hN hI) (by omega) ?_
  rintro v V1 b1 ⟨z, rfl, hz, h0, h1⟩
  refine Ev.blk 6 (B0_483 _ _ _ _ _ (by first | omega | exact hs _ | assumption | exact cmpI_in _ _ | (rw [h0]; exact hs _) | exact ⟨by omega, by omega⟩)) rfl ?_
  try rw [h0]
  refine Ev.call rfl rfl (rfl) (h1) (by omega) ?_
  rintro v V2 b2 ⟨rfl, h2⟩
  refine Ev.blk 1 (B0_492 _ _ _ _ _ _ (by first | omega | exact hs _ | assumption | exact cmpI_in _ _ | (rw [h0]; exact hs _) | exact ⟨by omega, by omega⟩) (by first | omega | exact hs _ | assumption | exact cmpI_in _ _ | (rw [h0]; exact hs _) | exact ⟨by omega, by omega⟩)) rfl ?_
  try rw [h0]
  refine Ev.ite (fun q => ?_) (fun q => ?_)
  · replace q := of_decide_eq_true q
    exact tail0 kk h2
  · replace q := of_decide_eq_false q
    refine Ev.blk 1 (B0_495 _ _ _ _) rfl ?_
    try rw [h0]
    refine Ev.ret rfl rfl rfl (by first | rfl | exact decide_eq_true (b01_or _)) ?_
    exact absurd rfl q

theorem cs_9t {L N : Nat} {V : Mv} {b : Bool} {Q : Option AV → Mv → Bool → Prop} (op : ∀ a0 a1 : Int, in32 a0 → (a1 = 0 ∨ a1 = 1) → OpI 15 160 [.inl a0, .inl a1]) (hL : L ≤ 3584) (hN : N < 512) (h7 : 7 * (N : Int) + 7 ≤ (L : Int)) (hI : Iv N V) (hb : V 0 (7 * (N : Int) + 2).toNat = 0) (kk : ∀ V2 b2, Iv (N + 1) V2 → Ev L 30 0 18 [some (.inr (.inr 0)), some (.inr (.inr 1)), some (.inr (.inr 120)), some (.inl (7 * ((N + 1 : Nat) : Int)))] [] V2 b2 Q) : Ev L 30 0 497 [some (.inr (.inr 0)), some (.inr (.inr 1)), some (.inr (.inr 120)), some (.inl (7 * (N : Int)))] [] V b Q := by
  have hs := hI.2
  refine Ev.blk 12 (B0_497 _ _ _ _ (by first | omega | exact hs _ | assumption | exact cmpI_in _ _ | (rw [h0]; exact hs _) | exact ⟨by omega, by omega⟩) (by first | omega | exact hs _ | assumption | exact cmpI_in _ _ | (rw [h0]; exact hs _) | exact ⟨by omega, by omega⟩) (by first | omega | exact hs _ | assumption | exact cmpI_in _ _ | (rw [h0]; exact hs _) | exact ⟨by omega, by omega⟩)) rfl ?_
  refine Ev.ite (fun _ => ?_) (fun q => absurd hb (of_decide_eq_false q))
  refine Ev.blk 1 (B0_515 _ _ _ _ _) rfl ?_
  refine Ev.call rfl rfl (rfl) (op _ _ (hs _) (Or.inl rfl) L N V b hL hN hI) (by omega) ?_
  rintro v V1 b1 ⟨z, rfl, hz, h0, h1⟩
  refine Ev.blk 12 (B0_519 _ _ _ _ _ (by first | omega | exact hs _ | assumption | exact cmpI_in _ _ | (rw [h0]; exact hs _) | exact ⟨by omega, by omega⟩) (by first | omega | exact hs _ | assumption | exact cmpI_in _ _ | (rw [h0]; exact hs _) | exact ⟨by omega, by omega⟩) (by first | omega | exact hs _ | assumption | exact cmpI_in _ _ | (rw [h0]; exact hs _) | exact ⟨by omega, by omega⟩)) rfl ?_
  try rw [h0]
  refine Ev.ite (fun _ => ?_) (fun q => absurd hb (of_decide_eq_false q))
  refine Ev.blk 1 (B0_537 _ _ _ _ _ _) rfl ?_
  try rw [h0]
  refine Ev.call rfl rfl (rfl) (h1) (by omega) ?_
  rintro v V2 b2 ⟨rfl, h2⟩
  refine Ev.blk 1 (B0_541 _ _ _ _ _ _ (by first | omega | exact hs _ | assumption | exact cmpI_in _ _ | (rw [h0]; exact hs _) | exact ⟨by omega, by omega⟩) (by first | omega | exact hs _ | assumption | exact cmpI_in _ _ | (rw [h0]; exact hs _) | exact ⟨by omega, by omega⟩)) rfl ?_
  try rw [h0]
  refine Ev.ite (fun q => ?_) (fun q => ?_)
  · replace q := of_decide_eq_true q
    exact tail0 kk h2
  · replace q := of_decide_eq_false q
    refine Ev.blk 1 (B0_544 _ _ _ _) rfl ?_
    try rw [h0]
    refine Ev.ret rfl rfl rfl (by first | rfl | exact decide_eq_true (b01_or _)) ?_
    exact absurd rfl q

theorem cs_9f {L N : Nat} {V : Mv} {b : Bool} {Q : Option AV → Mv → Bool → Prop} (op : ∀ a0 a1 : Int, in32 a0 → (a1 = 0 ∨ a1 = 1) → OpI 15 160 [.inl a0, .inl a1]) (hL : L ≤ 3584) (hN : N < 512) (h7 : 7 * (N : Int) + 7 ≤ (L : Int)) (hI : Iv N V) (hb : ¬ V 0 (7 * (N : Int) + 2).toNat = 0) (kk : ∀ V2 b2, Iv (N + 1) V2 → Ev L 30 0 18 [some (.inr (.inr 0)), some (.inr (.inr 1)), some (.inr (.inr 120)), some (.inl (7 * ((N + 1 : Nat) : Int)))] [] V2 b2 Q) : Ev L 30 0 497 [some (.inr (.inr 0)), some (.inr (.inr 1)), some (.inr (.inr 120)), some (.inl (7 * (N : Int)))] [] V b Q := by
  have hs := hI.2
  refine Ev.blk 12 (B0_497 _ _ _ _ (by first | omega | exact hs _ | assumption | exact cmpI_in _ _ | (rw [h0]; exact hs _) | exact ⟨by omega, by omega⟩) (by first | omega | exact hs _ | assumption | exact cmpI_in _ _ | (rw [h0]; exact hs _) | exact ⟨by omega, by omega⟩) (by first | omega | exact hs _ | assumption | exact cmpI_in _ _ | (rw [h0]; exact hs _) | exact ⟨by omega, by omega⟩)) rfl ?_
  refine Ev.ite (fun q => absurd (of_decide_eq_true q) hb) (fun _ => ?_)
  refine Ev.blk 2 (B0_511 _ _ _ _ _) rfl ?_
  refine Ev.call rfl rfl (rfl) (op _ _ (hs _) (Or.inr rfl) L N V b hL hN hI) (by omega) ?_
  rintro v V1 b1 ⟨z, rfl, hz, h0, h1⟩
  refine Ev.blk 12 (B0_519 _ _ _ _ _ (by first | omega | exact hs _ | assumption | exact cmpI_in _ _ | (rw [h0]; exact hs _) | exact ⟨by omega, by omega⟩) (by first | omega | exact hs _ | assumption | exact cmpI_in _ _ | (rw [h0]; exact hs _) | exact ⟨by omega, by omega⟩) (by first | omega | exact hs _ | assumption | exact cmpI_in _ _ | (rw [h0]; exact hs _) | exact ⟨by omega, by omega⟩)) rfl ?_
  try rw [h0]
  refine Ev.ite (fun q => absurd (of_decide_eq_true q) hb) (fun _ => ?_)
  refine Ev.blk 2 (B0_533 _ _ _ _ _ _) rfl ?_
  try rw [h0]
  refine Ev.call rfl rfl (rfl) (h1) (by omega) ?_
  rintro v V2 b2 ⟨rfl, h2⟩
  refine Ev.blk 1 (B0_541 _ _ _ _ _ _ (by first | omega | exact hs _ | assumption | exact cmpI_in _ _ | (rw [h0]; exact hs _) | exact ⟨by omega, by omega⟩) (by first | omega | exact hs _ | assumption | exact cmpI_in _ _ | (rw [h0]; exact hs _) | exact ⟨by omega, by omega⟩)) rfl ?_
  try rw [h0]
  refine Ev.ite (fun q => ?_) (fun q => ?_)
  · replace q := of_decide_eq_true q
    exact tail0 kk h2
  · replace q := of_decide_eq_false q
    refine Ev.blk 1 (B0_544 _ _ _ _) rfl ?_
    try rw [h0]
    refine Ev.ret rfl rfl rfl (by first | rfl | exact decide_eq_true (b01_or _)) ?_
    exact absurd rfl q

theorem cs_10 {L N : Nat} {V : Mv} {b : Bool} {Q : Option AV → Mv → Bool → Prop} (op : ∀ a0 a1 : Int, in32 a0 → in32 a1 → OpI 16 162 [.inl a0, .inl a1]) (hL : L ≤ 3584) (hN : N < 512) (h7 : 7 * (N : Int) + 7 ≤ (L : Int)) (hI : Iv N V) (kk : ∀ V2 b2, Iv (N + 1) V2 → Ev L 30 0 18 [some (.inr (.inr 0)), some (.inr (.inr 1)), some (.inr (.inr 120)), some (.inl (7 * ((N + 1 : Nat) : Int)))] [] V2 b2 Q) : Ev L 30 0 546 [some (.inr (.inr 0)), some (.inr (.inr 1)), some (.inr (.inr 120)), some (.inl (7 * (N : Int)))] [] V b Q := by
  have hs := hI.2
  refine Ev.blk 11 (B0_546 _ _ _ _ (by first | omega | exact hs _ | assumption | exact cmpI_in _ _ | (rw [h0]; exact hs _) | exact ⟨by omega, by omega⟩) (by first | omega | exact hs _ | assumption | exact cmpI_in _ _ | (rw [h0]; exact hs _) | exact ⟨by omega, by omega⟩)) rfl ?_
  refine Ev.call rfl rfl (rfl) (op _ _ (hs _) (hs _) L N V b hL hN hI) (by omega) ?_
  rintro v V1 b1 ⟨z, rfl, hz, h0, h1⟩
  refine Ev.blk 11 (B0_560 _ _ _ _ _ (by first | omega | exact hs _ | assumption | exact cmpI_in _ _ | (rw [h0]; exact hs _) | exact ⟨by omega, by omega⟩) (by first | omega | exact hs _ | assumption | exact cmpI_in _ _ | (rw [h0]; exact hs _) | exact ⟨by omega, by omega⟩)) rfl ?_
  try rw [h0]
  refine Ev.call rfl rfl (rfl) (h1) (by omega) ?_
  rintro v V2 b2 ⟨rfl, h2⟩
  refine Ev.blk 1 (B0_574 _ _ _ _ _ _ (by first | omega | exact hs _ | assumption | exact cmpI_in _ _ | (rw [h0]; exact hs _) | exact ⟨by omega, by omega⟩) (by first | omega | exact hs _ | assumption | exact cmpI_in _ _ | (rw [h0]; exact hs _) | exact ⟨by omega, by omega⟩)) rfl ?_
  try rw [h0]
  refine Ev.ite (fun q => ?_) (fun q => ?_)
  · replace q := of_decide_eq_true q
    exact tail0 kk h2
  · replace q := of_decide_eq_false q
    refine Ev.blk 1 (B0_577 _ _ _ _) rfl ?_
    try rw [h0]
    refine Ev.ret rfl rfl rfl (by first | rfl | exact decide_eq_true (b01_or _)) ?_
    exact absurd rfl q

theorem cs_11 {L N : Nat} {V : Mv} {b : Bool} {Q : Option AV → Mv → Bool → Prop} (op : ∀ a0 a1 : Int, in32 a0 → in32 a1 → OpI 17 164 [.inl a0, .inl a1]) (hL : L ≤ 3584) (hN : N < 512) (h7 : 7 * (N : Int) + 7 ≤ (L : Int)) (hI : Iv N V) (kk : ∀ V2 b2, Iv (N + 1) V2 → Ev L 30 0 18 [some (.inr (.inr 0)), some (.inr (.inr 1)), some (.inr (.inr 120)), some (.inl (7 * ((N + 1 : Nat) : Int)))] [] V2 b2 Q) : Ev L 30 0 579 [some (.inr (.inr 0)), some (.inr (.inr 1)), some (.inr (.inr 120)), some (.inl (7 * (N : Int)))] [] V b Q := by
  have hs := hI.2
  refine Ev.blk 11 (B0_579 _ _ _ _ (by first | omega | exact hs _ | assumption | exact cmpI_in _ _ | (rw [h0]; exact hs _) | exact ⟨by omega, by omega⟩) (by first | omega | exact hs _ | assumption | exact cmpI_in _ _ | (rw [h0]; exact hs _) | exact ⟨by omega, by omega⟩)) rfl ?_
  refine Ev.call rfl rfl (rfl) (op _ _ (hs _) (hs _) L N V b hL hN hI) (by omega) ?_
  rintro v V1 b1 ⟨z, rfl, hz, h0, h1⟩
  refine Ev.blk 11 (B0_593 _ _ _ _ _ (by first | omega | exact hs _ | assumption | exact cmpI_in _ _ | (rw [h0]; exact hs _) | exact ⟨by omega, by omega⟩) (by first | omega | exact hs _ | assumption | exact cmpI_in _ _ | (rw [h0]; exact hs _) | exact ⟨by omega, by omega⟩)) rfl ?_
  try rw [h0]
  refine Ev.call rfl rfl (rfl) (h1) (by omega) ?_
  rintro v V2 b2 ⟨rfl, h2⟩
  refine Ev.blk 1 (B0_607 _ _ _ _ _ _ (by first | omega | exact hs _ | assumption | exact cmpI_in _ _ | (rw [h0]; exact hs _) | exact ⟨by omega, by omega⟩) (by first | omega | exact hs _ | assumption | exact cmpI_in _ _ | (rw [h0]; exact hs _) | exact ⟨by omega, by omega⟩)) rfl ?_
  try rw [h0]
  refine Ev.ite (fun q => ?_) (fun q => ?_)
  · replace q := of_decide_eq_true q
    exact tail0 kk h2
  · replace q := of_decide_eq_false q
    refine Ev.blk 1 (B0_610 _ _ _ _) rfl ?_
    try rw [h0]
    refine Ev.ret rfl rfl rfl (by first | rfl | exact decide_eq_true (b01_or _)) ?_
    exact absurd rfl q

theorem cs_12 {L N : Nat} {V : Mv} {b : Bool} {Q : Option AV → Mv → Bool → Prop} (op : ∀ a0 a1 : Int, in32 a0 → in32 a1 → OpJ 18 165 [.inl a0, .inl a1]) (hL : L ≤ 3584) (hN : N < 512) (h7 : 7 * (N : Int) + 7 ≤ (L : Int)) (hI : Iv N V) (kk : ∀ V2 b2, Iv (N + 1) V2 → Ev L 30 0 18 [some (.inr (.inr 0)), some (.inr (.inr 1)), some (.inr (.inr 120)), some (.inl (7 * ((N + 1 : Nat) : Int)))] [] V2 b2 Q) : Ev L 30 0 612 [some (.inr (.inr 0)), some (.inr (.inr 1)), some (.inr (.inr 120)), some (.inl (7 * (N : Int)))] [] V b Q := by
  have hs := hI.2
  refine Ev.blk 11 (B0_612 _ _ _ _ (by first | omega | exact hs _ | assumption | exact cmpI_in _ _ | (rw [h0]; exact hs _) | exact ⟨by omega, by omega⟩) (by first | omega | exact hs _ | assumption | exact cmpI_in _ _ | (rw [h0]; exact hs _) | exact ⟨by omega, by omega⟩)) rfl ?_
  refine Ev.call rfl rfl (rfl) (op _ _ (hs _) (hs _) L N V b hL hN hI) (by omega) ?_
  rintro v V1 b1 ⟨z, rfl, hz, h0, h1⟩
  refine Ev.blk 11 (B0_626 _ _ _ _ _ (by first | omega | exact hs _ | assumption | exact cmpI_in _ _ | (rw [h0]; exact hs _) | exact ⟨by omega, by omega⟩) (by first | omega | exact hs _ | assumption | exact cmpI_in _ _ | (rw [h0]; exact hs _) | exact ⟨by omega, by omega⟩)) rfl ?_
  try rw [h0]
  refine Ev.call rfl rfl (rfl) (h1) (by omega) ?_
  rintro v V2 b2 ⟨rfl, h2⟩
  refine Ev.blk 2 (B0_640 _ _ _ _ _ _ (by first | omega | exact hs _ | assumption | exact cmpI_in _ _ | (rw [h0]; exact hs _) | exact ⟨by omega, by omega⟩) (by first | omega | exact hs _ | assumption | exact cmpI_in _ _ | (rw [h0]; exact hs _) | exact ⟨by omega, by omega⟩) (by first | omega | exact hs _ | assumption | exact cmpI_in _ _ | (rw [h0]; exact hs _) | exact ⟨by omega, by omega⟩)) rfl ?_
  try rw [h0]
  refine Ev.ite (fun q => ?_) (fun q => ?_)
  · replace q := of_decide_eq_true q
    exact tail0 kk h2
  · replace q := of_decide_eq_false q
    refine Ev.blk 1 (B0_644 _ _ _ _) rfl ?_
    try rw [h0]
    refine Ev.ret rfl rfl rfl (by first | rfl | exact decide_eq_true (b01_or _)) ?_
    exact absurd ((cmpI_eq _ _).mpr rfl) q

theorem cs_13t {L N : Nat} {V : Mv} {b : Bool} {Q : Option AV → Mv → Bool → Prop} (op : ∀ a0 a1 a2 : Int, in32 a0 → in32 a1 → (a2 = 0 ∨ a2 = 1) → OpJ 19 166 [.inl a0, .inl a1, .inl a2]) (hL : L ≤ 3584) (hN : N < 512) (h7 : 7 * (N : Int) + 7 ≤ (L : Int)) (hI : Iv N V) (hb : V 0 (7 * (N : Int) + 3).toNat = 0) (kk : ∀ V2 b2, Iv (N + 1) V2 → Ev L 30 0 18 [some (.inr (.inr 0)), some (.inr (.inr 1)), some (.inr (.inr 120)), some (.inl (7 * ((N + 1 : Nat) : Int)))] [] V2 b2 Q) : Ev L 30 0 646 [some (.inr (.inr 0)), some (.inr (.inr 1)), some (.inr (.inr 120)), some (.inl (7 * (N : Int)))] [] V b Q := by
  have hs := hI.2
  refine Ev.blk 17 (B0_646 _ _ _ _ (by first | omega | exact hs _ | assumption | exact cmpI_in _ _ | (rw [h0]; exact hs _) | exact ⟨by omega, by omega⟩) (by first | omega | exact hs _ | assumption | exact cmpI_in _ _ | (rw [h0]; exact hs _) | exact ⟨by omega, by omega⟩) (by first | omega | exact hs _ | assumption | exact cmpI_in _ _ | (rw [h0]; exact hs _) | exact ⟨by omega, by omega⟩) (by first | omega | exact hs _ | assumption | exact cmpI_in _ _ | (rw [h0]; exact hs _) | exact ⟨by omega, by omega⟩)) rfl ?_
  refine Ev.ite (fun _ => ?_) (fun q => absurd hb (of_decide_eq_false q))
  refine Ev.blk 1 (B0_669 _ _ _ _ _ _) rfl ?_
  refine Ev.call rfl rfl (rfl) (op _ _ _ (hs _) (hs _) (Or.inl rfl) L N V b hL hN hI) (by omega) ?_
  rintro v V1 b1 ⟨z, rfl, hz, h0, h1⟩
  refine Ev.blk 17 (B0_673 _ _ _ _ _ (by first | omega | exact hs _ | assumption | exact cmpI_in _ _ | (rw [h0]; exact hs _) | exact ⟨by omega, by omega⟩) (by first | omega | exact hs _ | assumption | exact cmpI_in _ _ | (rw [h0]; exact hs _) | exact ⟨by omega, by omega⟩) (by first | omega | exact hs _ | assumption | exact cmpI_in _ _ | (rw [h0]; exact hs _) | exact ⟨by omega, by omega⟩) (by first | omega | exact hs _ | assumption | exact cmpI_in _ _ | (rw [h0]; exact hs _) | exact ⟨by omega, by omega⟩)) rfl ?_
  try rw [h0]
  refine Ev.ite (fun _ => ?_) (fun q => absurd hb (of_decide_eq_false q))
  refine Ev.blk 1 (B0_696 _ _ _ _ _ _ _) rfl ?_
  try rw [h0]
  refine Ev.call rfl rfl (rfl) (h1) (by omega) ?_
  rintro v V2 b2 ⟨rfl, h2⟩
  refine Ev.blk 2 (B0_700 _ _ _ _ _ _ (by first | omega | exact hs _ | assumption | exact cmpI_in _ _ | (rw [h0]; exact hs _) | exact ⟨by omega, by omega⟩) (by first | omega | exact hs _ | assumption | exact cmpI_in _ _ | (rw [h0]; exact hs _) | exact ⟨by omega, by omega⟩) (by first | omega | exact hs _ | assumption | exact cmpI_in _ _ | (rw [h0]; exact hs _) | exact ⟨by omega, by omega⟩)) rfl ?_
  try rw [h0]
  refine Ev.ite (fun q => ?_) (fun q => ?_)
  · replace q := of_decide_eq_true q
    exact tail0 kk h2
  · replace q := of_decide_eq_false q
    refine Ev.blk 1 (B0_704 _ _ _ _) rfl ?_
    try rw [h0]
    refine Ev.ret rfl rfl rfl (by first | rfl | exact decide_eq_true (b01_or _)) ?_
    exact absurd ((cmpI_eq _ _).mpr rfl) q

theorem cs_13f {L N : Nat} {V : Mv} {b : Bool} {Q : Option AV → Mv → Bool → Prop} (op : ∀ a0 a1 a2 : Int, in32 a0 → in32 a1 → (a2 = 0 ∨ a2 = 1) → OpJ 19 166 [.inl a0, .inl a1, .inl a2]) (hL : L ≤ 3584) (hN : N < 512) (h7 : 7 * (N : Int) + 7 ≤ (L : Int)) (hI : Iv N V) (hb : ¬ V 0 (7 * (N : Int) + 3).toNat = 0) (kk : ∀ V2 b2, Iv (N + 1) V2 → Ev L 30 0 18 [some (.inr (.inr 0)), some (.inr (.inr 1)), some (.inr (.inr 120)), some (.inl (7 * ((N + 1 : Nat) : Int)))] [] V2 b2 Q) : Ev L 30 0 646 [some (.inr (.inr 0)), some (.inr (.inr 1)), some (.inr (.inr 120)), some (.inl (7 * (N : Int)))] [] V b Q := by
  have hs := hI.2
  refine Ev.blk 17 (B0_646 _ _ _ _ (by first | omega | exact hs _ | assumption | exact cmpI_in _ _ | (rw [h0]; exact hs _) | exact ⟨by omega, by omega⟩) (by first | omega | exact hs _ | assumption | exact cmpI_in _ _ | (rw [h0]; exact hs _) | exact ⟨by omega, by omega⟩) (by first | omega | exact hs _ | assumption | exact cmpI_in _ _ | (rw [h0]; exact hs _) | exact ⟨by omega, by omega⟩) (by first | omega | exact hs _ | assumption | exact cmpI_in _ _ | (rw [h0]; exact hs _) | exact ⟨by omega, by omega⟩)) rfl ?_
  refine Ev.ite (fun q => absurd (of_decide_eq_true q) hb) (fun _ => ?_)
  refine Ev.blk 2 (B0_665 _ _ _ _ _ _) rfl ?_
  refine Ev.call rfl rfl (rfl) (op _ _ _ (hs _) (hs _) (Or.inr rfl) L N V b hL hN hI) (by omega) ?_
  rintro v V1 b1 ⟨z, rfl, hz, h0, h1⟩
  refine Ev.blk 17 (B0_673 _ _ _ _ _ (by first | omega | exact hs _ | assumption | exact cmpI_in _ _ | (rw [h0]; exact hs _) | exact ⟨by omega, by omega⟩) (by first | omega | exact hs _ | assumption | exact cmpI_in _ _ | (rw [h0]; exact hs _) | exact ⟨by omega, by omega⟩) (by first | omega | exact hs _ | assumption | exact cmpI_in _ _ | (rw [h0]; exact hs _) | exact ⟨by omega, by omega⟩) (by first | omega | exact hs _ | assumption | exact cmpI_in _ _ | (rw [h0]; exact hs _) | exact ⟨by omega, by omega⟩)) rfl ?_
  try rw [h0]
  refine Ev.ite (fun q => absurd (of_decide_eq_true q) hb) (fun _ => ?_)
  refine Ev.blk 2 (B0_692 _ _ _ _ _ _ _) rfl ?_
  try rw [h0]
  refine Ev.call rfl rfl (rfl) (h1) (by omega) ?_
  rintro v V2 b2 ⟨rfl, h2⟩
  refine Ev.blk 2 (B0_700 _ _ _ _ _ _ (by first | omega | exact hs _ | assumption | exact cmpI_in _ _ | (rw [h0]; exact hs _) | exact ⟨by omega, by omega⟩) (by first | omega | exact hs _ | assumption | exact cmpI_in _ _ | (rw [h0]; exact hs _) | exact ⟨by omega, by omega⟩) (by first | omega | exact hs _ | assumption | exact cmpI_in _ _ | (rw [h0]; exact hs _) | exact ⟨by omega, by omega⟩)) rfl ?_
  try rw [h0]
  refine Ev.ite (fun q => ?_) (fun q => ?_)
  · replace q := of_decide_eq_true q
    exact tail0 kk h2
  · replace q := of_decide_eq_false q
    refine Ev.blk 1 (B0_704 _ _ _ _) rfl ?_
    try rw [h0]
    refine Ev.ret rfl rfl rfl (by first | rfl | exact decide_eq_true (b01_or _)) ?_
    exact absurd ((cmpI_eq _ _).mpr rfl) q

theorem cs_14t {L N : Nat} {V : Mv} {b : Bool} {Q : Option AV → Mv → Bool → Prop} (op : ∀ a0 a1 : Int, in32 a0 → (a1 = 0 ∨ a1 = 1) → OpJ 20 169 [.inl a0, .inl a1]) (hL : L ≤ 3584) (hN : N < 512) (h7 : 7 * (N : Int) + 7 ≤ (L : Int)) (hI : Iv N V) (hb : V 0 (7 * (N : Int) + 2).toNat = 0) (kk : ∀ V2 b2, Iv (N + 1) V2 → Ev L 30 0 18 [some (.inr (.inr 0)), some (.inr (.inr 1)), some (.inr (.inr 120)), some (.inl (7 * ((N + 1 : Nat) : Int)))] [] V2 b2 Q) : Ev L 30 0 706 [some (.inr (.inr 0)), some (.inr (.inr 1)), some (.inr (.inr 120)), some (.inl (7 * (N : Int)))] [] V b Q := by
  have hs := hI.2
  refine Ev.blk 12 (B0_706 _ _ _ _ (by first | omega | exact hs _ | assumption | exact cmpI_in _ _ | (rw [h0]; exact hs _) | exact ⟨by omega, by omega⟩) (by first | omega | exact hs _ | assumption | exact cmpI_in _ _ | (rw [h0]; exact hs _) | exact ⟨by omega, by omega⟩) (by first | omega | exact hs _ | assumption | exact cmpI_in _ _ | (rw [h0]; exact hs _) | exact ⟨by omega, by omega⟩)) rfl ?_
  refine Ev.ite (fun _ => ?_) (fun q => absurd hb (of_decide_eq_false q))
  refine Ev.blk 1 (B0_724 _ _ _ _ _) rfl ?_
  refine Ev.call rfl rfl (rfl) (op _ _ (hs _) (Or.inl rfl) L N V b hL hN hI) (by omega) ?_
  rintro v V1 b1 ⟨z, rfl, hz, h0, h1⟩
  refine Ev.blk 12 (B0_728 _ _ _ _ _ (by first | omega | exact hs _ | assumption | exact cmpI_in _ _ | (rw [h0]; exact hs _) | exact ⟨by omega, by omega⟩) (by first | omega | exact hs _ | assumption | exact cmpI_in _ _ | (rw [h0]; exact hs _) | exact ⟨by omega, by omega⟩) (by first | omega | exact hs _ | assumption | exact cmpI_in _ _ | (rw [h0]; exact hs _) | exact ⟨by omega, by omega⟩)) rfl ?_
  try rw [h0]
  refine Ev.ite (fun _ => ?_) (fun q => absurd hb (of_decide_eq_false q))
  refine Ev.blk 1 (B0_746 _ _ _ _ _ _) rfl ?_
  try rw [h0]
  refine Ev.call rfl rfl (rfl) (h1) (by omega) ?_
  rintro v V2 b2 ⟨rfl, h2⟩
  refine Ev.blk 2 (B0_750 _ _ _ _ _ _ (by first | omega | exact hs _ | assumption | exact cmpI_in _ _ | (rw [h0]; exact hs _) | exact ⟨by omega, by omega⟩) (by first | omega | exact hs _ | assumption | exact cmpI_in _ _ | (rw [h0]; exact hs _) | exact ⟨by omega, by omega⟩) (by first | omega | exact hs _ | assumption | exact cmpI_in _ _ | (rw [h0]; exact hs _) | exact ⟨by omega, by omega⟩)) rfl ?_
  try rw [h0]
  refine Ev.ite (fun q => ?_) (fun q => ?_)
  · replace q := of_decide_eq_true q
    exact tail0 kk h2
  · replace q := of_decide_eq_false q
    refine Ev.blk 1 (B0_754 _ _ _ _) rfl ?_
    try rw [h0]
    refine Ev.ret rfl rfl rfl (by first | rfl | exact decide_eq_true (b01_or _)) ?_
    exact absurd ((cmpI_eq _ _).mpr rfl) q

theorem cs_14f {L N : Nat} {V : Mv} {b : Bool} {Q : Option AV → Mv → Bool → Prop} (op : ∀ a0 a1 : Int, in32 a0 → (a1 = 0 ∨ a1 = 1) → OpJ 20 169 [.inl a0, .inl a1]) (hL : L ≤ 3584) (hN : N < 512) (h7 : 7 * (N : Int) + 7 ≤ (L : Int)) (hI : Iv N V) (hb : ¬ V 0 (7 * (N : Int) + 2).toNat = 0) (kk : ∀ V2 b2, Iv (N + 1) V2 → Ev L 30 0 18 [some (.inr (.inr 0)), some (.inr (.inr 1)), some (.inr (.inr 120)), some (.inl (7 * ((N + 1 : Nat) : Int)))] [] V2 b2 Q) : Ev L 30 0 706 [some (.inr (.inr 0)), some (.inr (.inr 1)), some (.inr (.inr 120)), some (.inl (7 * (N : Int)))] [] V b Q := by
  have hs := hI.2
  refine Ev.blk 12 (B0_706 _ _ _ _ (by first | omega | exact hs _ | assumption | exact cmpI_in _ _ | (rw [h0]; exact hs _) | exact ⟨by omega, by omega⟩) (by first | omega | exact hs _ | assumption | exact cmpI_in _ _ | (rw [h0]; exact hs _) | exact ⟨by omega, by omega⟩) (by first | omega | exact hs _ | assumption | exact cmpI_in _ _ | (rw [h0]; exact hs _) | exact ⟨by omega, by omega⟩)) rfl ?_
  refine Ev.ite (fun q => absurd (of_decide_eq_true q) hb) (fun _ => ?_)
  refine Ev.blk 2 (B0_720 _ _ _ _ _) rfl ?_
  refine Ev.call rfl rfl (rfl) (op _ _ (hs _) (Or.inr rfl) L N V b hL hN hI) (by omega) ?_
  rintro v V1 b1 ⟨z, rfl, hz, h0, h1⟩
  refine Ev.blk 12 (B0_728 _ _ _ _ _ (by first | omega | exact hs _ | assumption | exact cmpI_in _ _ | (rw [h0]; exact hs _) | exact ⟨by omega, by omega⟩) (by first | omega | exact hs _ | assumption | exact cmpI_in _ _ | (rw [h0]; exact hs _) | exact ⟨by omega, by omega⟩) (by first | omega | exact hs _ | assumption | exact cmpI_in _ _ | (rw [h0]; exact hs _) | exact ⟨by omega, by omega⟩)) rfl ?_
  try rw [h0]
  refine Ev.ite (fun q => absurd (of_decide_eq_true q) hb) (fun _ => ?_)
  refine Ev.blk 2 (B0_742 _ _ _ _ _ _) rfl ?_
  try rw [h0]
  refine Ev.call rfl rfl (rfl) (h1) (by omega) ?_
  rintro v V2 b2 ⟨rfl, h2⟩
  refine Ev.blk 2 (B0_750 _ _ _ _ _ _ (by first | omega | exact hs _ | assumption | exact cmpI_in _ _ | (rw [h0]; exact hs _) | exact ⟨by omega, by omega⟩) (by first | omega | exact hs _ | assumption | exact cmpI_in _ _ | (rw [h0]; exact hs _) | exact ⟨by omega, by omega⟩) (by first | omega | exact hs _ | assumption | exact cmpI_in _ _ | (rw [h0]; exact hs _) | exact ⟨by omega, by omega⟩)) rfl ?_
  try rw [h0]
  refine Ev.ite (fun q => ?_) (fun q => ?_)
  · replace q := of_decide_eq_true q
    exact tail0 kk h2
  · replace q := of_decide_eq_false q
    refine Ev.blk 1 (B0_754 _ _ _ _) rfl ?_
    try rw [h0]
    refine Ev.ret rfl rfl rfl (by first | rfl | exact decide_eq_true (b01_or _)) ?_
    exact absurd ((cmpI_eq _ _).mpr rfl) q

theorem cs_15 {L N : Nat} {V : Mv} {b : Bool} {Q : Option AV → Mv → Bool → Prop} (op : ∀ a0 : Int, in32 a0 → OpI 21 170 [.inl a0]) (hL : L ≤ 3584) (hN : N < 512) (h7 : 7 * (N : Int) + 7 ≤ (L : Int)) (hI : Iv N V) (kk : ∀ V2 b2, Iv (N + 1) V2 → Ev L 30 0 18 [some (.inr (.inr 0)), some (.inr (.inr 1)), some (.inr (.inr 120)), some (.inl (7 * ((N + 1 : Nat) : Int)))] [] V2 b2 Q) : Ev L 30 0 756 [some (.inr (.inr 0)), some (.inr (.inr 1)), some (.inr (.inr 120)), some (.inl (7 * (N : Int)))] [] V b Q := by
  have hs := hI.2
  refine Ev.blk 6 (B0_756 _ _ _ _ (by first | omega | exact hs _ | assumption | exact cmpI_in _ _ | (rw [h0]; exact hs _) | exact ⟨by omega, by omega⟩)) rfl ?_
  refine Ev.call rfl rfl (rfl) (op _ (hs _) L N V b hL hN hI) (by omega) ?_
  rintro v V1 b1 ⟨z, rfl, hz, h0, h1⟩
  refine Ev.blk 6 (B0_765 _ _ _ _ _ (by first | omega | exact hs _ | assumption | exact cmpI_in _ _ | (rw [h0]; exact hs _) | exact ⟨by omega, by omega⟩)) rfl ?_
  try rw [h0]
  refine Ev.call rfl rfl (rfl) (h1) (by omega) ?_
  rintro v V2 b2 ⟨rfl, h2⟩
  refine Ev.blk 1 (B0_774 _ _ _ _ _ _ (by first | omega | exact hs _ | assumption | exact cmpI_in _ _ | (rw [h0]; exact hs _) | exact ⟨by omega, by omega⟩) (by first | omega | exact hs _ | assumption | exact cmpI_in _ _ | (rw [h0]; exact hs _) | exact ⟨by omega, by omega⟩)) rfl ?_
  try rw [h0]
  refine Ev.ite (fun q => ?_) (fun q => ?_)
  · replace q := of_decide_eq_true q
    exact tail0 kk h2
  · replace q := of_decide_eq_false q
    refine Ev.blk 1 (B0_777 _ _ _ _) rfl ?_
    try rw [h0]
    refine Ev.ret rfl rfl rfl (by first | rfl | exact decide_eq_true (b01_or _)) ?_
    exact absurd rfl q

theorem cs_16t {L N : Nat} {V : Mv} {b : Bool} {Q : Option AV → Mv → Bool → Prop} (op : ∀ a0 a1 a2 : Int, in32 a0 → in32 a1 → (a2 = 0 ∨ a2 = 1) → OpJ 22 171 [.inl a0, .inl a1, .inl a2]) (hL : L ≤ 3584) (hN : N < 512) (h7 : 7 * (N : Int) + 7 ≤ (L : Int)) (hI : Iv N V) (hb : V 0 (7 * (N : Int) + 3).toNat = 0) (kk : ∀ V2 b2, Iv (N + 1) V2 → Ev L 30 0 18 [some (.inr (.inr 0)), some (.inr (.inr 1)), some (.inr (.inr 120)), some (.inl (7 * ((N + 1 : Nat) : Int)))] [] V2 b2 Q) : Ev L 30 0 779 [some (.inr (.inr 0)), some (.inr (.inr 1)), some (.inr (.inr 120)), some (.inl (7 * (N : Int)))] [] V b Q := by
  have hs := hI.2
  refine Ev.blk 17 (B0_779 _ _ _ _ (by first | omega | exact hs _ | assumption | exact cmpI_in _ _ | (rw [h0]; exact hs _) | exact ⟨by omega, by omega⟩) (by first | omega | exact hs _ | assumption | exact cmpI_in _ _ | (rw [h0]; exact hs _) | exact ⟨by omega, by omega⟩) (by first | omega | exact hs _ | assumption | exact cmpI_in _ _ | (rw [h0]; exact hs _) | exact ⟨by omega, by omega⟩) (by first | omega | exact hs _ | assumption | exact cmpI_in _ _ | (rw [h0]; exact hs _) | exact ⟨by omega, by omega⟩)) rfl ?_
  refine Ev.ite (fun _ => ?_) (fun q => absurd hb (of_decide_eq_false q))
  refine Ev.blk 1 (B0_802 _ _ _ _ _ _) rfl ?_
  refine Ev.call rfl rfl (rfl) (op _ _ _ (hs _) (hs _) (Or.inl rfl) L N V b hL hN hI) (by omega) ?_
  rintro v V1 b1 ⟨z, rfl, hz, h0, h1⟩
  refine Ev.blk 17 (B0_806 _ _ _ _ _ (by first | omega | exact hs _ | assumption | exact cmpI_in _ _ | (rw [h0]; exact hs _) | exact ⟨by omega, by omega⟩) (by first | omega | exact hs _ | assumption | exact cmpI_in _ _ | (rw [h0]; exact hs _) | exact ⟨by omega, by omega⟩) (by first | omega | exact hs _ | assumption | exact cmpI_in _ _ | (rw [h0]; exact hs _) | exact ⟨by omega, by omega⟩) (by first | omega | exact hs _ | assumption | exact cmpI_in _ _ | (rw [h0]; exact hs _) | exact ⟨by omega, by omega⟩)) rfl ?_
  try rw [h0]
  refine Ev.ite (fun _ => ?_) (fun q => absurd hb (of_decide_eq_false q))
  refine Ev.blk 1 (B0_829 _ _ _ _ _ _ _) rfl ?_
  try rw [h0]
  refine Ev.call rfl rfl (rfl) (h1) (by omega) ?_
  rintro v V2 b2 ⟨rfl, h2⟩
  refine Ev.blk 2 (B0_833 _ _ _ _ _ _ (by first | omega | exact hs _ | assumption | exact cmpI_in _ _ | (rw [h0]; exact hs _) | exact ⟨by omega, by omega⟩) (by first | omega | exact hs _ | assumption | exact cmpI_in _ _ | (rw [h0]; exact hs _) | exact ⟨by omega, by omega⟩) (by first | omega | exact hs _ | assumption | exact cmpI_in _ _ | (rw [h0]; exact hs _) | exact ⟨by omega, by omega⟩)) rfl ?_
  try rw [h0]
  refine Ev.ite (fun q => ?_) (fun q => ?_)
  · replace q := of_decide_eq_true q
    exact tail0 kk h2
  · replace q := of_decide_eq_false q
    refine Ev.blk 1 (B0_837 _ _ _ _) rfl ?_
    try rw [h0]
    refine Ev.ret rfl rfl rfl (by first | rfl | exact decide_eq_true (b01_or _)) ?_
    exact absurd ((cmpI_eq _ _).mpr rfl) q

theorem cs_16f {L N : Nat} {V : Mv} {b : Bool} {Q : Option AV → Mv → Bool → Prop} (op : ∀ a0 a1 a2 : Int, in32 a0 → in32 a1 → (a2 = 0 ∨ a2 = 1) → OpJ 22 171 [.inl a0, .inl a1, .inl a2]) (hL : L ≤ 3584) (hN : N < 512) (h7 : 7 * (N : Int) + 7 ≤ (L : Int)) (hI : Iv N V) (hb : ¬ V 0 (7 * (N : Int) + 3).toNat = 0) (kk : ∀ V2 b2, Iv (N + 1) V2 → Ev L 30 0 18 [some (.inr (.inr 0)), some (.inr (.inr 1)), some (.inr (.inr 120)), some (.inl (7 * ((N + 1 : Nat) : Int)))] [] V2 b2 Q) : Ev L 30 0 779 [some (.inr (.inr 0)), some (.inr (.inr 1)), some (.inr (.inr 120)), some (.inl (7 * (N : Int)))] [] V b Q := by
  have hs := hI.2
  refine Ev.blk 17 (B0_779 _ _ _ _ (by first | omega | exact hs _ | assumption | exact cmpI_in _ _ | (rw [h0]; exact hs _) | exact ⟨by omega, by omega⟩) (by first | omega | exact hs _ | assumption | exact cmpI_in _ _ | (rw [h0]; exact hs _) | exact ⟨by omega, by omega⟩) (by first | omega | exact hs _ | assumption | exact cmpI_in _ _ | (rw [h0]; exact hs _) | exact ⟨by omega, by omega⟩) (by first | omega | exact hs _ | assumption | exact cmpI_in _ _ | (rw [h0]; exact hs _) | exact ⟨by omega, by omega⟩)) rfl ?_
  refine Ev.ite (fun q => absurd (of_decide_eq_true q) hb) (fun _ => ?_)
  refine Ev.blk 2 (B0_798 _ _ _ _ _ _) rfl ?_
  refine Ev.call rfl rfl (rfl) (op _ _ _ (hs _) (hs _) (Or.inr rfl) L N V b hL hN hI) (by omega) ?_
  rintro v V1 b1 ⟨z, rfl, hz, h0, h1⟩
  refine Ev.blk 17 (B0_806 _ _ _ _ _ (by first | omega | exact hs _ | assumption | exact cmpI_in _ _ | (rw [h0]; exact hs _) | exact ⟨by omega, by omega⟩) (by first | omega | exact hs _ | assumption | exact cmpI_in _ _ | (rw [h0]; exact hs _) | exact ⟨by omega, by omega⟩) (by first | omega | exact hs _ | assumption | exact cmpI_in _ _ | (rw [h0]; exact hs _) | exact ⟨by omega, by omega⟩) (by first | omega | exact hs _ | assumption | exact cmpI_in _ _ | (rw [h0]; exact hs _) | exact ⟨by omega, by omega⟩)) rfl ?_
  try rw [h0]
  refine Ev.ite (fun q => absurd (of_decide_eq_true q) hb) (fun _ => ?_)
  refine Ev.blk 2 (B0_825 _ _ _ _ _ _ _) rfl ?_
  try rw [h0]
  refine Ev.call rfl rfl (rfl) (h1) (by omega) ?_
  rintro v V2 b2 ⟨rfl, h2⟩
  refine Ev.blk 2 (B0_833 _ _ _ _ _ _ (by first | omega | exact hs _ | assumption | exact cmpI_in _ _ | (rw [h0]; exact hs _) | exact ⟨by omega, by omega⟩) (by first | omega | exact hs _ | assumption | exact cmpI_in _ _ | (rw [h0]; exact hs _) | exact ⟨by omega, by omega⟩) (by first | omega | exact hs _ | assumption | exact cmpI_in _ _ | (rw [h0]; exact hs _) | exact ⟨by omega, by omega⟩)) rfl ?_
  try rw [h0]
  refine Ev.ite (fun q => ?_) (fun q => ?_)
  · replace q := of_decide_eq_true q
    exact tail0 kk h2
  · replace q := of_decide_eq_false q
    refine Ev.blk 1 (B0_837 _ _ _ _) rfl ?_
    try rw [h0]
    refine Ev.ret rfl rfl rfl (by first | rfl | exact decide_eq_true (b01_or _)) ?_
    exact absurd ((cmpI_eq _ _).mpr rfl) q

theorem cs_17 {L N : Nat} {V : Mv} {b : Bool} {Q : Option AV → Mv → Bool → Prop} (op : ∀ a0 a1 a2 : Int, in32 a0 → in32 a1 → in32 a2 → OpI 23 172 [.inl a0, .inl a1, .inl a2]) (hL : L ≤ 3584) (hN : N < 512) (h7 : 7 * (N : Int) + 7 ≤ (L : Int)) (hI : Iv N V) (kk : ∀ V2 b2, Iv (N + 1) V2 → Ev L 30 0 18 [some (.inr (.inr 0)), some (.inr (.inr 1)), some (.inr (.inr 120)), some (.inl (7 * ((N + 1 : Nat) : Int)))] [] V2 b2 Q) : Ev L 30 0 839 [some (.inr (.inr 0)), some (.inr (.inr 1)), some (.inr (.inr 120)), some (.inl (7 * (N : Int)))] [] V b Q := by
  have hs := hI.2
  refine Ev.blk 16 (B0_839 _ _ _ _ (by first | omega | exact hs _ | assumption | exact cmpI_in _ _ | (rw [h0]; exact hs _) | exact ⟨by omega, by omega⟩) (by first | omega | exact hs _ | assumption | exact cmpI_in _ _ | (rw [h0]; exact hs _) | exact ⟨by omega, by omega⟩) (by first | omega | exact hs _ | assumption | exact cmpI_in _ _ | (rw [h0]; exact hs _) | exact ⟨by omega, by omega⟩)) rfl ?_
  refine Ev.call rfl rfl (rfl) (op _ _ _ (hs _) (hs _) (hs _) L N V b hL hN hI) (by omega) ?_
  rintro v V1 b1 ⟨z, rfl, hz, h0, h1⟩
  refine Ev.blk 16 (B0_858 _ _ _ _ _ (by first | omega | exact hs _ | assumption | exact cmpI_in _ _ | (rw [h0]; exact hs _) | exact ⟨by omega, by omega⟩) (by first | omega | exact hs _ | assumption | exact cmpI_in _ _ | (rw [h0]; exact hs _) | exact ⟨by omega, by omega⟩) (by first | omega | exact hs _ | assumption | exact cmpI_in _ _ | (rw [h0]; exact hs _) | exact ⟨by omega, by omega⟩)) rfl ?_
  try rw [h0]
  refine Ev.call rfl rfl (rfl) (h1) (by omega) ?_
  rintro v V2 b2 ⟨rfl, h2⟩
  refine Ev.blk 1 (B0_877 _ _ _ _ _ _ (by first | omega | exact hs _ | assumption | exact cmpI_in _ _ | (rw [h0]; exact hs _) | exact ⟨by omega, by omega⟩) (by first | omega | exact hs _ | assumption | exact cmpI_in _ _ | (rw [h0]; exact hs _) | exact ⟨by omega, by omega⟩)) rfl ?_
  try rw [h0]
  refine Ev.ite (fun q => ?_) (fun q => ?_)
  · replace q := of_decide_eq_true q
    exact tail0 kk h2
  · replace q := of_decide_eq_false q
    refine Ev.blk 1 (B0_880 _ _ _ _) rfl ?_
    try rw [h0]
    refine Ev.ret rfl rfl rfl (by first | rfl | exact decide_eq_true (b01_or _)) ?_
    exact absurd rfl q

theorem cs_18t {L N : Nat} {V : Mv} {b : Bool} {Q : Option AV → Mv → Bool → Prop} (op : ∀ a0 a1 a2 : Int, in32 a0 → in32 a1 → (a2 = 0 ∨ a2 = 1) → OpJ 25 174 [.inl a0, .inl a1, .inl a2]) (hL : L ≤ 3584) (hN : N < 512) (h7 : 7 * (N : Int) + 7 ≤ (L : Int)) (hI : Iv N V) (hb : V 0 (7 * (N : Int) + 3).toNat = 0) (kk : ∀ V2 b2, Iv (N + 1) V2 → Ev L 30 0 18 [some (.inr (.inr 0)), some (.inr (.inr 1)), some (.inr (.inr 120)), some (.inl (7 * ((N + 1 : Nat) : Int)))] [] V2 b2 Q) : Ev L 30 0 882 [some (.inr (.inr 0)), some (.inr (.inr 1)), some (.inr (.inr 120)), some (.inl (7 * (N : Int)))] [] V b Q := by
  have hs := hI.2
  refine Ev.blk 17 (B0_882 _ _ _ _ (by first | omega | exact hs _ | assumption | exact cmpI_in _ _ | (rw [h0]; exact hs _) | exact ⟨by omega, by omega⟩) (by first | omega | exact hs _ | assumption | exact cmpI_in _ _ | (rw [h0]; exact hs _) | exact ⟨by omega, by omega⟩) (by first | omega | exact hs _ | assumption | exact cmpI_in _ _ | (rw [h0]; exact hs _) | exact ⟨by omega, by omega⟩) (by first | omega | exact hs _ | assumption | exact cmpI_in _ _ | (rw [h0]; exact hs _) | exact ⟨by omega, by omega⟩)) rfl ?_
  refine Ev.ite (fun _ => ?_) (fun q => absurd hb (of_decide_eq_false q))
  refine Ev.blk 1 (B0_905 _ _ _ _ _ _) rfl ?_
  refine Ev.call rfl rfl (rfl) (op _ _ _ (hs _) (hs _) (Or.inl rfl) L N V b hL hN hI) (by omega) ?_
  rintro v V1 b1 ⟨z, rfl, hz, h0, h1⟩
  refine Ev.blk 17 (B0_909 _ _ _ _ _ (by first | omega | exact hs _ | assumption | exact cmpI_in _ _ | (rw [h0]; exact hs _) | exact ⟨by omega, by omega⟩) (by first | omega | exact hs _ | assumption | exact cmpI_in _ _ | (rw [h0]; exact hs _) | exact ⟨by omega, by omega⟩) (by first | omega | exact hs _ | assumption | exact cmpI_in _ _ | (rw [h0]; exact hs _) | exact ⟨by omega, by omega⟩) (by first | omega | exact hs _ | assumption | exact cmpI_in _ _ | (rw [h0]; exact hs _) | exact ⟨by omega, by omega⟩)) rfl ?_
  try rw [h0]
  refine Ev.ite (fun _ => ?_) (fun q => absurd hb (of_decide_eq_false q))
  refine Ev.blk 1 (B0_932 _ _ _ _ _ _ _) rfl ?_
  try rw [h0]
  refine Ev.call rfl rfl (rfl) (h1) (by omega) ?_
  rintro v V2 b2 ⟨rfl, h2⟩
  refine Ev.blk 2 (B0_936 _ _ _ _ _ _ (by first | omega | exact hs _ | assumption | exact cmpI_in _ _ | (rw [h0]; exact hs _) | exact ⟨by omega, by omega⟩) (by first | omega | exact hs _ | assumption | exact cmpI_in _ _ | (rw [h0]; exact hs _) | exact ⟨by omega, by omega⟩) (by first | omega | exact hs _ | assumption | exact cmpI_in _ _ | (rw [h0]; exact hs _) | exact ⟨by omega, by omega⟩)) rfl ?_
  try rw [h0]
  refine Ev.ite (fun q => ?_) (fun q => ?_)
  · replace q := of_decide_eq_true q
    exact tail0 kk h2
  · replace q := of_decide_eq_false q
    refine Ev.blk 1 (B0_940 _ _ _ _) rfl ?_
    try rw [h0]
    refine Ev.ret rfl rfl rfl (by first | rfl | exact decide_eq_true (b01_or _)) ?_
    exact absurd ((cmpI_eq _ _).mpr rfl) q

theorem cs_18f {L N : Nat} {V : Mv} {b : Bool} {Q : Option AV → Mv → Bool → Prop} (op : ∀ a0 a1 a2 : Int, in32 a0 → in32 a1 → (a2 = 0 ∨ a2 = 1) → OpJ 25 174 [.inl a0, .inl a1, .inl a2]) (hL : L ≤ 3584) (hN : N < 512) (h7 : 7 * (N : Int) + 7 ≤ (L : Int)) (hI : Iv N V) (hb : ¬ V 0 (7 * (N : Int) + 3).toNat = 0) (kk : ∀ V2 b2, Iv (N + 1) V2 → Ev L 30 0 18 [some (.inr (.inr 0)), some (.inr (.inr 1)), some (.inr (.inr 120)), some (.inl (7 * ((N + 1 : Nat) : Int)))] [] V2 b2 Q) : Ev L 30 0 882 [some (.inr (.inr 0)), some (.inr (.inr 1)), some (.inr (.inr 120)), some (.inl (7 * (N : Int)))] [] V b Q := by
  have hs := hI.2
  refine Ev.blk 17 (B0_882 _ _ _ _ (by first | omega | exact hs _ | assumption | exact cmpI_in _ _ | (rw [h0]; exact hs _) | exact ⟨by omega, by omega⟩) (by first | omega | exact hs _ | assumption | exact cmpI_in _ _ | (rw [h0]; exact hs _) | exact ⟨by omega, by omega⟩) (by first | omega | exact hs _ | assumption | exact cmpI_in _ _ | (rw [h0]; exact hs _) | exact ⟨by omega, by omega⟩) (by first | omega | exact hs _ | assumption | exact cmpI_in _ _ | (rw [h0]; exact hs _) | exact ⟨by omega, by omega⟩)) rfl ?_
  refine Ev.ite (fun q => absurd (of_decide_eq_true q) hb) (fun _ => ?_)
  refine Ev.blk 2 (B0_901 _ _ _ _ _ _) rfl ?_
  refine Ev.call rfl rfl (rfl) (op _ _ _ (hs _) (hs _) (Or.inr rfl) L N V b hL hN hI) (by omega) ?_
  rintro v V1 b1 ⟨z, rfl, hz, h0, h1⟩
  refine Ev.blk 17 (B0_909 _ _ _ _ _ (by first | omega | exact hs _ | assumption | exact cmpI_in _ _ | (rw [h0]; exact hs _) | exact ⟨by omega, by omega⟩) (by first | omega | exact hs _ | assumption | exact cmpI_in _ _ | (rw [h0]; exact hs _) | exact ⟨by omega, by omega⟩) (by first | omega | exact hs _ | assumption | exact cmpI_in _ _ | (rw [h0]; exact hs _) | exact ⟨by omega, by omega⟩) (by first | omega | exact hs _ | assumption | exact cmpI_in _ _ | (rw [h0]; exact hs _) | exact ⟨by omega, by omega⟩)) rfl ?_
  try rw [h0]
  refine Ev.ite (fun q => absurd (of_decide_eq_true q) hb) (fun _ => ?_)
  refine Ev.blk 2 (B0_928 _ _ _ _ _ _ _) rfl ?_
  try rw [h0]
  refine Ev.call rfl rfl (rfl) (h1) (by omega) ?_
  rintro v V2 b2 ⟨rfl, h2⟩
  refine Ev.blk 2 (B0_936 _ _ _ _ _ _ (by first | omega | exact hs _ | assumption | exact cmpI_in _ _ | (rw [h0]; exact hs _) | exact ⟨by omega, by omega⟩) (by first | omega | exact hs _ | assumption | exact cmpI_in _ _ | (rw [h0]; exact hs _) | exact ⟨by omega, by omega⟩) (by first | omega | exact hs _ | assumption | exact cmpI_in _ _ | (rw [h0]; exact hs _) | exact ⟨by omega, by omega⟩)) rfl ?_
  try rw [h0]
  refine Ev.ite (fun q => ?_) (fun q => ?_)
  · replace q := of_decide_eq_true q
    exact tail0 kk h2
  · replace q := of_decide_eq_false q
    refine Ev.blk 1 (B0_940 _ _ _ _) rfl ?_
    try rw [h0]
    refine Ev.ret rfl rfl rfl (by first | rfl | exact decide_eq_true (b01_or _)) ?_
    exact absurd ((cmpI_eq _ _).mpr rfl) q

theorem cs_19 {L N : Nat} {V : Mv} {b : Bool} {Q : Option AV → Mv → Bool → Prop} (op : ∀ a0 a1 a2 : Int, in32 a0 → in32 a1 → in32 a2 → OpI 26 182 [.inl a0, .inl a1, .inl a2]) (hL : L ≤ 3584) (hN : N < 512) (h7 : 7 * (N : Int) + 7 ≤ (L : Int)) (hI : Iv N V) (kk : ∀ V2 b2, Iv (N + 1) V2 → Ev L 30 0 18 [some (.inr (.inr 0)), some (.inr (.inr 1)), some (.inr (.inr 120)), some (.inl (7 * ((N + 1 : Nat) : Int)))] [] V2 b2 Q) : Ev L 30 0 942 [some (.inr (.inr 0)), some (.inr (.inr 1)), some (.inr (.inr 120)), some (.inl (7 * (N : Int)))] [] V b Q := by
  have hs := hI.2
  refine Ev.blk 16 (B0_942 _ _ _ _ (by first | omega | exact hs _ | assumption | exact cmpI_in _ _ | (rw [h0]; exact hs _) | exact ⟨by omega, by omega⟩) (by first | omega | exact hs _ | assumption | exact cmpI_in _ _ | (rw [h0]; exact hs _) | exact ⟨by omega, by omega⟩) (by first | omega | exact hs _ | assumption | exact cmpI_in _ _ | (rw [h0]; exact hs _) | exact ⟨by omega, by omega⟩)) rfl ?_
  refine Ev.call rfl rfl (rfl) (op _ _ _ (hs _) (hs _) (hs _) L N V b hL hN hI) (by omega) ?_
  rintro v V1 b1 ⟨z, rfl, hz, h0, h1⟩
  refine Ev.blk 16 (B0_961 _ _ _ _ _ (by first | omega | exact hs _ | assumption | exact cmpI_in _ _ | (rw [h0]; exact hs _) | exact ⟨by omega, by omega⟩) (by first | omega | exact hs _ | assumption | exact cmpI_in _ _ | (rw [h0]; exact hs _) | exact ⟨by omega, by omega⟩) (by first | omega | exact hs _ | assumption | exact cmpI_in _ _ | (rw [h0]; exact hs _) | exact ⟨by omega, by omega⟩)) rfl ?_
  try rw [h0]
  refine Ev.call rfl rfl (rfl) (h1) (by omega) ?_
  rintro v V2 b2 ⟨rfl, h2⟩
  refine Ev.blk 1 (B0_980 _ _ _ _ _ _ (by first | omega | exact hs _ | assumption | exact cmpI_in _ _ | (rw [h0]; exact hs _) | exact ⟨by omega, by omega⟩) (by first | omega | exact hs _ | assumption | exact cmpI_in _ _ | (rw [h0]; exact hs _) | exact ⟨by omega, by omega⟩)) rfl ?_
  try rw [h0]
  refine Ev.ite (fun q => ?_) (fun q => ?_)
  · replace q := of_decide_eq_true q
    exact tail0 kk h2
  · replace q := of_decide_eq_false q
    refine Ev.blk 1 (B0_983 _ _ _ _) rfl ?_
    try rw [h0]
    refine Ev.ret rfl rfl rfl (by first | rfl | exact decide_eq_true (b01_or _)) ?_
    exact absurd rfl q

theorem cs_20 {L N : Nat} {V : Mv} {b : Bool} {Q : Option AV → Mv → Bool → Prop} (op : ∀ a0 : Int, in32 a0 → OpI 27 183 [.inl a0]) (hL : L ≤ 3584) (hN : N < 512) (h7 : 7 * (N : Int) + 7 ≤ (L : Int)) (hI : Iv N V) (kk : ∀ V2 b2, Iv (N + 1) V2 → Ev L 30 0 18 [some (.inr (.inr 0)), some (.inr (.inr 1)), some (.inr (.inr 120)), some (.inl (7 * ((N + 1 : Nat) : Int)))] [] V2 b2 Q) : Ev L 30 0 985 [some (.inr (.inr 0)), some (.inr (.inr 1)), some (.inr (.inr 120)), some (.inl (7 * (N : Int)))] [] V b Q := by
  have hs := hI.2
  refine Ev.blk 6 (B0_985 _ _ _ _ (by first | omega | exact hs _ | assumption | exact cmpI_in _ _ | (rw [h0]; exact hs _) | exact ⟨by omega, by omega⟩)) rfl ?_
  refine Ev.call rfl rfl (rfl) (op _ (hs _) L N V b hL hN hI) (by omega) ?_
  rintro v V1 b1 ⟨z, rfl, hz, h0, h1⟩
  refine Ev.blk 6 (B0_994 _ _ _ _ _ (by first | omega | exact hs _ | assumption | exact cmpI_in _ _ | (rw [h0]; exact hs _) | exact ⟨by omega, by omega⟩)) rfl ?_
  try rw [h0]
  refine Ev.call rfl rfl (rfl) (h1) (by omega) ?_
  rintro v V2 b2 ⟨rfl, h2⟩
  refine Ev.blk 1 (B0_1003 _ _ _ _ _ _ (by first | omega | exact hs _ | assumption | exact cmpI_in _ _ | (rw [h0]; exact hs _) | exact ⟨by omega, by omega⟩) (by first | omega | exact hs _ | assumption | exact cmpI_in _ _ | (rw [h0]; exact hs _) | exact ⟨by omega, by omega⟩)) rfl ?_
  try rw [h0]
  refine Ev.ite (fun q => ?_) (fun q => ?_)
  · replace q := of_decide_eq_true q
    exact tail0 kk h2
  · replace q := of_decide_eq_false q
    refine Ev.blk 1 (B0_1006 _ _ _ _) rfl ?_
    try rw [h0]
    refine Ev.ret rfl rfl rfl (by first | rfl | exact decide_eq_true (b01_or _)) ?_
    exact absurd rfl q

theorem cs_21t {L N : Nat} {V : Mv} {b : Bool} {Q : Option AV → Mv → Bool → Prop} (op : ∀ a0 a1 : Int, in32 a0 → (a1 = 0 ∨ a1 = 1) → OpJ 29 190 [.inl a0, .inl a1]) (hL : L ≤ 3584) (hN : N < 512) (h7 : 7 * (N : Int) + 7 ≤ (L : Int)) (hI : Iv N V) (hb : V 0 (7 * (N : Int) + 2).toNat = 0) (kk : ∀ V2 b2, Iv (N + 1) V2 → Ev L 30 0 18 [some (.inr (.inr 0)), some (.inr (.inr 1)), some (.inr (.inr 120)), some (.inl (7 * ((N + 1 : Nat) : Int)))] [] V2 b2 Q) : Ev L 30 0 1008 [some (.inr (.inr 0)), some (.inr (.inr 1)), some (.inr (.inr 120)), some (.inl (7 * (N : Int)))] [] V b Q := by
  have hs := hI.2
  refine Ev.blk 12 (B0_1008 _ _ _ _ (by first | omega | exact hs _ | assumption | exact cmpI_in _ _ | (rw [h0]; exact hs _) | exact ⟨by omega, by omega⟩) (by first | omega | exact hs _ | assumption | exact cmpI_in _ _ | (rw [h0]; exact hs _) | exact ⟨by omega, by omega⟩) (by first | omega | exact hs _ | assumption | exact cmpI_in _ _ | (rw [h0]; exact hs _) | exact ⟨by omega, by omega⟩)) rfl ?_
  refine Ev.ite (fun _ => ?_) (fun q => absurd hb (of_decide_eq_false q))
  refine Ev.blk 1 (B0_1026 _ _ _ _ _) rfl ?_
  refine Ev.call rfl rfl (rfl) (op _ _ (hs _) (Or.inl rfl) L N V b hL hN hI) (by omega) ?_
  rintro v V1 b1 ⟨z, rfl, hz, h0, h1⟩
  refine Ev.blk 12 (B0_1030 _ _ _ _ _ (by first | omega | exact hs _ | assumption | exact cmpI_in _ _ | (rw [h0]; exact hs _) | exact ⟨by omega, by omega⟩) (by first | omega | exact hs _ | assumption | exact cmpI_in _ _ | (rw [h0]; exact hs _) | exact ⟨by omega, by omega⟩) (by first | omega | exact hs _ | assumption | exact cmpI_in _ _ | (rw [h0]; exact hs _) | exact ⟨by omega, by omega⟩)) rfl ?_
  try rw [h0]
  refine Ev.ite (fun _ => ?_) (fun q => absurd hb (of_decide_eq_false q))
  refine Ev.blk 1 (B0_1048 _ _ _ _ _ _) rfl ?_
  try rw [h0]
  refine Ev.call rfl rfl (rfl) (h1) (by omega) ?_
  rintro v V2 b2 ⟨rfl, h2⟩
  refine Ev.blk 2 (B0_1052 _ _ _ _ _ _ (by first | omega | exact hs _ | assumption | exact cmpI_in _ _ | (rw [h0]; exact hs _) | exact ⟨by omega, by omega⟩) (by first | omega | exact hs _ | assumption | exact cmpI_in _ _ | (rw [h0]; exact hs _) | exact ⟨by omega, by omega⟩) (by first | omega | exact hs _ | assumption | exact cmpI_in _ _ | (rw [h0]; exact hs _) | exact ⟨by omega, by omega⟩)) rfl ?_
  try rw [h0]
  refine Ev.ite (fun q => ?_) (fun q => ?_)
  · replace q := of_decide_eq_true q
    exact tail0 kk h2
  · replace q := of_decide_eq_false q
    refine Ev.blk 1 (B0_1056 _ _ _ _) rfl ?_
    try rw [h0]
    refine Ev.ret rfl rfl rfl (by first | rfl | exact decide_eq_true (b01_or _)) ?_
    exact absurd ((cmpI_eq _ _).mpr rfl) q

theorem cs_21f {L N : Nat} {V : Mv} {b : Bool} {Q : Option AV → Mv → Bool → Prop} (op : ∀ a0 a1 : Int, in32 a0 → (a1 = 0 ∨ a1 = 1) → OpJ 29 190 [.inl a0, .inl a1]) (hL : L ≤ 3584) (hN : N < 512) (h7 : 7 * (N : Int) + 7 ≤ (L : Int)) (hI : Iv N V) (hb : ¬ V 0 (7 * (N : Int) + 2).toNat = 0) (kk : ∀ V2 b2, Iv (N + 1) V2 → Ev L 30 0 18 [some (.inr (.inr 0)), some (.inr (.inr 1)), some (.inr (.inr 120)), some (.inl (7 * ((N + 1 : Nat) : Int)))] [] V2 b2 Q) : Ev L 30 0 1008 [some (.inr (.inr 0)), some (.inr (.inr 1)), some (.inr (.inr 120)), some (.inl (7 * (N : Int)))] [] V b Q := by
  have hs := hI.2
  refine Ev.blk 12 (B0_1008 _ _ _ _ (by first | omega | exact hs _ | assumption | exact cmpI_in _ _ | (rw [h0]; exact hs _) | exact ⟨by omega, by omega⟩) (by first | omega | exact hs _ | assumption | exact cmpI_in _ _ | (rw [h0]; exact hs _) | exact ⟨by omega, by omega⟩) (by first | omega | exact hs _ | assumption | exact cmpI_in _ _ | (rw [h0]; exact hs _) | exact ⟨by omega, by omega⟩)) rfl ?_
  refine Ev.ite (fun q => absurd (of_decide_eq_true q) hb) (fun _ => ?_)
  refine Ev.blk 2 (B0_1022 _ _ _ _ _) rfl ?_
  refine Ev.call rfl rfl (rfl) (op _ _ (hs _) (Or.inr rfl) L N V b hL hN hI) (by omega) ?_
  rintro v V1 b1 ⟨z, rfl, hz, h0, h1⟩
  refine Ev.blk 12 (B0_1030 _ _ _ _ _ (by first | omega | exact hs _ | assumption | exact cmpI_in _ _ | (rw [h0]; exact hs _) | exact ⟨by omega, by omega⟩) (by first | omega | exact hs _ | assumption | exact cmpI_in _ _ | (rw [h0]; exact hs _) | exact ⟨by omega, by omega⟩) (by first | omega | exact hs _ | assumption | exact cmpI_in _ _ | (rw [h0]; exact hs _) | exact ⟨by omega, by omega⟩)) rfl ?_
  try rw [h0]
  refine Ev.ite (fun q => absurd (of_decide_eq_true q) hb) (fun _ => ?_)
  refine Ev.blk 2 (B0_1044 _ _ _ _ _ _) rfl ?_
  try rw [h0]
  refine Ev.call rfl rfl (rfl) (h1) (by omega) ?_
  rintro v V2 b2 ⟨rfl, h2⟩
  refine Ev.blk 2 (B0_1052 _ _ _ _ _ _ (by first | omega | exact hs _ | assumption | exact cmpI_in _ _ | (rw [h0]; exact hs _) | exact ⟨by omega, by omega⟩) (by first | omega | exact hs _ | assumption | exact cmpI_in _ _ | (rw [h0]; exact hs _) | exact ⟨by omega, by omega⟩) (by first | omega | exact hs _ | assumption | exact cmpI_in _ _ | (rw [h0]; exact hs _) | exact ⟨by omega, by omega⟩)) rfl ?_
  try rw [h0]
  refine Ev.ite (fun q => ?_) (fun q => ?_)
  · replace q := of_decide_eq_true q
    exact tail0 kk h2
  · replace q := of_decide_eq_false q
    refine Ev.blk 1 (B0_1056 _ _ _ _) rfl ?_
    try rw [h0]
    refine Ev.ret rfl rfl rfl (by first | rfl | exact decide_eq_true (b01_or _)) ?_
    exact absurd ((cmpI_eq _ _).mpr rfl) q

theorem cs_22 {L N : Nat} {V : Mv} {b : Bool} {Q : Option AV → Mv → Bool → Prop} (op : ∀ a0 a1 a2 : Int, in32 a0 → in32 a1 → in32 a2 → OpI 30 191 [.inl a0, .inl a1, .inl a2]) (hL : L ≤ 3584) (hN : N < 512) (h7 : 7 * (N : Int) + 7 ≤ (L : Int)) (hI : Iv N V) (kk : ∀ V2 b2, Iv (N + 1) V2 → Ev L 30 0 18 [some (.inr (.inr 0)), some (.inr (.inr 1)), some (.inr (.inr 120)), some (.inl (7 * ((N + 1 : Nat) : Int)))] [] V2 b2 Q) : Ev L 30 0 1058 [some (.inr (.inr 0)), some (.inr (.inr 1)), some (.inr (.inr 120)), some (.inl (7 * (N : Int)))] [] V b Q := by
  have hs := hI.2
  refine Ev.blk 16 (B0_1058 _ _ _ _ (by first | omega | exact hs _ | assumption | exact cmpI_in _ _ | (rw [h0]; exact hs _) | exact ⟨by omega, by omega⟩) (by first | omega | exact hs _ | assumption | exact cmpI_in _ _ | (rw [h0]; exact hs _) | exact ⟨by omega, by omega⟩) (by first | omega | exact hs _ | assumption | exact cmpI_in _ _ | (rw [h0]; exact hs _) | exact ⟨by omega, by omega⟩)) rfl ?_
  refine Ev.call rfl rfl (rfl) (op _ _ _ (hs _) (hs _) (hs _) L N V b hL hN hI) (by omega) ?_
  rintro v V1 b1 ⟨z, rfl, hz, h0, h1⟩
  refine Ev.blk 16 (B0_1077 _ _ _ _ _ (by first | omega | exact hs _ | assumption | exact cmpI_in _ _ | (rw [h0]; exact hs _) | exact ⟨by omega, by omega⟩) (by first | omega | exact hs _ | assumption | exact cmpI_in _ _ | (rw [h0]; exact hs _) | exact ⟨by omega, by omega⟩) (by first | omega | exact hs _ | assumption | exact cmpI_in _ _ | (rw [h0]; exact hs _) | exact ⟨by omega, by omega⟩)) rfl ?_
  try rw [h0]
  refine Ev.call rfl rfl (rfl) (h1) (by omega) ?_
  rintro v V2 b2 ⟨rfl, h2⟩
  refine Ev.blk 1 (B0_1096 _ _ _ _ _ _ (by first | omega | exact hs _ | assumption | exact cmpI_in _ _ | (rw [h0]; exact hs _) | exact ⟨by omega, by omega⟩) (by first | omega | exact hs _ | assumption | exact cmpI_in _ _ | (rw [h0]; exact hs _) | exact ⟨by omega, by omega⟩)) rfl ?_
  try rw [h0]
  refine Ev.ite (fun q => ?_) (fun q => ?_)
  · replace q := of_decide_eq_true q
    exact tail0 kk h2
  · replace q := of_decide_eq_false q
    refine Ev.blk 1 (B0_1099 _ _ _ _) rfl ?_
    try rw [h0]
    refine Ev.ret rfl rfl rfl (by first | rfl | exact decide_eq_true (b01_or _)) ?_
    exact absurd rfl q

theorem cs_23t {L N : Nat} {V : Mv} {b : Bool} {Q : Option AV → Mv → Bool → Prop} (op : ∀ a0 a1 a2 a3 : Int, in32 a0 → in32 a1 → in32 a2 → (a3 = 0 ∨ a3 = 1) → OpJ 31 192 [.inl a0, .inl a1, .inl a2, .inl a3]) (hL : L ≤ 3584) (hN : N < 512) (h7 : 7 * (N : Int) + 7 ≤ (L : Int)) (hI : Iv N V) (hb : V 0 (7 * (N : Int) + 4).toNat = 0) (kk : ∀ V2 b2, Iv (N + 1) V2 → Ev L 30 0 18 [some (.inr (.inr 0)), some (.inr (.inr 1)), some (.inr (.inr 120)), some (.inl (7 * ((N + 1 : Nat) : Int)))] [] V2 b2 Q) : Ev L 30 0 1101 [some (.inr (.inr 0)), some (.inr (.inr 1)), some (.inr (.inr 120)), some (.inl (7 * (N : Int)))] [] V b Q := by
  have hs := hI.2
  refine Ev.blk 22 (B0_1101 _ _ _ _ (by first | omega | exact hs _ | assumption | exact cmpI_in _ _ | (rw [h0]; exact hs _) | exact ⟨by omega, by omega⟩) (by first | omega | exact hs _ | assumption | exact cmpI_in _ _ | (rw [h0]; exact hs _) | exact ⟨by omega, by omega⟩) (by first | omega | exact hs _ | assumption | exact cmpI_in _ _ | (rw [h0]; exact hs _) | exact ⟨by omega, by omega⟩) (by first | omega | exact hs _ | assumption | exact cmpI_in _ _ | (rw [h0]; exact hs _) | exact ⟨by omega, by omega⟩) (by first | omega | exact hs _ | assumption | exact cmpI_in _ _ | (rw [h0]; exact hs _) | exact ⟨by omega, by omega⟩)) rfl ?_
  refine Ev.ite (fun _ => ?_) (fun q => absurd hb (of_decide_eq_false q))
  refine Ev.blk 1 (B0_1129 _ _ _ _ _ _ _) rfl ?_
  refine Ev.call rfl rfl (rfl) (op _ _ _ _ (hs _) (hs _) (hs _) (Or.inl rfl) L N V b hL hN hI) (by omega) ?_
  rintro v V1 b1 ⟨z, rfl, hz, h0, h1⟩
  refine Ev.blk 22 (B0_1133 _ _ _ _ _ (by first | omega | exact hs _ | assumption | exact cmpI_in _ _ | (rw [h0]; exact hs _) | exact ⟨by omega, by omega⟩) (by first | omega | exact hs _ | assumption | exact cmpI_in _ _ | (rw [h0]; exact hs _) | exact ⟨by omega, by omega⟩) (by first | omega | exact hs _ | assumption | exact cmpI_in _ _ | (rw [h0]; exact hs _) | exact ⟨by omega, by omega⟩) (by first | omega | exact hs _ | assumption | exact cmpI_in _ _ | (rw [h0]; exact hs _) | exact ⟨by omega, by omega⟩) (by first | omega | exact hs _ | assumption | exact cmpI_in _ _ | (rw [h0]; exact hs _) | exact ⟨by omega, by omega⟩)) rfl ?_
  try rw [h0]
  refine Ev.ite (fun _ => ?_) (fun q => absurd hb (of_decide_eq_false q))
  refine Ev.blk 1 (B0_1161 _ _ _ _ _ _ _ _) rfl ?_
  try rw [h0]
  refine Ev.call rfl rfl (rfl) (h1) (by omega) ?_
  rintro v V2 b2 ⟨rfl, h2⟩
  refine Ev.blk 2 (B0_1165 _ _ _ _ _ _ (by first | omega | exact hs _ | assumption | exact cmpI_in _ _ | (rw [h0]; exact hs _) | exact ⟨by omega, by omega⟩) (by first | omega | exact hs _ | assumption | exact cmpI_in _ _ | (rw [h0]; exact hs _) | exact ⟨by omega, by omega⟩) (by first | omega | exact hs _ | assumption | exact cmpI_in _ _ | (rw [h0]; exact hs _) | exact ⟨by omega, by omega⟩)) rfl ?_
  try rw [h0]
  refine Ev.ite (fun q => ?_) (fun q => ?_)
  · replace q := of_decide_eq_true q
    exact tail0 kk h2
  · replace q := of_decide_eq_false q
    refine Ev.blk 1 (B0_1169 _ _ _ _) rfl ?_
    try rw [h0]
    refine Ev.ret rfl rfl rfl (by first | rfl | exact decide_eq_true (b01_or _)) ?_
    exact absurd ((cmpI_eq _ _).mpr rfl) q

theorem cs_23f {L N : Nat} {V : Mv} {b : Bool} {Q : Option AV → Mv → Bool → Prop} (op : ∀ a0 a1 a2 a3 : Int, in32 a0 → in32 a1 → in32 a2 → (a3 = 0 ∨ a3 = 1) → OpJ 31 192 [.inl a0, .inl a1, .inl a2, .inl a3]) (hL : L ≤ 3584) (hN : N < 512) (h7 : 7 * (N : Int) + 7 ≤ (L : Int)) (hI : Iv N V) (hb : ¬ V 0 (7 * (N : Int) + 4).toNat = 0) (kk : ∀ V2 b2, Iv (N + 1) V2 → Ev L 30 0 18 [some (.inr (.inr 0)), some (.inr (.inr 1)), some (.inr (.inr 120)), some (.inl (7 * ((N + 1 : Nat) : Int)))] [] V2 b2 Q) : Ev L 30 0 1101 [some (.inr (.inr 0)), some (.inr (.inr 1)), some (.inr (.inr 120)), some (.inl (7 * (N : Int)))] [] V b Q := by
  have hs := hI.2
  refine Ev.blk 22 (B0_1101 _ _ _ _ (by first | omega | exact hs _ | assumption | exact cmpI_in _ _ | (rw [h0]; exact hs _) | exact ⟨by omega, by omega⟩) (by first | omega | exact hs _ | assumption | exact cmpI_in _ _ | (rw [h0]; exact hs _) | exact ⟨by omega, by omega⟩) (by first | omega | exact hs _ | assumption | exact cmpI_in _ _ | (rw [h0]; exact hs _) | exact ⟨by omega, by omega⟩) (by first | omega | exact hs _ | assumption | exact cmpI_in _ _ | (rw [h0]; exact hs _) | exact ⟨by omega, by omega⟩) (by first | omega | exact hs _ | assumption | exact cmpI_in _ _ | (rw [h0]; exact hs _) | exact ⟨by omega, by omega⟩)) rfl ?_
  refine Ev.ite (fun q => absurd (of_decide_eq_true q) hb) (fun _ => ?_)
  refine Ev.blk 2 (B0_1125 _ _ _ _ _ _ _) rfl ?_
  refine Ev.call rfl rfl (rfl) (op _ _ _ _ (hs _) (hs _) (hs _) (Or.inr rfl) L N V b hL hN hI) (by omega) ?_
  rintro v V1 b1 ⟨z, rfl, hz, h0, h1⟩
  refine Ev.blk 22 (B0_1133 _ _ _ _ _ (by first | omega | exact hs _ | assumption | exact cmpI_in _ _ | (rw [h0]; exact hs _) | exact ⟨by omega, by omega⟩) (by first | omega | exact hs _ | assumption | exact cmpI_in _ _ | (rw [h0]; exact hs _) | exact ⟨by omega, by omega⟩) (by first | omega | exact hs _ | assumption | exact cmpI_in _ _ | (rw [h0]; exact hs _) | exact ⟨by omega, by omega⟩) (by first | omega | exact hs _ | assumption | exact cmpI_in _ _ | (rw [h0]; exact hs _) | exact ⟨by omega, by omega⟩) (by first | omega | exact hs _ | assumption | exact cmpI_in _ _ | (rw [h0]; exact hs _) | exact ⟨by omega, by omega⟩)) rfl ?_
  try rw [h0]
  refine Ev.ite (fun q => absurd (of_decide_eq_true q) hb) (fun _ => ?_)
  refine Ev.blk 2 (B0_1157 _ _ _ _ _ _ _ _) rfl ?_
  try rw [h0]
  refine Ev.call rfl rfl (rfl) (h1) (by omega) ?_
  rintro v V2 b2 ⟨rfl, h2⟩
  refine Ev.blk 2 (B0_1165 _ _ _ _ _ _ (by first | omega | exact hs _ | assumption | exact cmpI_in _ _ | (rw [h0]; exact hs _) | exact ⟨by omega, by omega⟩) (by first | omega | exact hs _ | assumption | exact cmpI_in _ _ | (rw [h0]; exact hs _) | exact ⟨by omega, by omega⟩) (by first | omega | exact hs _ | assumption | exact cmpI_in _ _ | (rw [h0]; exact hs _) | exact ⟨by omega, by omega⟩)) rfl ?_
  try rw [h0]
  refine Ev.ite (fun q => ?_) (fun q => ?_)
  · replace q := of_decide_eq_true q
    exact tail0 kk h2
  · replace q := of_decide_eq_false q
    refine Ev.blk 1 (B0_1169 _ _ _ _) rfl ?_
    try rw [h0]
    refine Ev.ret rfl rfl rfl (by first | rfl | exact decide_eq_true (b01_or _)) ?_
    exact absurd ((cmpI_eq _ _).mpr rfl) q

theorem cs_24 {L N : Nat} {V : Mv} {b : Bool} {Q : Option AV → Mv → Bool → Prop} (op : ∀ a0 : Int, in32 a0 → OpI 33 194 [.inl a0]) (hL : L ≤ 3584) (hN : N < 512) (h7 : 7 * (N : Int) + 7 ≤ (L : Int)) (hI : Iv N V) (kk : ∀ V2 b2, Iv (N + 1) V2 → Ev L 30 0 18 [some (.inr (.inr 0)), some (.inr (.inr 1)), some (.inr (.inr 120)), some (.inl (7 * ((N + 1 : Nat) : Int)))] [] V2 b2 Q) : Ev L 30 0 1171 [some (.inr (.inr 0)), some (.inr (.inr 1)), some (.inr (.inr 120)), some (.inl (7 * (N : Int)))] [] V b Q := by
  have hs := hI.2
  refine Ev.blk 6 (B0_1171 _ _ _ _ (by first | omega | exact hs _ | assumption | exact cmpI_in _ _ | (rw [h0]; exact hs _) | exact ⟨by omega, by omega⟩)) rfl ?_
  refine Ev.call rfl rfl (rfl) (op _ (hs _) L N V b hL hN hI) (by omega) ?_
  rintro v V1 b1 ⟨z, rfl, hz, h0, h1⟩
  refine Ev.blk 6 (B0_1180 _ _ _ _ _ (by first | omega | exact hs _ | assumption | exact cmpI_in _ _ | (rw [h0]; exact hs _) | exact ⟨by omega, by omega⟩)) rfl ?_
  try rw [h0]
  refine Ev.call rfl rfl (rfl) (h1) (by omega) ?_
  rintro v V2 b2 ⟨rfl, h2⟩
  refine Ev.blk 1 (B0_1189 _ _ _ _ _ _ (by first | omega | exact hs _ | assumption | exact cmpI_in _ _ | (rw [h0]; exact hs _) | exact ⟨by omega, by omega⟩) (by first | omega | exact hs _ | assumption | exact cmpI_in _ _ | (rw [h0]; exact hs _) | exact ⟨by omega, by omega⟩)) rfl ?_
  try rw [h0]
  refine Ev.ite (fun q => ?_) (fun q => ?_)
  · replace q := of_decide_eq_true q
    exact tail0 kk h2
  · replace q := of_decide_eq_false q
    refine Ev.blk 1 (B0_1192 _ _ _ _) rfl ?_
    try rw [h0]
    refine Ev.ret rfl rfl rfl (by first | rfl | exact decide_eq_true (b01_or _)) ?_
    exact absurd rfl q

theorem cs_25t {L N : Nat} {V : Mv} {b : Bool} {Q : Option AV → Mv → Bool → Prop} (op : ∀ a0 a1 a2 a3 a4 a5 : Int, in32 a0 → in32 a1 → in32 a2 → in32 a3 → in32 a4 → (a5 = 0 ∨ a5 = 1) → OpJ 34 195 [.inl a0, .inl a1, .inl a2, .inl a3, .inl a4, .inl a5]) (hL : L ≤ 3584) (hN : N < 512) (h7 : 7 * (N : Int) + 7 ≤ (L : Int)) (hI : Iv N V) (hb : V 0 (7 * (N : Int) + 6).toNat = 0) (kk : ∀ V2 b2, Iv (N + 1) V2 → Ev L 30 0 18 [some (.inr (.inr 0)), some (.inr (.inr 1)), some (.inr (.inr 120)), some (.inl (7 * ((N + 1 : Nat) : Int)))] [] V2 b2 Q) : Ev L 30 0 1194 [some (.inr (.inr 0)), some (.inr (.inr 1)), some (.inr (.inr 120)), some (.inl (7 * (N : Int)))] [] V b Q := by
  have hs := hI.2
  refine Ev.blk 32 (B0_1194 _ _ _ _ (by first | omega | exact hs _ | assumption | exact cmpI_in _ _ | (rw [h0]; exact hs _) | exact ⟨by omega, by omega⟩) (by first | omega | exact hs _ | assumption | exact cmpI_in _ _ | (rw [h0]; exact hs _) | exact ⟨by omega, by omega⟩) (by first | omega | exact hs _ | assumption | exact cmpI_in _ _ | (rw [h0]; exact hs _) | exact ⟨by omega, by omega⟩) (by first | omega | exact hs _ | assumption | exact cmpI_in _ _ | (rw [h0]; exact hs _) | exact ⟨by omega, by omega⟩) (by first | omega | exact hs _ | assumption | exact cmpI_in _ _ | (rw [h0]; exact hs _) | exact ⟨by omega, by omega⟩) (by first | omega | exact hs _ | assumption | exact cmpI_in _ _ | (rw [h0]; exact hs _) | exact ⟨by omega, by omega⟩) (by first | omega | exact hs _ | assumption | exact cmpI_in _ _ | (rw [h0]; exact hs _) | exact ⟨by omega, by omega⟩)) rfl ?_
  refine Ev.ite (fun _ => ?_) (fun q => absurd hb (of_decide_eq_false q))
  refine Ev.blk 1 (B0_1233 _ _ _ _ _ _ _ _ _) rfl ?_
  refine Ev.call rfl rfl (rfl) (op _ _ _ _ _ _ (hs _) (hs _) (hs _) (hs _) (hs _) (Or.inl rfl) L N V b hL hN hI) (by omega) ?_
  rintro v V1 b1 ⟨z, rfl, hz, h0, h1⟩
  refine Ev.blk 32 (B0_1237 _ _ _ _ _ (by first | omega | exact hs _ | assumption | exact cmpI_in _ _ | (rw [h0]; exact hs _) | exact ⟨by omega, by omega⟩) (by first | omega | exact hs _ | assumption | exact cmpI_in _ _ | (rw [h0]; exact hs _) | exact ⟨by omega, by omega⟩) (by first | omega | exact hs _ | assumption | exact cmpI_in _ _ | (rw [h0]; exact hs _) | exact ⟨by omega, by omega⟩) (by first | omega | exact hs _ | assumption | exact cmpI_in _ _ | (rw [h0]; exact hs _) | exact ⟨by omega, by omega⟩) (by first | omega | exact hs _ | assumption | exact cmpI_in _ _ | (rw [h0]; exact hs _) | exact ⟨by omega, by omega⟩) (by first | omega | exact hs _ | assumption | exact cmpI_in _ _ | (rw [h0]; exact hs _) | exact ⟨by omega, by omega⟩) (by first | omega | exact hs _ | assumption | exact cmpI_in _ _ | (rw [h0]; exact hs _) | exact ⟨by omega, by omega⟩)) rfl ?_
  try rw [h0]
  refine Ev.ite (fun _ => ?_) (fun q => absurd hb (of_decide_eq_false q))
  refine Ev.blk 1 (B0_1276 _ _ _ _ _ _ _ _ _ _) rfl ?_
  try rw [h0]
  refine Ev.call rfl rfl (rfl) (h1) (by omega) ?_
  rintro v V2 b2 ⟨rfl, h2⟩
  refine Ev.blk 2 (B0_1280 _ _ _ _ _ _ (by first | omega | exact hs _ | assumption | exact cmpI_in _ _ | (rw [h0]; exact hs _) | exact ⟨by omega, by omega⟩) (by first | omega | exact hs _ | assumption | exact cmpI_in _ _ | (rw [h0]; exact hs _) | exact ⟨by omega, by omega⟩) (by first | omega | exact hs _ | assumption | exact cmpI_in _ _ | (rw [h0]; exact hs _) | exact ⟨by omega, by omega⟩)) rfl ?_
  try rw [h0]
  refine Ev.ite (fun q => ?_) (fun q => ?_)
  · replace q := of_decide_eq_true q
    exact tail0 kk h2
  · replace q := of_decide_eq_false q
    refine Ev.blk 1 (B0_1284 _ _ _ _) rfl ?_
    try rw [h0]
    refine Ev.ret rfl rfl rfl (by first | rfl | exact decide_eq_true (b01_or _)) ?_
    exact absurd ((cmpI_eq _ _).mpr rfl) q

theorem cs_25f {L N : Nat} {V : Mv} {b : Bool} {Q : Option AV → Mv → Bool → Prop} (op : ∀ a0 a1 a2 a3 a4 a5 : Int, in32 a0 → in32 a1 → in32 a2 → in32 a3 → in32 a4 → (a5 = 0 ∨ a5 = 1) → OpJ 34 195 [.inl a0, .inl a1, .inl a2, .inl a3, .inl a4, .inl a5]) (hL : L ≤ 3584) (hN : N < 512) (h7 : 7 * (N : Int) + 7 ≤ (L : Int)) (hI : Iv N V) (hb : ¬ V 0 (7 * (N : Int) + 6).toNat = 0) (kk : ∀ V2 b2, Iv (N + 1) V2 → Ev L 30 0 18 [some (.inr (.inr 0)), some (.inr (.inr 1)), some (.inr (.inr 120)), some (.inl (7 * ((N + 1 : Nat) : Int)))] [] V2 b2 Q) : Ev L 30 0 1194 [some (.inr (.inr 0)), some (.inr (.inr 1)), some (.inr (.inr 120)), some (.inl (7 * (N : Int)))] [] V b Q := by
  have hs := hI.2
  refine Ev.blk 32 (B0_1194 _ _ _ _ (by first | omega | exact hs _ | assumption | exact cmpI_in _ _ | (rw [h0]; exact hs _) | exact ⟨by omega, by omega⟩) (by first | omega | exact hs _ | assumption | exact cmpI_in _ _ | (rw [h0]; exact hs _) | exact ⟨by omega, by omega⟩) (by first | omega | exact hs _ | assumption | exact cmpI_in _ _ | (rw [h0]; exact hs _) | exact ⟨by omega, by omega⟩) (by first | omega | exact hs _ | assumption | exact cmpI_in _ _ | (rw [h0]; exact hs _) | exact ⟨by omega, by omega⟩) (by first | omega | exact hs _ | assumption | exact cmpI_in _ _ | (rw [h0]; exact hs _) | exact ⟨by omega, by omega⟩) (by first | omega | exact hs _ | assumption | exact cmpI_in _ _ | (rw [h0]; exact hs _) | exact ⟨by omega, by omega⟩) (by first | omega | exact hs _ | assumption | exact cmpI_in _ _ | (rw [h0]; exact hs _) | exact ⟨by omega, by omega⟩)) rfl ?_
  refine Ev.ite (fun q => absurd (of_decide_eq_true q) hb) (fun _ => ?_)
  refine Ev.blk 2 (B0_1229 _ _ _ _ _ _ _ _ _) rfl ?_
  refine Ev.call rfl rfl (rfl) (op _ _ _ _ _ _ (hs _) (hs _) (hs _) (hs _) (hs _) (Or.inr rfl) L N V b hL hN hI) (by omega) ?_
  rintro v V1 b1 ⟨z, rfl, hz, h0, h1⟩
  refine Ev.blk 32 (B0_1237 _ _ _ _ _ (by first | omega | exact hs _ | assumption | exact cmpI_in _ _ | (rw [h0]; exact hs _) | exact ⟨by omega, by omega⟩) (by first | omega | exact hs _ | assumption | exact cmpI_in _ _ | (rw [h0]; exact hs _) | exact ⟨by omega, by omega⟩) (by first | omega | exact hs _ | assumption | exact cmpI_in _ _ | (rw [h0]; exact hs _) | exact ⟨by omega, by omega⟩) (by first | omega | exact hs _ | assumption | exact cmpI_in _ _ | (rw [h0]; exact hs _) | exact ⟨by omega, by omega⟩) (by first | omega | exact hs _ | assumption | exact cmpI_in _ _ | (rw [h0]; exact hs _) | exact ⟨by omega, by omega⟩) (by first | omega | exact hs _ | assumption | exact cmpI_in _ _ | (rw [h0]; exact hs _) | exact ⟨by omega, by omega⟩) (by first | omega | exact hs _ | assumption | exact cmpI_in _ _ | (rw [h0]; exact hs _) | exact ⟨by omega, by omega⟩)) rfl ?_
  try rw [h0]
  refine Ev.ite (fun q => absurd (of_decide_eq_true q) hb) (fun _ => ?_)
  refine Ev.blk 2 (B0_1272 _ _ _ _ _ _ _ _ _ _) rfl ?_
  try rw [h0]
  refine Ev.call rfl rfl (rfl) (h1) (by omega) ?_
  rintro v V2 b2 ⟨rfl, h2⟩
  refine Ev.blk 2 (B0_1280 _ _ _ _ _ _ (by first | omega | exact hs _ | assumption | exact cmpI_in _ _ | (rw [h0]; exact hs _) | exact ⟨by omega, by omega⟩) (by first | omega | exact hs _ | assumption | exact cmpI_in _ _ | (rw [h0]; exact hs _) | exact ⟨by omega, by omega⟩) (by first | omega | exact hs _ | assumption | exact cmpI_in _ _ | (rw [h0]; exact hs _) | exact ⟨by omega, by omega⟩)) rfl ?_
  try rw [h0]
  refine Ev.ite (fun q => ?_) (fun q => ?_)
  · replace q := of_decide_eq_true q
    exact tail0 kk h2
  · replace q := of_decide_eq_false q
    refine Ev.blk 1 (B0_1284 _ _ _ _) rfl ?_
    try rw [h0]
    refine Ev.ret rfl rfl rfl (by first | rfl | exact decide_eq_true (b01_or _)) ?_
    exact absurd ((cmpI_eq _ _).mpr rfl) q

theorem cs_26 {L N : Nat} {V : Mv} {b : Bool} {Q : Option AV → Mv → Bool → Prop} (op : ∀ a0 a1 a2 a3 a4 : Int, in32 a0 → in32 a1 → in32 a2 → in32 a3 → in32 a4 → OpI 36 200 [.inl a0, .inl a1, .inl a2, .inl a3, .inl a4]) (hL : L ≤ 3584) (hN : N < 512) (h7 : 7 * (N : Int) + 7 ≤ (L : Int)) (hI : Iv N V) (kk : ∀ V2 b2, Iv (N + 1) V2 → Ev L 30 0 18 [some (.inr (.inr 0)), some (.inr (.inr 1)), some (.inr (.inr 120)), some (.inl (7 * ((N + 1 : Nat) : Int)))] [] V2 b2 Q) : Ev L 30 0 1286 [some (.inr (.inr 0)), some (.inr (.inr 1)), some (.inr (.inr 120)), some (.inl (7 * (N : Int)))] [] V b Q := by
  have hs := hI.2
  refine Ev.blk 26 (B0_1286 _ _ _ _ (by first | omega | exact hs _ | assumption | exact cmpI_in _ _ | (rw [h0]; exact hs _) | exact ⟨by omega, by omega⟩) (by first | omega | exact hs _ | assumption | exact cmpI_in _ _ | (rw [h0]; exact hs _) | exact ⟨by omega, by omega⟩) (by first | omega | exact hs _ | assumption | exact cmpI_in _ _ | (rw [h0]; exact hs _) | exact ⟨by omega, by omega⟩) (by first | omega | exact hs _ | assumption | exact cmpI_in _ _ | (rw [h0]; exact hs _) | exact ⟨by omega, by omega⟩) (by first | omega | exact hs _ | assumption | exact cmpI_in _ _ | (rw [h0]; exact hs _) | exact ⟨by omega, by omega⟩)) rfl ?_
  refine Ev.call rfl rfl (rfl) (op _ _ _ _ _ (hs _) (hs _) (hs _) (hs _) (hs _) L N V b hL hN hI) (by omega) ?_
  rintro v V1 b1 ⟨z, rfl, hz, h0, h1⟩
  refine Ev.blk 26 (B0_1315 _ _ _ _ _ (by first | omega | exact hs _ | assumption | exact cmpI_in _ _ | (rw [h0]; exact hs _) | exact ⟨by omega, by omega⟩) (by first | omega | exact hs _ | assumption | exact cmpI_in _ _ | (rw [h0]; exact hs _) | exact ⟨by omega, by omega⟩) (by first | omega | exact hs _ | assumption | exact cmpI_in _ _ | (rw [h0]; exact hs _) | exact ⟨by omega, by omega⟩) (by first | omega | exact hs _ | assumption | exact cmpI_in _ _ | (rw [h0]; exact hs _) | exact ⟨by omega, by omega⟩) (by first | omega | exact hs _ | assumption | exact cmpI_in _ _ | (rw [h0]; exact hs _) | exact ⟨by omega, by omega⟩)) rfl ?_
  try rw [h0]
  refine Ev.call rfl rfl (rfl) (h1) (by omega) ?_
  rintro v V2 b2 ⟨rfl, h2⟩
  refine Ev.blk 1 (B0_1344 _ _ _ _ _ _ (by first | omega | exact hs _ | assumption | exact cmpI_in _ _ | (rw [h0]; exact hs _) | exact ⟨by omega, by omega⟩) (by first | omega | exact hs _ | assumption | exact cmpI_in _ _ | (rw [h0]; exact hs _) | exact ⟨by omega, by omega⟩)) rfl ?_
  try rw [h0]
  refine Ev.ite (fun q => ?_) (fun q => ?_)
  · replace q := of_decide_eq_true q
    exact tail0 kk h2
  · replace q := of_decide_eq_false q
    refine Ev.blk 1 (B0_1347 _ _ _ _) rfl ?_
    try rw [h0]
    refine Ev.ret rfl rfl rfl (by first | rfl | exact decide_eq_true (b01_or _)) ?_
    exact absurd rfl q

theorem cs_27t {L N : Nat} {V : Mv} {b : Bool} {Q : Option AV → Mv → Bool → Prop} (op : ∀ a0 a1 a2 : Int, in32 a0 → in32 a1 → (a2 = 0 ∨ a2 = 1) → OpJ 37 201 [.inl a0, .inl a1, .inl a2]) (hL : L ≤ 3584) (hN : N < 512) (h7 : 7 * (N : Int) + 7 ≤ (L : Int)) (hI : Iv N V) (hb : V 0 (7 * (N : Int) + 3).toNat = 0) (kk : ∀ V2 b2, Iv (N + 1) V2 → Ev L 30 0 18 [some (.inr (.inr 0)), some (.inr (.inr 1)), some (.inr (.inr 120)), some (.inl (7 * ((N + 1 : Nat) : Int)))] [] V2 b2 Q) : Ev L 30 0 1349 [some (.inr (.inr 0)), some (.inr (.inr 1)), some (.inr (.inr 120)), some (.inl (7 * (N : Int)))] [] V b Q := by
  have hs := hI.2
  refine Ev.blk 17 (B0_1349 _ _ _ _ (by first | omega | exact hs _ | assumption | exact cmpI_in _ _ | (rw [h0]; exact hs _) | exact ⟨by omega, by omega⟩) (by first | omega | exact hs _ | assumption | exact cmpI_in _ _ | (rw [h0]; exact hs _) | exact ⟨by omega, by omega⟩) (by first | omega | exact hs _ | assumption | exact cmpI_in _ _ | (rw [h0]; exact hs _) | exact ⟨by omega, by omega⟩) (by first | omega | exact hs _ | assumption | exact cmpI_in _ _ | (rw [h0]; exact hs _) | exact ⟨by omega, by omega⟩)) rfl ?_
  refine Ev.ite (fun _ => ?_) (fun q => absurd hb (of_decide_eq_false q))
  refine Ev.blk 1 (B0_1372 _ _ _ _ _ _) rfl ?_
  refine Ev.call rfl rfl (rfl) (op _ _ _ (hs _) (hs _) (Or.inl rfl) L N V b hL hN hI) (by omega) ?_
  rintro v V1 b1 ⟨z, rfl, hz, h0, h1⟩
  refine Ev.blk 17 (B0_1376 _ _ _ _ _ (by first | omega | exact hs _ | assumption | exact cmpI_in _ _ | (rw [h0]; exact hs _) | exact ⟨by omega, by omega⟩) (by first | omega | exact hs _ | assumption | exact cmpI_in _ _ | (rw [h0]; exact hs _) | exact ⟨by omega, by omega⟩) (by first | omega | exact hs _ | assumption | exact cmpI_in _ _ | (rw [h0]; exact hs _) | exact ⟨by omega, by omega⟩) (by first | omega | exact hs _ | assumption | exact cmpI_in _ _ | (rw [h0]; exact hs _) | exact ⟨by omega, by omega⟩)) rfl ?_
  try rw [h0]
  refine Ev.ite (fun _ => ?_) (fun q => absurd hb (of_decide_eq_false q))
  refine Ev.blk 1 (B0_1399 _ _ _ _ _ _ _) rfl ?_
  try rw [h0]
  refine Ev.call rfl rfl (rfl) (h1) (by omega) ?_
  rintro v V2 b2 ⟨rfl, h2⟩
  refine Ev.blk 2 (B0_1403 _ _ _ _ _ _ (by first | omega | exact hs _ | assumption | exact cmpI_in _ _ | (rw [h0]; exact hs _) | exact ⟨by omega, by omega⟩) (by first | omega | exact hs _ | assumption | exact cmpI_in _ _ | (rw [h0]; exact hs _) | exact ⟨by omega, by omega⟩) (by first | omega | exact hs _ | assumption | exact cmpI_in _ _ | (rw [h0]; exact hs _) | exact ⟨by omega, by omega⟩)) rfl ?_
  try rw [h0]
  refine Ev.ite (fun q => ?_) (fun q => ?_)
  · replace q := of_decide_eq_true q
    exact tail0 kk h2
  · replace q := of_decide_eq_false q
    refine Ev.blk 1 (B0_1407 _ _ _ _) rfl ?_
    try rw [h0]
    refine Ev.ret rfl rfl rfl (by first | rfl | exact decide_eq_true (b01_or _)) ?_
    exact absurd ((cmpI_eq _ _).mpr rfl) q

theorem cs_27f {L N : Nat} {V : Mv} {b : Bool} {Q : Option AV → Mv → Bool → Prop} (op : ∀ a0 a1 a2 : Int, in32 a0 → in32 a1 → (a2 = 0 ∨ a2 = 1) → OpJ 37 201 [.inl a0, .inl a1, .inl a2]) (hL : L ≤ 3584) (hN : N < 512) (h7 : 7 * (N : Int) + 7 ≤ (L : Int)) (hI : Iv N V) (hb : ¬ V 0 (7 * (N : Int) + 3).toNat = 0) (kk : ∀ V2 b2, Iv (N + 1) V2 → Ev L 30 0 18 [some (.inr (.inr 0)), some (.inr (.inr 1)), some (.inr (.inr 120)), some (.inl (7 * ((N + 1 : Nat) : Int)))] [] V2 b2 Q) : Ev L 30 0 1349 [some (.inr (.inr 0)), some (.inr (.inr 1)), some (.inr (.inr 120)), some (.inl (7 * (N : Int)))] [] V b Q := by
  have hs := hI.2
  refine Ev.blk 17 (B0_1349 _ _ _ _ (by first | omega | exact hs _ | assumption | exact cmpI_in _ _ | (rw [h0]; exact hs _) | exact ⟨by omega, by omega⟩) (by first | omega | exact hs _ | assumption | exact cmpI_in _ _ | (rw [h0]; exact hs _) | exact ⟨by omega, by omega⟩) (by first | omega | exact hs _ | assumption | exact cmpI_in _ _ | (rw [h0]; exact hs _) | exact ⟨by omega, by omega⟩) (by first | omega | exact hs _ | assumption | exact cmpI_in _ _ | (rw [h0]; exact hs _) | exact ⟨by omega, by omega⟩)) rfl ?_
  refine Ev.ite (fun q => absurd (of_decide_eq_true q) hb) (fun _ => ?_)
  refine Ev.blk 2 (B0_1368 _ _ _ _ _ _) rfl ?_
  refine Ev.call rfl rfl (rfl) (op _ _ _ (hs _) (hs _) (Or.inr rfl) L N V b hL hN hI) (by omega) ?_
  rintro v V1 b1 ⟨z, rfl, hz, h0, h1⟩
  refine Ev.blk 17 (B0_1376 _ _ _ _ _ (by first | omega | exact hs _ | assumption | exact cmpI_in _ _ | (rw [h0]; exact hs _) | exact ⟨by omega, by omega⟩) (by first | omega | exact hs _ | assumption | exact cmpI_in _ _ | (rw [h0]; exact hs _) | exact ⟨by omega, by omega⟩) (by first | omega | exact hs _ | assumption | exact cmpI_in _ _ | (rw [h0]; exact hs _) | exact ⟨by omega, by omega⟩) (by first | omega | exact hs _ | assumption | exact cmpI_in _ _ | (rw [h0]; exact hs _) | exact ⟨by omega, by omega⟩)) rfl ?_
  try rw [h0]
  refine Ev.ite (fun q => absurd (of_decide_eq_true q) hb) (fun _ => ?_)
  refine Ev.blk 2 (B0_1395 _ _ _ _ _ _ _) rfl ?_
  try rw [h0]
  refine Ev.call rfl rfl (rfl) (h1) (by omega) ?_
  rintro v V2 b2 ⟨rfl, h2⟩
  refine Ev.blk 2 (B0_1403 _ _ _ _ _ _ (by first | omega | exact hs _ | assumption | exact cmpI_in _ _ | (rw [h0]; exact hs _) | exact ⟨by omega, by omega⟩) (by first | omega | exact hs _ | assumption | exact cmpI_in _ _ | (rw [h0]; exact hs _) | exact ⟨by omega, by omega⟩) (by first | omega | exact hs _ | assumption | exact cmpI_in _ _ | (rw [h0]; exact hs _) | exact ⟨by omega, by omega⟩)) rfl ?_
  try rw [h0]
  refine Ev.ite (fun q => ?_) (fun q => ?_)
  · replace q := of_decide_eq_true q
    exact tail0 kk h2
  · replace q := of_decide_eq_false q
    refine Ev.blk 1 (B0_1407 _ _ _ _) rfl ?_
    try rw [h0]
    refine Ev.ret rfl rfl rfl (by first | rfl | exact decide_eq_true (b01_or _)) ?_
    exact absurd ((cmpI_eq _ _).mpr rfl) q

theorem cs_28 {L N : Nat} {V : Mv} {b : Bool} {Q : Option AV → Mv → Bool → Prop} (op : ∀ a0 a1 : Int, in32 a0 → in32 a1 → OpI 39 218 [.inl a0, .inl a1]) (hL : L ≤ 3584) (hN : N < 512) (h7 : 7 * (N : Int) + 7 ≤ (L : Int)) (hI : Iv N V) (kk : ∀ V2 b2, Iv (N + 1) V2 → Ev L 30 0 18 [some (.inr (.inr 0)), some (.inr (.inr 1)), some (.inr (.inr 120)), some (.inl (7 * ((N + 1 : Nat) : Int)))] [] V2 b2 Q) : Ev L 30 0 1409 [some (.inr (.inr 0)), some (.inr (.inr 1)), some (.inr (.inr 120)), some (.inl (7 * (N : Int)))] [] V b Q := by
  have hs := hI.2
  refine Ev.blk 11 (B0_1409 _ _ _ _ (by first | omega | exact hs _ | assumption | exact cmpI_in _ _ | (rw [h0]; exact hs _) | exact ⟨by omega, by omega⟩) (by first | omega | exact hs _ | assumption | exact cmpI_in _ _ | (rw [h0]; exact hs _) | exact ⟨by omega, by omega⟩)) rfl ?_
  refine Ev.call rfl rfl (rfl) (op _ _ (hs _) (hs _) L N V b hL hN hI) (by omega) ?_
  rintro v V1 b1 ⟨z, rfl, hz, h0, h1⟩
  refine Ev.blk 11 (B0_1423 _ _ _ _ _ (by first | omega | exact hs _ | assumption | exact cmpI_in _ _ | (rw [h0]; exact hs _) | exact ⟨by omega, by omega⟩) (by first | omega | exact hs _ | assumption | exact cmpI_in _ _ | (rw [h0]; exact hs _) | exact ⟨by omega, by omega⟩)) rfl ?_
  try rw [h0]
  refine Ev.call rfl rfl (rfl) (h1) (by omega) ?_
  rintro v V2 b2 ⟨rfl, h2⟩
  refine Ev.blk 1 (B0_1437 _ _ _ _ _ _ (by first | omega | exact hs _ | assumption | exact cmpI_in _ _ | (rw [h0]; exact hs _) | exact ⟨by omega, by omega⟩) (by first | omega | exact hs _ | assumption | exact cmpI_in _ _ | (rw [h0]; exact hs _) | exact ⟨by omega, by omega⟩)) rfl ?_
  try rw [h0]
  refine Ev.ite (fun q => ?_) (fun q => ?_)
  · replace q := of_decide_eq_true q
    exact tail0 kk h2
  · replace q := of_decide_eq_false q
    refine Ev.blk 1 (B0_1440 _ _ _ _) rfl ?_
    try rw [h0]
    refine Ev.ret rfl rfl rfl (by first | rfl | exact decide_eq_true (b01_or _)) ?_
    exact absurd rfl q

theorem cs_29t {L N : Nat} {V : Mv} {b : Bool} {Q : Option AV → Mv → Bool → Prop} (op : ∀ a0 a1 a2 a3 a4 a5 : Int, in32 a0 → in32 a1 → in32 a2 → in32 a3 → in32 a4 → (a5 = 0 ∨ a5 = 1) → OpJ 40 219 [.inl a0, .inl a1, .inl a2, .inl a3, .inl a4, .inl a5]) (hL : L ≤ 3584) (hN : N < 512) (h7 : 7 * (N : Int) + 7 ≤ (L : Int)) (hI : Iv N V) (hb : V 0 (7 * (N : Int) + 6).toNat = 0) (kk : ∀ V2 b2, Iv (N + 1) V2 → Ev L 30 0 18 [some (.inr (.inr 0)), some (.inr (.inr 1)), some (.inr (.inr 120)), some (.inl (7 * ((N + 1 : Nat) : Int)))] [] V2 b2 Q) : Ev L 30 0 1442 [some (.inr (.inr 0)), some (.inr (.inr 1)), some (.inr (.inr 120)), some (.inl (7 * (N : Int)))] [] V b Q := by
  have hs := hI.2
  refine Ev.blk 32 (B0_1442 _ _ _ _ (by first | omega | exact hs _ | assumption | exact cmpI_in _ _ | (rw [h0]; exact hs _) | exact ⟨by omega, by omega⟩) (by first | omega | exact hs _ | assumption | exact cmpI_in _ _ | (rw [h0]; exact hs _) | exact ⟨by omega, by omega⟩) (by first | omega | exact hs _ | assumption | exact cmpI_in _ _ | (rw [h0]; exact hs _) | exact ⟨by omega, by omega⟩) (by first | omega | exact hs _ | assumption | exact cmpI_in _ _ | (rw [h0]; exact hs _) | exact ⟨by omega, by omega⟩) (by first | omega | exact hs _ | assumption | exact cmpI_in _ _ | (rw [h0]; exact hs _) | exact ⟨by omega, by omega⟩) (by first | omega | exact hs _ | assumption | exact cmpI_in _ _ | (rw [h0]; exact hs _) | exact ⟨by omega, by omega⟩) (by first | omega | exact hs _ | assumption | exact cmpI_in _ _ | (rw [h0]; exact hs _) | exact ⟨by omega, by omega⟩)) rfl ?_
  refine Ev.ite (fun _ => ?_) (fun q => absurd hb (of_decide_eq_false q))
  refine Ev.blk 1 (B0_1481 _ _ _ _ _ _ _ _ _) rfl ?_
  refine Ev.call rfl rfl (rfl) (op _ _ _ _ _ _ (hs _) (hs _) (hs _) (hs _) (hs _) (Or.inl rfl) L N V b hL hN hI) (by omega) ?_
  rintro v V1 b1 ⟨z, rfl, hz, h0, h1⟩
  refine Ev.blk 32 (B0_1485 _ _ _ _ _ (by first | omega | exact hs _ | assumption | exact cmpI_in _ _ | (rw [h0]; exact hs _) | exact ⟨by omega, by omega⟩) (by first | omega | exact hs _ | assumption | exact cmpI_in _ _ | (rw [h0]; exact hs _) | exact ⟨by omega, by omega⟩) (by first | omega | exact hs _ | assumption | exact cmpI_in _ _ | (rw [h0]; exact hs _) | exact ⟨by omega, by omega⟩) (by first | omega | exact hs _ | assumption | exact cmpI_in _ _ | (rw [h0]; exact hs _) | exact ⟨by omega, by omega⟩) (by first | omega | exact hs _ | assumption | exact cmpI_in _ _ | (rw [h0]; exact hs _) | exact ⟨by omega, by omega⟩) (by first | omega | exact hs _ | assumption | exact cmpI_in _ _ | (rw [h0]; exact hs _) | exact ⟨by omega, by omega⟩) (by first | omega | exact hs _ | assumption | exact cmpI_in _ _ | (rw [h0]; exact hs _) | exact ⟨by omega, by omega⟩)) rfl ?_
  try rw [h0]
  refine Ev.ite (fun _ => ?_) (fun q => absurd hb (of_decide_eq_false q))
  refine Ev.blk 1 (B0_1524 _ _ _ _ _ _ _ _ _ _) rfl ?_
  try rw [h0]
  refine Ev.call rfl rfl (rfl) (h1) (by omega) ?_
  rintro v V2 b2 ⟨rfl, h2⟩
  refine Ev.blk 2 (B0_1528 _ _ _ _ _ _ (by first | omega | exact hs _ | assumption | exact cmpI_in _ _ | (rw [h0]; exact hs _) | exact ⟨by omega, by omega⟩) (by first | omega | exact hs _ | assumption | exact cmpI_in _ _ | (rw [h0]; exact hs _) | exact ⟨by omega, by omega⟩) (by first | omega | exact hs _ | assumption | exact cmpI_in _ _ | (rw [h0]; exact hs _) | exact ⟨by omega, by omega⟩)) rfl ?_
  try rw [h0]
  refine Ev.ite (fun q => ?_) (fun q => ?_)
  · replace q := of_decide_eq_true q
    exact tail0 kk h2
  · replace q := of_decide_eq_false q
    refine Ev.blk 1 (B0_1532 _ _ _ _) rfl ?_
    try rw [h0]
    refine Ev.ret rfl rfl rfl (by first | rfl | exact decide_eq_true (b01_or _)) ?_
    exact absurd ((cmpI_eq _ _).mpr rfl) q

theorem cs_29f {L N : Nat} {V : Mv} {b : Bool} {Q : Option AV → Mv → Bool → Prop} (op : ∀ a0 a1 a2 a3 a4 a5 : Int, in32 a0 → in32 a1 → in32 a2 → in32 a3 → in32 a4 → (a5 = 0 ∨ a5 = 1) → OpJ 40 219 [.inl a0, .inl a1, .inl a2, .inl a3, .inl a4, .inl a5]) (hL : L ≤ 3584) (hN : N < 512) (h7 : 7 * (N : Int) + 7 ≤ (L : Int)) (hI : Iv N V) (hb : ¬ V 0 (7 * (N : Int) + 6).toNat = 0) (kk : ∀ V2 b2, Iv (N + 1) V2 → Ev L 30 0 18 [some (.inr (.inr 0)), some (.inr (.inr 1)), some (.inr (.inr 120)), some (.inl (7 * ((N + 1 : Nat) : Int)))] [] V2 b2 Q) : Ev L 30 0 1442 [some (.inr (.inr 0)), some (.inr (.inr 1)), some (.inr (.inr 120)), some (.inl (7 * (N : Int)))] [] V b Q := by
  have hs := hI.2
  refine Ev.blk 32 (B0_1442 _ _ _ _ (by first | omega | exact hs _ | assumption | exact cmpI_in _ _ | (rw [h0]; exact hs _) | exact ⟨by omega, by omega⟩) (by first | omega | exact hs _ | assumption | exact cmpI_in _ _ | (rw [h0]; exact hs _) | exact ⟨by omega, by omega⟩) (by first | omega | exact hs _ | assumption | exact cmpI_in _ _ | (rw [h0]; exact hs _) | exact ⟨by omega, by omega⟩) (by first | omega | exact hs _ | assumption | exact cmpI_in _ _ | (rw [h0]; exact hs _) | exact ⟨by omega, by omega⟩) (by first | omega | exact hs _ | assumption | exact cmpI_in _ _ | (rw [h0]; exact hs _) | exact ⟨by omega, by omega⟩) (by first | omega | exact hs _ | assumption | exact cmpI_in _ _ | (rw [h0]; exact hs _) | exact ⟨by omega, by omega⟩) (by first | omega | exact hs _ | assumption | exact cmpI_in _ _ | (rw [h0]; exact hs _) | exact ⟨by omega, by omega⟩)) rfl ?_
  refine Ev.ite (fun q => absurd (of_decide_eq_true q) hb) (fun _ => ?_)
  refine Ev.blk 2 (B0_1477 _ _ _ _ _ _ _ _ _) rfl ?_
  refine Ev.call rfl rfl (rfl) (op _ _ _ _ _ _ (hs _) (hs _) (hs _) (hs _) (hs _) (Or.inr rfl) L N V b hL hN hI) (by omega) ?_
  rintro v V1 b1 ⟨z, rfl, hz, h0, h1⟩
  refine Ev.blk 32 (B0_1485 _ _ _ _ _ (by first | omega | exact hs _ | assumption | exact cmpI_in _ _ | (rw [h0]; exact hs _) | exact ⟨by omega, by omega⟩) (by first | omega | exact hs _ | assumption | exact cmpI_in _ _ | (rw [h0]; exact hs _) | exact ⟨by omega, by omega⟩) (by first | omega | exact hs _ | assumption | exact cmpI_in _ _ | (rw [h0]; exact hs _) | exact ⟨by omega, by omega⟩) (by first | omega | exact hs _ | assumption | exact cmpI_in _ _ | (rw [h0]; exact hs _) | exact ⟨by omega, by omega⟩) (by first | omega | exact hs _ | assumption | exact cmpI_in _ _ | (rw [h0]; exact hs _) | exact ⟨by omega, by omega⟩) (by first | omega | exact hs _ | assumption | exact cmpI_in _ _ | (rw [h0]; exact hs _) | exact ⟨by omega, by omega⟩) (by first | omega | exact hs _ | assumption | exact cmpI_in _ _ | (rw [h0]; exact hs _) | exact ⟨by omega, by omega⟩)) rfl ?_
  try rw [h0]
  refine Ev.ite (fun q => absurd (of_decide_eq_true q) hb) (fun _ => ?_)
  refine Ev.blk 2 (B0_1520 _ _ _ _ _ _ _ _ _ _) rfl ?_
  try rw [h0]
  refine Ev.call rfl rfl (rfl) (h1) (by omega) ?_
  rintro v V2 b2 ⟨rfl, h2⟩
  refine Ev.blk 2 (B0_1528 _ _ _ _ _ _ (by first | omega | exact hs _ | assumption | exact cmpI_in _ _ | (rw [h0]; exact hs _) | exact ⟨by omega, by omega⟩) (by first | omega | exact hs _ | assumption | exact cmpI_in _ _ | (rw [h0]; exact hs _) | exact ⟨by omega, by omega⟩) (by first | omega | exact hs _ | assumption | exact cmpI_in _ _ | (rw [h0]; exact hs _) | exact ⟨by omega, by omega⟩)) rfl ?_
  try rw [h0]
  refine Ev.ite (fun q => ?_) (fun q => ?_)
  · replace q := of_decide_eq_true q
    exact tail0 kk h2
  · replace q := of_decide_eq_false q
    refine Ev.blk 1 (B0_1532 _ _ _ _) rfl ?_
    try rw [h0]
    refine Ev.ret rfl rfl rfl (by first | rfl | exact decide_eq_true (b01_or _)) ?_
    exact absurd ((cmpI_eq _ _).mpr rfl) q

theorem cs_30 {L N : Nat} {V : Mv} {b : Bool} {Q : Option AV → Mv → Bool → Prop} (op : ∀ a0 a1 a2 a3 a4 : Int, in32 a0 → in32 a1 → in32 a2 → in32 a3 → in32 a4 → OpI 42 221 [.inl a0, .inl a1, .inl a2, .inl a3, .inl a4]) (hL : L ≤ 3584) (hN : N < 512) (h7 : 7 * (N : Int) + 7 ≤ (L : Int)) (hI : Iv N V) (kk : ∀ V2 b2, Iv (N + 1) V2 → Ev L 30 0 18 [some (.inr (.inr 0)), some (.inr (.inr 1)), some (.inr (.inr 120)), some (.inl (7 * ((N + 1 : Nat) : Int)))] [] V2 b2 Q) : Ev L 30 0 1534 [some (.inr (.inr 0)), some (.inr (.inr 1)), some (.inr (.inr 120)), some (.inl (7 * (N : Int)))] [] V b Q := by
  have hs := hI.2
  refine Ev.blk 26 (B0_1534 _ _ _ _ (by first | omega | exact hs _ | assumption | exact cmpI_in _ _ | (rw [h0]; exact hs _) | exact ⟨by omega, by omega⟩) (by first | omega | exact hs _ | assumption | exact cmpI_in _ _ | (rw [h0]; exact hs _) | exact ⟨by omega, by omega⟩) (by first | omega | exact hs _ | assumption | exact cmpI_in _ _ | (rw [h0]; exact hs _) | exact ⟨by omega, by omega⟩) (by first | omega | exact hs _ | assumption | exact cmpI_in _ _ | (rw [h0]; exact hs _) | exact ⟨by omega, by omega⟩) (by first | omega | exact hs _ | assumption | exact cmpI_in _ _ | (rw [h0]; exact hs _) | exact ⟨by omega, by omega⟩)) rfl ?_
  refine Ev.call rfl rfl (rfl) (op _ _ _ _ _ (hs _) (hs _) (hs _) (hs _) (hs _) L N V b hL hN hI) (by omega) ?_
  rintro v V1 b1 ⟨z, rfl, hz, h0, h1⟩
  refine Ev.blk 26 (B0_1563 _ _ _ _ _ (by first | omega | exact hs _ | assumption | exact cmpI_in _ _ | (rw [h0]; exact hs _) | exact ⟨by omega, by omega⟩) (by first | omega | exact hs _ | assumption | exact cmpI_in _ _ | (rw [h0]; exact hs _) | exact ⟨by omega, by omega⟩) (by first | omega | exact hs _ | assumption | exact cmpI_in _ _ | (rw [h0]; exact hs _) | exact ⟨by omega, by omega⟩) (by first | omega | exact hs _ | assumption | exact cmpI_in _ _ | (rw [h0]; exact hs _) | exact ⟨by omega, by omega⟩) (by first | omega | exact hs _ | assumption | exact cmpI_in _ _ | (rw [h0]; exact hs _) | exact ⟨by omega, by omega⟩)) rfl ?_
  try rw [h0]
  refine Ev.call rfl rfl (rfl) (h1) (by omega) ?_
  rintro v V2 b2 ⟨rfl, h2⟩
  refine Ev.blk 1 (B0_1592 _ _ _ _ _ _ (by first | omega | exact hs _ | assumption | exact cmpI_in _ _ | (rw [h0]; exact hs _) | exact ⟨by omega, by omega⟩) (by first | omega | exact hs _ | assumption | exact cmpI_in _ _ | (rw [h0]; exact hs _) | exact ⟨by omega, by omega⟩)) rfl ?_
  try rw [h0]
  refine Ev.ite (fun q => ?_) (fun q => ?_)
  · replace q := of_decide_eq_true q
    exact tail0 kk h2
  · replace q := of_decide_eq_false q
    refine Ev.blk 1 (B0_1595 _ _ _ _) rfl ?_
    try rw [h0]
    refine Ev.ret rfl rfl rfl (by first | rfl | exact decide_eq_true (b01_or _)) ?_
    exact absurd rfl q

theorem cs_31 {L N : Nat} {V : Mv} {b : Bool} {Q : Option AV → Mv → Bool → Prop} (op : ∀ a0 : Int, in32 a0 → OpI 43 222 [.inl a0]) (hL : L ≤ 3584) (hN : N < 512) (h7 : 7 * (N : Int) + 7 ≤ (L : Int)) (hI : Iv N V) (kk : ∀ V2 b2, Iv (N + 1) V2 → Ev L 30 0 18 [some (.inr (.inr 0)), some (.inr (.inr 1)), some (.inr (.inr 120)), some (.inl (7 * ((N + 1 : Nat) : Int)))] [] V2 b2 Q) : Ev L 30 0 1597 [some (.inr (.inr 0)), some (.inr (.inr 1)), some (.inr (.inr 120)), some (.inl (7 * (N : Int)))] [] V b Q := by
  have hs := hI.2
  refine Ev.blk 6 (B0_1597 _ _ _ _ (by first | omega | exact hs _ | assumption | exact cmpI_in _ _ | (rw [h0]; exact hs _) | exact ⟨by omega, by omega⟩)) rfl ?_
  refine Ev.call rfl rfl (rfl) (op _ (hs _) L N V b hL hN hI) (by omega) ?_
  rintro v V1 b1 ⟨z, rfl, hz, h0, h1⟩
  refine Ev.blk 6 (B0_1606 _ _ _ _ _ (by first | omega | exact hs _ | assumption | exact cmpI_in _ _ | (rw [h0]; exact hs _) | exact ⟨by omega, by omega⟩)) rfl ?_
  try rw [h0]
  refine Ev.call rfl rfl (rfl) (h1) (by omega) ?_
  rintro v V2 b2 ⟨rfl, h2⟩
  refine Ev.blk 1 (B0_1615 _ _ _ _ _ _ (by first | omega | exact hs _ | assumption | exact cmpI_in _ _ | (rw [h0]; exact hs _) | exact ⟨by omega, by omega⟩) (by first | omega | exact hs _ | assumption | exact cmpI_in _ _ | (rw [h0]; exact hs _) | exact ⟨by omega, by omega⟩)) rfl ?_
  try rw [h0]
  refine Ev.ite (fun q => ?_) (fun q => ?_)
  · replace q := of_decide_eq_true q
    exact tail0 kk h2
  · replace q := of_decide_eq_false q
    refine Ev.blk 1 (B0_1618 _ _ _ _) rfl ?_
    try rw [h0]
    refine Ev.ret rfl rfl rfl (by first | rfl | exact decide_eq_true (b01_or _)) ?_
    exact absurd rfl q

theorem cs_32 {L N : Nat} {V : Mv} {b : Bool} {Q : Option AV → Mv → Bool → Prop} (op : OpI 44 223 []) (hL : L ≤ 3584) (hN : N < 512) (h7 : 7 * (N : Int) + 7 ≤ (L : Int)) (hI : Iv N V) (kk : ∀ V2 b2, Iv (N + 1) V2 → Ev L 30 0 18 [some (.inr (.inr 0)), some (.inr (.inr 1)), some (.inr (.inr 120)), some (.inl (7 * ((N + 1 : Nat) : Int)))] [] V2 b2 Q) : Ev L 30 0 1620 [some (.inr (.inr 0)), some (.inr (.inr 1)), some (.inr (.inr 120)), some (.inl (7 * (N : Int)))] [] V b Q := by
  have hs := hI.2
  refine Ev.blk 1 (B0_1620 _ _ _ _) rfl ?_
  refine Ev.call rfl rfl (rfl) (op L N V b hL hN hI) (by omega) ?_
  rintro v V1 b1 ⟨z, rfl, hz, h0, h1⟩
  refine Ev.blk 1 (B0_1624 _ _ _ _ _) rfl ?_
  try rw [h0]
  refine Ev.call rfl rfl (rfl) (h1) (by omega) ?_
  rintro v V2 b2 ⟨rfl, h2⟩
  refine Ev.blk 1 (B0_1628 _ _ _ _ _ _ (by first | omega | exact hs _ | assumption | exact cmpI_in _ _ | (rw [h0]; exact hs _) | exact ⟨by omega, by omega⟩) (by first | omega | exact hs _ | assumption | exact cmpI_in _ _ | (rw [h0]; exact hs _) | exact ⟨by omega, by omega⟩)) rfl ?_
  try rw [h0]
  refine Ev.ite (fun q => ?_) (fun q => ?_)
  · replace q := of_decide_eq_true q
    exact tail0 kk h2
  · replace q := of_decide_eq_false q
    refine Ev.blk 1 (B0_1631 _ _ _ _) rfl ?_
    try rw [h0]
    refine Ev.ret rfl rfl rfl (by first | rfl | exact decide_eq_true (b01_or _)) ?_
    exact absurd rfl q

theorem cs_33 {L N : Nat} {V : Mv} {b : Bool} {Q : Option AV → Mv → Bool → Prop} (op : ∀ a0 : Int, in32 a0 → OpI 45 224 [.inl a0]) (hL : L ≤ 3584) (hN : N < 512) (h7 : 7 * (N : Int) + 7 ≤ (L : Int)) (hI : Iv N V) (kk : ∀ V2 b2, Iv (N + 1) V2 → Ev L 30 0 18 [some (.inr (.inr 0)), some (.inr (.inr 1)), some (.inr (.inr 120)), some (.inl (7 * ((N + 1 : Nat) : Int)))] [] V2 b2 Q) : Ev L 30 0 1633 [some (.inr (.inr 0)), some (.inr (.inr 1)), some (.inr (.inr 120)), some (.inl (7 * (N : Int)))] [] V b Q := by
  have hs := hI.2
  refine Ev.blk 6 (B0_1633 _ _ _ _ (by first | omega | exact hs _ | assumption | exact cmpI_in _ _ | (rw [h0]; exact hs _) | exact ⟨by omega, by omega⟩)) rfl ?_
  refine Ev.call rfl rfl (rfl) (op _ (hs _) L N V b hL hN hI) (by omega) ?_
  rintro v V1 b1 ⟨z, rfl, hz, h0, h1⟩
  refine Ev.blk 6 (B0_1642 _ _ _ _ _ (by first | omega | exact hs _ | assumption | exact cmpI_in _ _ | (rw [h0]; exact hs _) | exact ⟨by omega, by omega⟩)) rfl ?_
  try rw [h0]
  refine Ev.call rfl rfl (rfl) (h1) (by omega) ?_
  rintro v V2 b2 ⟨rfl, h2⟩
  refine Ev.blk 1 (B0_1651 _ _ _ _ _ _ (by first | omega | exact hs _ | assumption | exact cmpI_in _ _ | (rw [h0]; exact hs _) | exact ⟨by omega, by omega⟩) (by first | omega | exact hs _ | assumption | exact cmpI_in _ _ | (rw [h0]; exact hs _) | exact ⟨by omega, by omega⟩)) rfl ?_
  try rw [h0]
  refine Ev.ite (fun q => ?_) (fun q => ?_)
  · replace q := of_decide_eq_true q
    exact tail0 kk h2
  · replace q := of_decide_eq_false q
    refine Ev.blk 1 (B0_1654 _ _ _ _) rfl ?_
    try rw [h0]
    refine Ev.ret rfl rfl rfl (by first | rfl | exact decide_eq_true (b01_or _)) ?_
    exact absurd rfl q

theorem cs_34 {L N : Nat} {V : Mv} {b : Bool} {Q : Option AV → Mv → Bool → Prop} (op : ∀ a0 a1 a2 : Int, in32 a0 → in32 a1 → in32 a2 → OpI 46 226 [.inl a0, .inl a1, .inl a2]) (hL : L ≤ 3584) (hN : N < 512) (h7 : 7 * (N : Int) + 7 ≤ (L : Int)) (hI : Iv N V) (kk : ∀ V2 b2, Iv (N + 1) V2 → Ev L 30 0 18 [some (.inr (.inr 0)), some (.inr (.inr 1)), some (.inr (.inr 120)), some (.inl (7 * ((N + 1 : Nat) : Int)))] [] V2 b2 Q) : Ev L 30 0 1656 [some (.inr (.inr 0)), some (.inr (.inr 1)), some (.inr (.inr 120)), some (.inl (7 * (N : Int)))] [] V b Q := by
  have hs := hI.2
  refine Ev.blk 16 (B0_1656 _ _ _ _ (by first | omega | exact hs _ | assumption | exact cmpI_in _ _ | (rw [h0]; exact hs _) | exact ⟨by omega, by omega⟩) (by first | omega | exact hs _ | assumption | exact cmpI_in _ _ | (rw [h0]; exact hs _) | exact ⟨by omega, by omega⟩) (by first | omega | exact hs _ | assumption | exact cmpI_in _ _ | (rw [h0]; exact hs _) | exact ⟨by omega, by omega⟩)) rfl ?_
  refine Ev.call rfl rfl (rfl) (op _ _ _ (hs _) (hs _) (hs _) L N V b hL hN hI) (by omega) ?_
  rintro v V1 b1 ⟨z, rfl, hz, h0, h1⟩
  refine Ev.blk 16 (B0_1675 _ _ _ _ _ (by first | omega | exact hs _ | assumption | exact cmpI_in _ _ | (rw [h0]; exact hs _) | exact ⟨by omega, by omega⟩) (by first | omega | exact hs _ | assumption | exact cmpI_in _ _ | (rw [h0]; exact hs _) | exact ⟨by omega, by omega⟩) (by first | omega | exact hs _ | assumption | exact cmpI_in _ _ | (rw [h0]; exact hs _) | exact ⟨by omega, by omega⟩)) rfl ?_
  try rw [h0]
  refine Ev.call rfl rfl (rfl) (h1) (by omega) ?_
  rintro v V2 b2 ⟨rfl, h2⟩
  refine Ev.blk 1 (B0_1694 _ _ _ _ _ _ (by first | omega | exact hs _ | assumption | exact cmpI_in _ _ | (rw [h0]; exact hs _) | exact ⟨by omega, by omega⟩) (by first | omega | exact hs _ | assumption | exact cmpI_in _ _ | (rw [h0]; exact hs _) | exact ⟨by omega, by omega⟩)) rfl ?_
  try rw [h0]
  refine Ev.ite (fun q => ?_) (fun q => ?_)
  · replace q := of_decide_eq_true q
    exact tail0 kk h2
  · replace q := of_decide_eq_false q
    refine Ev.blk 1 (B0_1697 _ _ _ _) rfl ?_
    try rw [h0]
    refine Ev.ret rfl rfl rfl (by first | rfl | exact decide_eq_true (b01_or _)) ?_
    exact absurd rfl q

theorem cs_35 {L N : Nat} {V : Mv} {b : Bool} {Q : Option AV → Mv → Bool → Prop} (op : ∀ a0 : Int, in32 a0 → OpI 47 227 [.inl a0]) (hL : L ≤ 3584) (hN : N < 512) (h7 : 7 * (N : Int) + 7 ≤ (L : Int)) (hI : Iv N V) (kk : ∀ V2 b2, Iv (N + 1) V2 → Ev L 30 0 18 [some (.inr (.inr 0)), some (.inr (.inr 1)), some (.inr (.inr 120)), some (.inl (7 * ((N + 1 : Nat) : Int)))] [] V2 b2 Q) : Ev L 30 0 1699 [some (.inr (.inr 0)), some (.inr (.inr 1)), some (.inr (.inr 120)), some (.inl (7 * (N : Int)))] [] V b Q := by
  have hs := hI.2
  refine Ev.blk 6 (B0_1699 _ _ _ _ (by first | omega | exact hs _ | assumption | exact cmpI_in _ _ | (rw [h0]; exact hs _) | exact ⟨by omega, by omega⟩)) rfl ?_
  refine Ev.call rfl rfl (rfl) (op _ (hs _) L N V b hL hN hI) (by omega) ?_
  rintro v V1 b1 ⟨z, rfl, hz, h0, h1⟩
  refine Ev.blk 6 (B0_1708 _ _ _ _ _ (by first | omega | exact hs _ | assumption | exact cmpI_in _ _ | (rw [h0]; exact hs _) | exact ⟨by omega, by omega⟩)) rfl ?_
  try rw [h0]
  refine Ev.call rfl rfl (rfl) (h1) (by omega) ?_
  rintro v V2 b2 ⟨rfl, h2⟩
  refine Ev.blk 1 (B0_1717 _ _ _ _ _ _ (by first | omega | exact hs _ | assumption | exact cmpI_in _ _ | (rw [h0]; exact hs _) | exact ⟨by omega, by omega⟩) (by first | omega | exact hs _ | assumption | exact cmpI_in _ _ | (rw [h0]; exact hs _) | exact ⟨by omega, by omega⟩)) rfl ?_
  try rw [h0]
  refine Ev.ite (fun q => ?_) (fun q => ?_)
  · replace q := of_decide_eq_true q
    exact tail0 kk h2
  · replace q := of_decide_eq_false q
    refine Ev.blk 1 (B0_1720 _ _ _ _) rfl ?_
    try rw [h0]
    refine Ev.ret rfl rfl rfl (by first | rfl | exact decide_eq_true (b01_or _)) ?_
    exact absurd rfl q

theorem cs_36 {L N : Nat} {V : Mv} {b : Bool} {Q : Option AV → Mv → Bool → Prop} (op : ∀ a0 : Int, in32 a0 → OpI 49 228 [.inl a0]) (hL : L ≤ 3584) (hN : N < 512) (h7 : 7 * (N : Int) + 7 ≤ (L : Int)) (hI : Iv N V) (kk : ∀ V2 b2, Iv (N + 1) V2 → Ev L 30 0 18 [some (.inr (.inr 0)), some (.inr (.inr 1)), some (.inr (.inr 120)), some (.inl (7 * ((N + 1 : Nat) : Int)))] [] V2 b2 Q) : Ev L 30 0 1722 [some (.inr (.inr 0)), some (.inr (.inr 1)), some (.inr (.inr 120)), some (.inl (7 * (N : Int)))] [] V b Q := by
  have hs := hI.2
  refine Ev.blk 6 (B0_1722 _ _ _ _ (by first | omega | exact hs _ | assumption | exact cmpI_in _ _ | (rw [h0]; exact hs _) | exact ⟨by omega, by omega⟩)) rfl ?_
  refine Ev.call rfl rfl (rfl) (op _ (hs _) L N V b hL hN hI) (by omega) ?_
  rintro v V1 b1 ⟨z, rfl, hz, h0, h1⟩
  refine Ev.blk 6 (B0_1731 _ _ _ _ _ (by first | omega | exact hs _ | assumption | exact cmpI_in _ _ | (rw [h0]; exact hs _) | exact ⟨by omega, by omega⟩)) rfl ?_
  try rw [h0]
  refine Ev.call rfl rfl (rfl) (h1) (by omega) ?_
  rintro v V2 b2 ⟨rfl, h2⟩
  refine Ev.blk 1 (B0_1740 _ _ _ _ _ _ (by first | omega | exact hs _ | assumption | exact cmpI_in _ _ | (rw [h0]; exact hs _) | exact ⟨by omega, by omega⟩) (by first | omega | exact hs _ | assumption | exact cmpI_in _ _ | (rw [h0]; exact hs _) | exact ⟨by omega, by omega⟩)) rfl ?_
  try rw [h0]
  refine Ev.ite (fun q => ?_) (fun q => ?_)
  · replace q := of_decide_eq_true q
    exact tail0 kk h2
  · replace q := of_decide_eq_false q
    refine Ev.blk 1 (B0_1743 _ _ _ _) rfl ?_
    try rw [h0]
    refine Ev.ret rfl rfl rfl (by first | rfl | exact decide_eq_true (b01_or _)) ?_
    exact absurd rfl q

theorem cs_37 {L N : Nat} {V : Mv} {b : Bool} {Q : Option AV → Mv → Bool → Prop} (op : ∀ a0 : Int, in32 a0 → OpI 50 229 [.inl a0]) (hL : L ≤ 3584) (hN : N < 512) (h7 : 7 * (N : Int) + 7 ≤ (L : Int)) (hI : Iv N V) (kk : ∀ V2 b2, Iv (N + 1) V2 → Ev L 30 0 18 [some (.inr (.inr 0)), some (.inr (.inr 1)), some (.inr (.inr 120)), some (.inl (7 * ((N + 1 : Nat) : Int)))] [] V2 b2 Q) : Ev L 30 0 1745 [some (.inr (.inr 0)), some (.inr (.inr 1)), some (.inr (.inr 120)), some (.inl (7 * (N : Int)))] [] V b Q := by
  have hs := hI.2
  refine Ev.blk 6 (B0_1745 _ _ _ _ (by first | omega | exact hs _ | assumption | exact cmpI_in _ _ | (rw [h0]; exact hs _) | exact ⟨by omega, by omega⟩)) rfl ?_
  refine Ev.call rfl rfl (rfl) (op _ (hs _) L N V b hL hN hI) (by omega) ?_
  rintro v V1 b1 ⟨z, rfl, hz, h0, h1⟩
  refine Ev.blk 6 (B0_1754 _ _ _ _ _ (by first | omega | exact hs _ | assumption | exact cmpI_in _ _ | (rw [h0]; exact hs _) | exact ⟨by omega, by omega⟩)) rfl ?_
  try rw [h0]
  refine Ev.call rfl rfl (rfl) (h1) (by omega) ?_
  rintro v V2 b2 ⟨rfl, h2⟩
  refine Ev.blk 1 (B0_1763 _ _ _ _ _ _ (by first | omega | exact hs _ | assumption | exact cmpI_in _ _ | (rw [h0]; exact hs _) | exact ⟨by omega, by omega⟩) (by first | omega | exact hs _ | assumption | exact cmpI_in _ _ | (rw [h0]; exact hs _) | exact ⟨by omega, by omega⟩)) rfl ?_
  try rw [h0]
  refine Ev.ite (fun q => ?_) (fun q => ?_)
  · replace q := of_decide_eq_true q
    exact tail0 kk h2
  · replace q := of_decide_eq_false q
    refine Ev.blk 1 (B0_1766 _ _ _ _) rfl ?_
    try rw [h0]
    refine Ev.ret rfl rfl rfl (by first | rfl | exact decide_eq_true (b01_or _)) ?_
    exact absurd rfl q

