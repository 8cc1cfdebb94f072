/-! BLOCKS: the fields of Two (gen10.py) -/
/-- where now and later lie -/
def nwA (b : Bool) : Nat := cond b 117 116
def ltA (b : Bool) : Nat := cond b 116 117
theorem nwA_T (L : Nat) (b : Bool) : TT L (nwA b) = (2, 64) := by cases b <;> rfl
theorem ltA_T (L : Nat) (b : Bool) : TT L (ltA b) = (2, 64) := by cases b <;> rfl
theorem nwA_0 (b : Bool) : nwA b ≠ 0 := by cases b <;> decide
theorem nwA_c (b : Bool) : (nwA b = 116 ∧ ltA b = 117) ∨ (nwA b = 117 ∧ ltA b = 116) := by cases b <;> decide
theorem nwA_n (b : Bool) : nwA (!b) = ltA b ∧ ltA (!b) = nwA b := by cases b <;> decide
set_option maxRecDepth 100000 in
theorem RR_ne {b : Bool} {a k : Nat} (h : a ≠ 115) : RR b a k = RR (!b) a k := by
  unfold RR
  simp only [beqF h, cond_false]
theorem swap_R (b : Bool) : uR (uR (RR b) 115 1 (some (nwA b))) 115 0 (some (ltA b)) = RR (!b) := by
  funext a k
  by_cases ha : a = 115
  · subst ha
    by_cases h0 : k = 0
    · subst h0
      cases b <;> rfl
    · by_cases h1 : k = 1
      · subst h1
        cases b <;> rfl
      · show cond (Nat.beq k 0) _ (cond (Nat.beq k 1) _ (RR b 115 k)) = _
        rw [beqF h0, beqF h1]
        show cond (Nat.beq k 0) _ (cond (Nat.beq k 1) _ _) = cond (Nat.beq k 0) _ (cond (Nat.beq k 1) _ _)
        rw [beqF h0, beqF h1]
        rfl
  · show cond (Nat.beq a 115 && Nat.beq k 0) _ (cond (Nat.beq a 115 && Nat.beq k 1) _ (RR b a k)) = _
    rw [beqF ha]
    exact RR_ne ha
theorem T126_36 (L : Nat) (V : Mv) (b : Bool) (x1 : Nat) (x2 : Nat) (x3 : Int) (x4 : Int) (x6 : Int) : nxs 12 126 36 [some (.inr (.inr 115)), some (.inr (.inr x1)), some (.inr (.inr x2)), some (.inl x3), some (.inr (.inl x4)), none, some (.inl x6), none, none, none] [] (M0 L V b) = some (true, 59, [some (.inr (.inr 115)), some (.inr (.inr x1)), some (.inr (.inr x2)), some (.inl x3), some (.inr (.inl x4)), none, some (.inl x6), some (.inr (.inr (ltA b))), some (.inl 0), none], [], M0 L V (!b)) := by
  have e : nxs 12 126 36 [some (.inr (.inr 115)), some (.inr (.inr x1)), some (.inr (.inr x2)), some (.inl x3), some (.inr (.inl x4)), none, some (.inl x6), none, none, none] [] (M0 L V b) = some (true, 59, [some (.inr (.inr 115)), some (.inr (.inr x1)), some (.inr (.inr x2)), some (.inl x3), some (.inr (.inl x4)), none, some (.inl x6), some (.inr (.inr (ltA b))), some (.inl 0), none], [], ((0, 0, TT L, V, uR (uR (RR b) 115 1 (some (nwA b))) 115 0 (some (ltA b))) : Mm)) := rfl
  rw [e, swap_R b]

theorem T126_10 (L : Nat) (V : Mv) (b : Bool) (x1 : Nat) (x2 : Nat) (x3 : Int) (x4 : Int) (g0 : 0 ≤ x4 ∧ x4 < 64) : nxs 7 126 10 [some (.inr (.inr 115)), some (.inr (.inr x1)), some (.inr (.inr x2)), some (.inl x3), some (.inl x4), none, none, none, none, none] [] (M0 L V b) = some (true, 3, [some (.inr (.inr 115)), some (.inr (.inr x1)), some (.inr (.inr x2)), some (.inl x3), some (.inl (x4 + 1)), none, none, none, none, none], [], M0 L (uV V (nwA b) (x4).toNat 0) b) := by
  have f0 : (gX (M0 L V b) (nwA b) 2 x4 && !Nat.beq (nwA b) 0) = true := gs_of (gx_of (show aT _ _ = _ from nwA_T L b) g0) (nwA_0 b)
  have hG : ((gX (M0 L V b) (nwA b) 2 x4 && !Nat.beq (nwA b) 0) && true) = true := an f0 rfl
  show some ((gX (M0 L V b) (nwA b) 2 x4 && !Nat.beq (nwA b) 0) && true, _) = _
  rw [hG]
  try rfl

theorem T127_24 (L : Nat) (V : Mv) (b : Bool) (x1 : Nat) (x2 : Int) (x3 : Nat) (x4 : Int) (x5 : Int) (x7 : Int) (x9 : Int) (c_x1 : isK x1) (g0 : 0 ≤ (x2 * 8) + x9 ∧ (x2 * 8) + x9 < 64) (g1 : in32 (V (x1 + 1) ((x2 * 8) + x9).toNat)) (g2 : 0 ≤ (x9 * 8) + x4 ∧ (x9 * 8) + x4 < 64) : nxs 23 127 24 [some (.inr (.inr 115)), some (.inr (.inr x1)), some (.inl x2), some (.inr (.inr x3)), some (.inl x4), some (.inr (.inl x5)), none, some (.inr (.inl x7)), none, some (.inl x9), none, none] [] (M0 L V b) = some (true, 15, [some (.inr (.inr 115)), some (.inr (.inr x1)), some (.inl x2), some (.inr (.inr x3)), some (.inl x4), some (.inr (.inl x5)), none, some (.inr (.inl (x7 + ((V (x1 + 1) ((x2 * 8) + x9).toNat) * (V (ltA b) ((x9 * 8) + x4).toNat))))), none, some (.inl (x9 + 1)), none, none], [], M0 L V b) := by
  have f0 : (decide ((TT L x1).1 = 64 + 2) && decide (RR b x1 4 = some (x1 + 1))) = true := clr_of (isK_T c_x1) (isK_R4 c_x1)
  have f1 : gX (M0 L V b) (x1 + 1) 1 ((x2 * 8) + x9) = true := gx_of (show aT _ _ = _ from isK_A4 (L := L) c_x1) g0
  have f2 : r32 (V (x1 + 1) ((x2 * 8) + x9).toNat) = true := r32_of g1
  have f3 : gX (M0 L V b) (ltA b) 2 ((x9 * 8) + x4) = true := gx_of (show aT _ _ = _ from ltA_T L b) g2
  have hG : ((decide ((TT L x1).1 = 64 + 2) && decide (RR b x1 4 = some (x1 + 1))) && (gX (M0 L V b) (x1 + 1) 1 ((x2 * 8) + x9) && (r32 (V (x1 + 1) ((x2 * 8) + x9).toNat) && (gX (M0 L V b) (ltA b) 2 ((x9 * 8) + x4) && true)))) = true := an f0 (an f1 (an f2 (an f3 rfl)))
  show some ((decide ((TT L x1).1 = 64 + 2) && decide (RR b x1 4 = some (x1 + 1))) && (gX (M0 L V b) (x1 + 1) 1 ((x2 * 8) + x9) && (r32 (V (x1 + 1) ((x2 * 8) + x9).toNat) && (gX (M0 L V b) (ltA b) 2 ((x9 * 8) + x4) && true))), _) = _
  rw [hG]
  try rfl

theorem T127_88 (L : Nat) (V : Mv) (b : Bool) (x1 : Nat) (x2 : Int) (x3 : Nat) (x4 : Int) (x5 : Int) (x7 : Int) (x9 : Int) (x11 : Int) (c_x3 : isK x3) (g0 : 0 ≤ (x4 * 8) + x11 ∧ (x4 * 8) + x11 < 64) (g1 : in32 (V (x3 + 1) ((x4 * 8) + x11).toNat)) (g2 : 0 ≤ (x2 * 8) + x11 ∧ (x2 * 8) + x11 < 64) : nxs 23 127 88 [some (.inr (.inr 115)), some (.inr (.inr x1)), some (.inl x2), some (.inr (.inr x3)), some (.inl x4), some (.inr (.inl x5)), none, some (.inr (.inl x7)), none, some (.inr (.inl x9)), none, some (.inl x11)] [] (M0 L V b) = some (true, 79, [some (.inr (.inr 115)), some (.inr (.inr x1)), some (.inl x2), some (.inr (.inr x3)), some (.inl x4), some (.inr (.inl x5)), none, some (.inr (.inl x7)), none, some (.inr (.inl (x9 + ((V (x3 + 1) ((x4 * 8) + x11).toNat) * (V (ltA b) ((x2 * 8) + x11).toNat))))), none, some (.inl (x11 + 1))], [], M0 L V b) := by
  have f0 : (decide ((TT L x3).1 = 64 + 2) && decide (RR b x3 4 = some (x3 + 1))) = true := clr_of (isK_T c_x3) (isK_R4 c_x3)
  have f1 : gX (M0 L V b) (x3 + 1) 1 ((x4 * 8) + x11) = true := gx_of (show aT _ _ = _ from isK_A4 (L := L) c_x3) g0
  have f2 : r32 (V (x3 + 1) ((x4 * 8) + x11).toNat) = true := r32_of g1
  have f3 : gX (M0 L V b) (ltA b) 2 ((x2 * 8) + x11) = true := gx_of (show aT _ _ = _ from ltA_T L b) g2
  have hG : ((decide ((TT L x3).1 = 64 + 2) && decide (RR b x3 4 = some (x3 + 1))) && (gX (M0 L V b) (x3 + 1) 1 ((x4 * 8) + x11) && (r32 (V (x3 + 1) ((x4 * 8) + x11).toNat) && (gX (M0 L V b) (ltA b) 2 ((x2 * 8) + x11) && true)))) = true := an f0 (an f1 (an f2 (an f3 rfl)))
  show some ((decide ((TT L x3).1 = 64 + 2) && decide (RR b x3 4 = some (x3 + 1))) && (gX (M0 L V b) (x3 + 1) 1 ((x4 * 8) + x11) && (r32 (V (x3 + 1) ((x4 * 8) + x11).toNat) && (gX (M0 L V b) (ltA b) 2 ((x2 * 8) + x11) && true))), _) = _
  rw [hG]
  try rfl

theorem T127_126 (L : Nat) (V : Mv) (b : Bool) (x1 : Nat) (x2 : Int) (x3 : Nat) (x4 : Int) (x5 : Int) (x7 : Int) (x9 : Int) (x11 : Int) (g0 : in64 x7) (g1 : in64 x9) (g2 : 0 ≤ (x2 * 8) + x4 ∧ (x2 * 8) + x4 < 64) (g3 : in32 (cmpI x9 x7)) : nxs 22 127 126 [some (.inr (.inr 115)), some (.inr (.inr x1)), some (.inl x2), some (.inr (.inr x3)), some (.inl x4), some (.inr (.inl x5)), none, some (.inr (.inl x7)), none, some (.inr (.inl x9)), none, some (.inl x11)] [] (M0 L V b) = some (true, cond (decide (0 ≤ cmpI x9 x7)) 168 164, [some (.inr (.inr 115)), some (.inr (.inr x1)), some (.inl x2), some (.inr (.inr x3)), some (.inl x4), some (.inr (.inl x5)), none, some (.inr (.inl x7)), none, some (.inr (.inl x9)), none, some (.inl x11)], [.inl ((x2 * 8) + x4), .inr (.inr 118)], M0 L (uV V (nwA b) ((x2 * 8) + x4).toNat (cond (decide (x9 < x7)) x9 x7)) b) := by
  have f0 : (r64 x7 && (r64 x9 && true)) = true := an (r64_of g0) (an (r64_of g1) rfl)
  have f1 : (gX (M0 L V b) (nwA b) 2 ((x2 * 8) + x4) && !Nat.beq (nwA b) 0) = true := gs_of (gx_of (show aT _ _ = _ from nwA_T L b) g2) (nwA_0 b)
  have f2 : (r64 x9 && r64 x7) = true := rr64_of g1 g0
  have f3 : r32 (cmpI x9 x7) = true := r32_of g3
  have hG : ((r64 x7 && (r64 x9 && true)) && ((gX (M0 L V b) (nwA b) 2 ((x2 * 8) + x4) && !Nat.beq (nwA b) 0) && ((r64 x9 && r64 x7) && (r32 (cmpI x9 x7) && true)))) = true := an f0 (an f1 (an f2 (an f3 rfl)))
  show some ((r64 x7 && (r64 x9 && true)) && ((gX (M0 L V b) (nwA b) 2 ((x2 * 8) + x4) && !Nat.beq (nwA b) 0) && ((r64 x9 && r64 x7) && (r32 (cmpI x9 x7) && true))), _) = _
  rw [hG]
  try rfl

theorem T128_0 (L : Nat) (V : Mv) (b : Bool) (x1 : Int) (x2 : Int) (g0 : 0 ≤ (x1 * 8) + x2 ∧ (x1 * 8) + x2 < 64) : nxs 8 128 0 [some (.inr (.inr 115)), some (.inl x1), some (.inl x2)] [] (M0 L V b) = some (true, 11, [some (.inr (.inr 115)), some (.inl x1), some (.inl x2)], [.inr (.inl (V (nwA b) ((x1 * 8) + x2).toNat))], M0 L V b) := by
  have f0 : gX (M0 L V b) (nwA b) 2 ((x1 * 8) + x2) = true := gx_of (show aT _ _ = _ from nwA_T L b) g0
  have hG : (gX (M0 L V b) (nwA b) 2 ((x1 * 8) + x2) && true) = true := an f0 rfl
  show some (gX (M0 L V b) (nwA b) 2 ((x1 * 8) + x2) && true, _) = _
  rw [hG]
  try rfl

