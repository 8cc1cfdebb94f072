/-! BLOCKS with a row of longs on the stack, and with arraycopy (gen8.py) -/
def gCp (L s d : Nat) (sp dp n : Int) : Bool := true && (true && (decide ((TT L s).1 = (TT L d).1 ∧ ((TT L d).1 = 1 ∨ (TT L d).1 = 2)) && (!Nat.beq s 0 && (!Nat.beq d 0 && (decide (0 ≤ sp ∧ 0 ≤ dp ∧ 0 ≤ n) && (decide (sp + n ≤ ((TT L s).2 : Int) ∧ sp + n < 100000) && decide (dp + n ≤ ((TT L d).2 : Int) ∧ dp + n < 100000)))))))
theorem gCp_of {L s d k ns nd : Nat} {sp dp n : Int} (hs : TT L s = (k, ns)) (hd : TT L d = (k, nd)) (hk : (k = 1 ∨ k = 2)) (s0 : s ≠ 0) (d0 : d ≠ 0) (hn : 0 ≤ n ∧ n < 1000) (h1 : 0 ≤ sp ∧ sp + n ≤ (ns : Int)) (h2 : 0 ≤ dp ∧ dp + n ≤ (nd : Int)) (b1 : ns < 1000 := by decide) (b2 : nd < 1000 := by decide) : gCp L s d sp dp n = true := by
  unfold gCp
  rw [hs, hd, beqF s0, beqF d0, decide_eq_true (show k = k ∧ (k = 1 ∨ k = 2) from ⟨rfl, hk⟩), decide_eq_true (show 0 ≤ sp ∧ 0 ≤ dp ∧ 0 ≤ n from ⟨h1.1, h2.1, hn.1⟩), decide_eq_true (show sp + n ≤ (ns : Int) ∧ sp + n < 100000 by omega), decide_eq_true (show dp + n ≤ (nd : Int) ∧ dp + n < 100000 by omega)]
  rfl
theorem cV_in {V : Mv} {s sp d dp n k : Nat} (h : dp ≤ k ∧ k < dp + n) : cV V s sp d dp n d k = V s (sp + (k - dp)) := by
  unfold cV
  rw [Nat.beq_refl, show Nat.ble dp k = true from Nat.ble_eq_true_of_le h.1, show Nat.blt k (dp + n) = true from Nat.ble_eq_true_of_le h.2]
  rfl
theorem cV_out {V : Mv} {s sp d dp n a k : Nat} (h : ¬ (dp ≤ k ∧ k < dp + n)) : cV V s sp d dp n a k = V a k := by
  unfold cV
  cases h1 : Nat.ble dp k with
  | false => rw [Bool.false_and, Bool.and_false]; rfl
  | true =>
    cases h2 : Nat.blt k (dp + n) with
    | false => rw [Bool.and_false, Bool.and_false]; rfl
    | true => exact absurd ⟨Nat.le_of_ble_eq_true h1, Nat.le_of_ble_eq_true h2⟩ h
theorem J74_0 (L : Nat) (V : Mv) (b : Bool) (x0 : Nat) (x1 : Nat) (c_x1 : isK x1) (c_x0 : isK x0) : nxs 64 74 0 [some (.inr (.inr x0)), some (.inr (.inr x1))] [] (M0 L V b) = some (true, 120, [some (.inr (.inr x0)), some (.inr (.inr x1))], [], M0 L (cV (cV (cV (cV (cV (cV (uV (uV (uV (uV V x0 0 (V x1 0)) x0 1 ((uV V x0 0 (V x1 0)) x1 1)) x0 2 ((uV (uV V x0 0 (V x1 0)) x0 1 ((uV V x0 0 (V x1 0)) x1 1)) x1 2)) x0 3 ((uV (uV (uV V x0 0 (V x1 0)) x0 1 ((uV V x0 0 (V x1 0)) x1 1)) x0 2 ((uV (uV V x0 0 (V x1 0)) x0 1 ((uV V x0 0 (V x1 0)) x1 1)) x1 2)) x1 3)) (x1 + 1) (0 : Int).toNat (x0 + 1) (0 : Int).toNat (64 : Int).toNat) (x1 + 2) (0 : Int).toNat (x0 + 2) (0 : Int).toNat (8 : Int).toNat) (x1 + 3) (0 : Int).toNat (x0 + 3) (0 : Int).toNat (8 : Int).toNat) (x1 + 4) (0 : Int).toNat (x0 + 4) (0 : Int).toNat (8 : Int).toNat) (x1 + 5) (0 : Int).toNat (x0 + 5) (0 : Int).toNat (4 : Int).toNat) (x1 + 6) (0 : Int).toNat (x0 + 6) (0 : Int).toNat (4 : Int).toNat) b) := by
  have f0 : decide ((TT L x1).1 = 64 + 2) = true := cls_of (isK_T c_x1)
  have f1 : (decide ((TT L x0).1 = 64 + 2) && decide ((0 : Nat) = 0 ∨ (0 : Nat) = 3 ∧ ((V x1 0 : Int) = 0 ∨ (V x1 0 : Int) = 1))) = true := an (cls_of (isK_T c_x0)) (decide_eq_true (Or.inl rfl))
  have f2 : decide ((TT L x1).1 = 64 + 2) = true := cls_of (isK_T c_x1)
  have f3 : (decide ((TT L x0).1 = 64 + 2) && decide ((0 : Nat) = 0 ∨ (0 : Nat) = 3 ∧ (((uV V x0 0 (V x1 0)) x1 1 : Int) = 0 ∨ ((uV V x0 0 (V x1 0)) x1 1 : Int) = 1))) = true := an (cls_of (isK_T c_x0)) (decide_eq_true (Or.inl rfl))
  have f4 : decide ((TT L x1).1 = 64 + 2) = true := cls_of (isK_T c_x1)
  have f5 : (decide ((TT L x0).1 = 64 + 2) && decide ((0 : Nat) = 0 ∨ (0 : Nat) = 3 ∧ (((uV (uV V x0 0 (V x1 0)) x0 1 ((uV V x0 0 (V x1 0)) x1 1)) x1 2 : Int) = 0 ∨ ((uV (uV V x0 0 (V x1 0)) x0 1 ((uV V x0 0 (V x1 0)) x1 1)) x1 2 : Int) = 1))) = true := an (cls_of (isK_T c_x0)) (decide_eq_true (Or.inl rfl))
  have f6 : decide ((TT L x1).1 = 64 + 2) = true := cls_of (isK_T c_x1)
  have f7 : (decide ((TT L x0).1 = 64 + 2) && decide ((0 : Nat) = 0 ∨ (0 : Nat) = 3 ∧ (((uV (uV (uV V x0 0 (V x1 0)) x0 1 ((uV V x0 0 (V x1 0)) x1 1)) x0 2 ((uV (uV V x0 0 (V x1 0)) x0 1 ((uV V x0 0 (V x1 0)) x1 1)) x1 2)) x1 3 : Int) = 0 ∨ ((uV (uV (uV V x0 0 (V x1 0)) x0 1 ((uV V x0 0 (V x1 0)) x1 1)) x0 2 ((uV (uV V x0 0 (V x1 0)) x0 1 ((uV V x0 0 (V x1 0)) x1 1)) x1 2)) x1 3 : Int) = 1))) = true := an (cls_of (isK_T c_x0)) (decide_eq_true (Or.inl rfl))
  have f8 : (decide ((TT L x1).1 = 64 + 2) && decide (RR b x1 4 = some (x1 + 1))) = true := clr_of (isK_T c_x1) (isK_R4 c_x1)
  have f9 : (decide ((TT L x0).1 = 64 + 2) && decide (RR b x0 4 = some (x0 + 1))) = true := clr_of (isK_T c_x0) (isK_R4 c_x0)
  have f10 : gCp L (x1 + 1) (x0 + 1) 0 0 64 = true := gCp_of (k := 1) (isK_A4 (L := L) c_x1) (isK_A4 (L := L) c_x0) (by decide) (by omega) (by omega) (by decide) (by decide) (by decide)
  have f11 : (decide ((TT L x1).1 = 64 + 2) && decide (RR b x1 5 = some (x1 + 2))) = true := clr_of (isK_T c_x1) (isK_R5 c_x1)
  have f12 : (decide ((TT L x0).1 = 64 + 2) && decide (RR b x0 5 = some (x0 + 2))) = true := clr_of (isK_T c_x0) (isK_R5 c_x0)
  have f13 : gCp L (x1 + 2) (x0 + 2) 0 0 8 = true := gCp_of (k := 1) (isK_A5 (L := L) c_x1) (isK_A5 (L := L) c_x0) (by decide) (by omega) (by omega) (by decide) (by decide) (by decide)
  have f14 : (decide ((TT L x1).1 = 64 + 2) && decide (RR b x1 6 = some (x1 + 3))) = true := clr_of (isK_T c_x1) (isK_R6 c_x1)
  have f15 : (decide ((TT L x0).1 = 64 + 2) && decide (RR b x0 6 = some (x0 + 3))) = true := clr_of (isK_T c_x0) (isK_R6 c_x0)
  have f16 : gCp L (x1 + 3) (x0 + 3) 0 0 8 = true := gCp_of (k := 1) (isK_A6 (L := L) c_x1) (isK_A6 (L := L) c_x0) (by decide) (by omega) (by omega) (by decide) (by decide) (by decide)
  have f17 : (decide ((TT L x1).1 = 64 + 2) && decide (RR b x1 7 = some (x1 + 4))) = true := clr_of (isK_T c_x1) (isK_R7 c_x1)
  have f18 : (decide ((TT L x0).1 = 64 + 2) && decide (RR b x0 7 = some (x0 + 4))) = true := clr_of (isK_T c_x0) (isK_R7 c_x0)
  have f19 : gCp L (x1 + 4) (x0 + 4) 0 0 8 = true := gCp_of (k := 1) (isK_A7 (L := L) c_x1) (isK_A7 (L := L) c_x0) (by decide) (by omega) (by omega) (by decide) (by decide) (by decide)
  have f20 : (decide ((TT L x1).1 = 64 + 2) && decide (RR b x1 8 = some (x1 + 5))) = true := clr_of (isK_T c_x1) (isK_R8 c_x1)
  have f21 : (decide ((TT L x0).1 = 64 + 2) && decide (RR b x0 8 = some (x0 + 5))) = true := clr_of (isK_T c_x0) (isK_R8 c_x0)
  have f22 : gCp L (x1 + 5) (x0 + 5) 0 0 4 = true := gCp_of (k := 1) (isK_A8 (L := L) c_x1) (isK_A8 (L := L) c_x0) (by decide) (by omega) (by omega) (by decide) (by decide) (by decide)
  have f23 : (decide ((TT L x1).1 = 64 + 2) && decide (RR b x1 9 = some (x1 + 6))) = true := clr_of (isK_T c_x1) (isK_R9 c_x1)
  have f24 : (decide ((TT L x0).1 = 64 + 2) && decide (RR b x0 9 = some (x0 + 6))) = true := clr_of (isK_T c_x0) (isK_R9 c_x0)
  have f25 : gCp L (x1 + 6) (x0 + 6) 0 0 4 = true := gCp_of (k := 1) (isK_A9 (L := L) c_x1) (isK_A9 (L := L) c_x0) (by decide) (by omega) (by omega) (by decide) (by decide) (by decide)
  have hG : (decide ((TT L x1).1 = 64 + 2) && ((decide ((TT L x0).1 = 64 + 2) && decide ((0 : Nat) = 0 ∨ (0 : Nat) = 3 ∧ ((V x1 0 : Int) = 0 ∨ (V x1 0 : Int) = 1))) && (decide ((TT L x1).1 = 64 + 2) && ((decide ((TT L x0).1 = 64 + 2) && decide ((0 : Nat) = 0 ∨ (0 : Nat) = 3 ∧ (((uV V x0 0 (V x1 0)) x1 1 : Int) = 0 ∨ ((uV V x0 0 (V x1 0)) x1 1 : Int) = 1))) && (decide ((TT L x1).1 = 64 + 2) && ((decide ((TT L x0).1 = 64 + 2) && decide ((0 : Nat) = 0 ∨ (0 : Nat) = 3 ∧ (((uV (uV V x0 0 (V x1 0)) x0 1 ((uV V x0 0 (V x1 0)) x1 1)) x1 2 : Int) = 0 ∨ ((uV (uV V x0 0 (V x1 0)) x0 1 ((uV V x0 0 (V x1 0)) x1 1)) x1 2 : Int) = 1))) && (decide ((TT L x1).1 = 64 + 2) && ((decide ((TT L x0).1 = 64 + 2) && decide ((0 : Nat) = 0 ∨ (0 : Nat) = 3 ∧ (((uV (uV (uV V x0 0 (V x1 0)) x0 1 ((uV V x0 0 (V x1 0)) x1 1)) x0 2 ((uV (uV V x0 0 (V x1 0)) x0 1 ((uV V x0 0 (V x1 0)) x1 1)) x1 2)) x1 3 : Int) = 0 ∨ ((uV (uV (uV V x0 0 (V x1 0)) x0 1 ((uV V x0 0 (V x1 0)) x1 1)) x0 2 ((uV (uV V x0 0 (V x1 0)) x0 1 ((uV V x0 0 (V x1 0)) x1 1)) x1 2)) x1 3 : Int) = 1))) && ((decide ((TT L x1).1 = 64 + 2) && decide (RR b x1 4 = some (x1 + 1))) && ((decide ((TT L x0).1 = 64 + 2) && decide (RR b x0 4 = some (x0 + 1))) && (gCp L (x1 + 1) (x0 + 1) 0 0 64 && ((decide ((TT L x1).1 = 64 + 2) && decide (RR b x1 5 = some (x1 + 2))) && ((decide ((TT L x0).1 = 64 + 2) && decide (RR b x0 5 = some (x0 + 2))) && (gCp L (x1 + 2) (x0 + 2) 0 0 8 && ((decide ((TT L x1).1 = 64 + 2) && decide (RR b x1 6 = some (x1 + 3))) && ((decide ((TT L x0).1 = 64 + 2) && decide (RR b x0 6 = some (x0 + 3))) && (gCp L (x1 + 3) (x0 + 3) 0 0 8 && ((decide ((TT L x1).1 = 64 + 2) && decide (RR b x1 7 = some (x1 + 4))) && ((decide ((TT L x0).1 = 64 + 2) && decide (RR b x0 7 = some (x0 + 4))) && (gCp L (x1 + 4) (x0 + 4) 0 0 8 && ((decide ((TT L x1).1 = 64 + 2) && decide (RR b x1 8 = some (x1 + 5))) && ((decide ((TT L x0).1 = 64 + 2) && decide (RR b x0 8 = some (x0 + 5))) && (gCp L (x1 + 5) (x0 + 5) 0 0 4 && ((decide ((TT L x1).1 = 64 + 2) && decide (RR b x1 9 = some (x1 + 6))) && ((decide ((TT L x0).1 = 64 + 2) && decide (RR b x0 9 = some (x0 + 6))) && (gCp L (x1 + 6) (x0 + 6) 0 0 4 && true)))))))))))))))))))))))))) = true := an f0 (an f1 (an f2 (an f3 (an f4 (an f5 (an f6 (an f7 (an f8 (an f9 (an f10 (an f11 (an f12 (an f13 (an f14 (an f15 (an f16 (an f17 (an f18 (an f19 (an f20 (an f21 (an f22 (an f23 (an f24 (an f25 rfl)))))))))))))))))))))))))
  show some (decide ((TT L x1).1 = 64 + 2) && ((decide ((TT L x0).1 = 64 + 2) && decide ((0 : Nat) = 0 ∨ (0 : Nat) = 3 ∧ ((V x1 0 : Int) = 0 ∨ (V x1 0 : Int) = 1))) && (decide ((TT L x1).1 = 64 + 2) && ((decide ((TT L x0).1 = 64 + 2) && decide ((0 : Nat) = 0 ∨ (0 : Nat) = 3 ∧ (((uV V x0 0 (V x1 0)) x1 1 : Int) = 0 ∨ ((uV V x0 0 (V x1 0)) x1 1 : Int) = 1))) && (decide ((TT L x1).1 = 64 + 2) && ((decide ((TT L x0).1 = 64 + 2) && decide ((0 : Nat) = 0 ∨ (0 : Nat) = 3 ∧ (((uV (uV V x0 0 (V x1 0)) x0 1 ((uV V x0 0 (V x1 0)) x1 1)) x1 2 : Int) = 0 ∨ ((uV (uV V x0 0 (V x1 0)) x0 1 ((uV V x0 0 (V x1 0)) x1 1)) x1 2 : Int) = 1))) && (decide ((TT L x1).1 = 64 + 2) && ((decide ((TT L x0).1 = 64 + 2) && decide ((0 : Nat) = 0 ∨ (0 : Nat) = 3 ∧ (((uV (uV (uV V x0 0 (V x1 0)) x0 1 ((uV V x0 0 (V x1 0)) x1 1)) x0 2 ((uV (uV V x0 0 (V x1 0)) x0 1 ((uV V x0 0 (V x1 0)) x1 1)) x1 2)) x1 3 : Int) = 0 ∨ ((uV (uV (uV V x0 0 (V x1 0)) x0 1 ((uV V x0 0 (V x1 0)) x1 1)) x0 2 ((uV (uV V x0 0 (V x1 0)) x0 1 ((uV V x0 0 (V x1 0)) x1 1)) x1 2)) x1 3 : Int) = 1))) && ((decide ((TT L x1).1 = 64 + 2) && decide (RR b x1 4 = some (x1 + 1))) && ((decide ((TT L x0).1 = 64 + 2) && decide (RR b x0 4 = some (x0 + 1))) && (gCp L (x1 + 1) (x0 + 1) 0 0 64 && ((decide ((TT L x1).1 = 64 + 2) && decide (RR b x1 5 = some (x1 + 2))) && ((decide ((TT L x0).1 = 64 + 2) && decide (RR b x0 5 = some (x0 + 2))) && (gCp L (x1 + 2) (x0 + 2) 0 0 8 && ((decide ((TT L x1).1 = 64 + 2) && decide (RR b x1 6 = some (x1 + 3))) && ((decide ((TT L x0).1 = 64 + 2) && decide (RR b x0 6 = some (x0 + 3))) && (gCp L (x1 + 3) (x0 + 3) 0 0 8 && ((decide ((TT L x1).1 = 64 + 2) && decide (RR b x1 7 = some (x1 + 4))) && ((decide ((TT L x0).1 = 64 + 2) && decide (RR b x0 7 = some (x0 + 4))) && (gCp L (x1 + 4) (x0 + 4) 0 0 8 && ((decide ((TT L x1).1 = 64 + 2) && decide (RR b x1 8 = some (x1 + 5))) && ((decide ((TT L x0).1 = 64 + 2) && decide (RR b x0 8 = some (x0 + 5))) && (gCp L (x1 + 5) (x0 + 5) 0 0 4 && ((decide ((TT L x1).1 = 64 + 2) && decide (RR b x1 9 = some (x1 + 6))) && ((decide ((TT L x0).1 = 64 + 2) && decide (RR b x0 9 = some (x0 + 6))) && (gCp L (x1 + 6) (x0 + 6) 0 0 4 && true))))))))))))))))))))))))), _) = _
  rw [hG]
  try rfl

theorem J79_18 (L : Nat) (V : Mv) (b : Bool) (x0 : Nat) (x1 : Int) (x2 : Int) (s0 : Nat) (s1 : Int) (n_s0 : Nat) (t_s0 : TT L s0 = (2, n_s0)) : nxs 2 79 18 [some (.inr (.inr x0)), some (.inl x1), some (.inl x2)] [.inl s1, .inr (.inr s0)] (M0 L V b) = some (true, 23, [some (.inr (.inr x0)), some (.inl x1), some (.inl x2)], [.inr (.inl 1), .inl s1, .inr (.inr s0)], M0 L V b) := by
  rfl

theorem J79_22 (L : Nat) (V : Mv) (b : Bool) (x0 : Nat) (x1 : Int) (x2 : Int) (s0 : Nat) (s1 : Int) (n_s0 : Nat) (t_s0 : TT L s0 = (2, n_s0)) : nxs 1 79 22 [some (.inr (.inr x0)), some (.inl x1), some (.inl x2)] [.inl s1, .inr (.inr s0)] (M0 L V b) = some (true, 23, [some (.inr (.inr x0)), some (.inl x1), some (.inl x2)], [.inr (.inl 0), .inl s1, .inr (.inr s0)], M0 L V b) := by
  rfl

theorem J79_23 (L : Nat) (V : Mv) (b : Bool) (x0 : Nat) (x1 : Int) (x2 : Int) (s0 : Nat) (s1 : Int) (s2 : Int) (n_s0 : Nat) (t_s0 : TT L s0 = (2, n_s0)) (g0 : 0 ≤ s1 ∧ s1 < (n_s0 : Int)) (z_s0 : s0 ≠ 0) : nxs 3 79 23 [some (.inr (.inr x0)), some (.inl x1), some (.inl x2)] [.inr (.inl s2), .inl s1, .inr (.inr s0)] (M0 L V b) = some (true, 2, [some (.inr (.inr x0)), some (.inl x1), some (.inl (x2 + 1))], [], M0 L (uV V s0 (s1).toNat s2) b) := by
  have f0 : (gX (M0 L V b) s0 2 s1 && !Nat.beq s0 0) = true := gs_of (gx_of (show aT _ _ = _ from t_s0) g0) z_s0
  have hG : ((gX (M0 L V b) s0 2 s1 && !Nat.beq s0 0) && true) = true := an f0 rfl
  show some ((gX (M0 L V b) s0 2 s1 && !Nat.beq s0 0) && true, _) = _
  rw [hG]
  try rfl

theorem J82_31 (L : Nat) (V : Mv) (b : Bool) (x0 : Nat) (x1 : Nat) (x2 : Int) (x3 : Int) (x4 : Int) (s0 : Nat) (s1 : Int) (s2 : Int) (n_s0 : Nat) (t_s0 : TT L s0 = (2, n_s0)) : nxs 2 82 31 [some (.inr (.inr x0)), some (.inr (.inr x1)), some (.inl x2), some (.inl x3), some (.inl x4)] [.inr (.inl s2), .inl s1, .inr (.inr s0)] (M0 L V b) = some (true, 41, [some (.inr (.inr x0)), some (.inr (.inr x1)), some (.inl x2), some (.inl x3), some (.inl x4)], [.inl x4, .inr (.inl s2), .inl s1, .inr (.inr s0)], M0 L V b) := by
  rfl

theorem J82_36 (L : Nat) (V : Mv) (b : Bool) (x0 : Nat) (x1 : Nat) (x2 : Int) (x3 : Int) (x4 : Int) (s0 : Nat) (s1 : Int) (s2 : Int) (n_s0 : Nat) (t_s0 : TT L s0 = (2, n_s0)) : nxs 3 82 36 [some (.inr (.inr x0)), some (.inr (.inr x1)), some (.inl x2), some (.inl x3), some (.inl x4)] [.inr (.inl s2), .inl s1, .inr (.inr s0)] (M0 L V b) = some (true, 41, [some (.inr (.inr x0)), some (.inr (.inr x1)), some (.inl x2), some (.inl x3), some (.inl x4)], [.inl (10 - x4), .inr (.inl s2), .inl s1, .inr (.inr s0)], M0 L V b) := by
  rfl

theorem J82_41 (L : Nat) (V : Mv) (b : Bool) (x0 : Nat) (x1 : Nat) (x2 : Int) (x3 : Int) (x4 : Int) (s0 : Nat) (s1 : Int) (s2 : Int) (s3 : Int) (n_s0 : Nat) (t_s0 : TT L s0 = (2, n_s0)) (g0 : in32 s3) (g1 : 0 ≤ s1 ∧ s1 < (n_s0 : Int)) (z_s0 : s0 ≠ 0) : nxs 5 82 41 [some (.inr (.inr x0)), some (.inr (.inr x1)), some (.inl x2), some (.inl x3), some (.inl x4)] [.inl s3, .inr (.inl s2), .inl s1, .inr (.inr s0)] (M0 L V b) = some (true, 2, [some (.inr (.inr x0)), some (.inr (.inr x1)), some (.inl x2), some (.inl (x3 + 1)), some (.inl x4)], [], M0 L (uV V s0 (s1).toNat (s2 * s3)) b) := by
  have f0 : r32 s3 = true := r32_of g0
  have f1 : (gX (M0 L V b) s0 2 s1 && !Nat.beq s0 0) = true := gs_of (gx_of (show aT _ _ = _ from t_s0) g1) z_s0
  have hG : (r32 s3 && ((gX (M0 L V b) s0 2 s1 && !Nat.beq s0 0) && true)) = true := an f0 (an f1 rfl)
  show some (r32 s3 && ((gX (M0 L V b) s0 2 s1 && !Nat.beq s0 0) && true), _) = _
  rw [hG]
  try rfl

theorem J87_0 (L : Nat) (V : Mv) (b : Bool) (x0 : Nat) (x1 : Nat) (c_x1 : isT x1) (c_x0 : isT x0) : nxs 8 87 0 [some (.inr (.inr x0)), some (.inr (.inr x1))] [] (M0 L V b) = some (true, 15, [some (.inr (.inr x0)), some (.inr (.inr x1))], [], M0 L (cV V (x1 + 1) (0 : Int).toNat (x0 + 1) (0 : Int).toNat (8 : Int).toNat) b) := by
  have f0 : (decide ((TT L x1).1 = 64 + 3) && decide (RR b x1 0 = some (x1 + 1))) = true := clr_of (isT_T c_x1) (isT_R0 c_x1)
  have f1 : (decide ((TT L x0).1 = 64 + 3) && decide (RR b x0 0 = some (x0 + 1))) = true := clr_of (isT_T c_x0) (isT_R0 c_x0)
  have f2 : gCp L (x1 + 1) (x0 + 1) 0 0 8 = true := gCp_of (k := 2) (isT_A0 (L := L) c_x1) (isT_A0 (L := L) c_x0) (by decide) (by omega) (by omega) (by decide) (by decide) (by decide)
  have hG : ((decide ((TT L x1).1 = 64 + 3) && decide (RR b x1 0 = some (x1 + 1))) && ((decide ((TT L x0).1 = 64 + 3) && decide (RR b x0 0 = some (x0 + 1))) && (gCp L (x1 + 1) (x0 + 1) 0 0 8 && true))) = true := an f0 (an f1 (an f2 rfl))
  show some ((decide ((TT L x1).1 = 64 + 3) && decide (RR b x1 0 = some (x1 + 1))) && ((decide ((TT L x0).1 = 64 + 3) && decide (RR b x0 0 = some (x0 + 1))) && (gCp L (x1 + 1) (x0 + 1) 0 0 8 && true)), _) = _
  rw [hG]
  try rfl

theorem J90_0 (L : Nat) (V : Mv) (b : Bool) (x0 : Nat) (x1 : Nat) (c_x1 : isL4 x1) (c_x0 : isL4 x0) : nxs 12 90 0 [some (.inr (.inr x0)), some (.inr (.inr x1))] [] (M0 L V b) = some (true, 23, [some (.inr (.inr x0)), some (.inr (.inr x1))], [], M0 L (cV (uV V x0 0 (V x1 0)) (x1 + 1) (0 : Int).toNat (x0 + 1) (0 : Int).toNat (16 : Int).toNat) b) := by
  have f0 : decide ((TT L x1).1 = 64 + 4) = true := cls_of (isL4_T c_x1)
  have f1 : (decide ((TT L x0).1 = 64 + 4) && decide ((0 : Nat) = 0 ∨ (0 : Nat) = 3 ∧ ((V x1 0 : Int) = 0 ∨ (V x1 0 : Int) = 1))) = true := an (cls_of (isL4_T c_x0)) (decide_eq_true (Or.inl rfl))
  have f2 : (decide ((TT L x1).1 = 64 + 4) && decide (RR b x1 1 = some (x1 + 1))) = true := clr_of (isL4_T c_x1) (isL4_R1 c_x1)
  have f3 : (decide ((TT L x0).1 = 64 + 4) && decide (RR b x0 1 = some (x0 + 1))) = true := clr_of (isL4_T c_x0) (isL4_R1 c_x0)
  have f4 : gCp L (x1 + 1) (x0 + 1) 0 0 16 = true := gCp_of (k := 1) (isL4_A1 (L := L) c_x1) (isL4_A1 (L := L) c_x0) (by decide) (by omega) (by omega) (by decide) (by decide) (by decide)
  have hG : (decide ((TT L x1).1 = 64 + 4) && ((decide ((TT L x0).1 = 64 + 4) && decide ((0 : Nat) = 0 ∨ (0 : Nat) = 3 ∧ ((V x1 0 : Int) = 0 ∨ (V x1 0 : Int) = 1))) && ((decide ((TT L x1).1 = 64 + 4) && decide (RR b x1 1 = some (x1 + 1))) && ((decide ((TT L x0).1 = 64 + 4) && decide (RR b x0 1 = some (x0 + 1))) && (gCp L (x1 + 1) (x0 + 1) 0 0 16 && true))))) = true := an f0 (an f1 (an f2 (an f3 (an f4 rfl))))
  show some (decide ((TT L x1).1 = 64 + 4) && ((decide ((TT L x0).1 = 64 + 4) && decide ((0 : Nat) = 0 ∨ (0 : Nat) = 3 ∧ ((V x1 0 : Int) = 0 ∨ (V x1 0 : Int) = 1))) && ((decide ((TT L x1).1 = 64 + 4) && decide (RR b x1 1 = some (x1 + 1))) && ((decide ((TT L x0).1 = 64 + 4) && decide (RR b x0 1 = some (x0 + 1))) && (gCp L (x1 + 1) (x0 + 1) 0 0 16 && true)))), _) = _
  rw [hG]
  try rfl

theorem J102_62 (L : Nat) (V : Mv) (b : Bool) (x1 : Nat) (x2 : Int) (x3 : Int) (x4 : Int) (x5 : Int) (s0 : Nat) (s1 : Int) (n_s0 : Nat) (t_s0 : TT L s0 = (2, n_s0)) (g0 : in32 x5) : nxs 3 102 62 [some (.inr (.inr 100)), some (.inr (.inr x1)), some (.inl x2), some (.inl x3), some (.inl x4), some (.inl x5)] [.inl s1, .inr (.inr s0)] (M0 L V b) = some (true, 84, [some (.inr (.inr 100)), some (.inr (.inr x1)), some (.inl x2), some (.inl x3), some (.inl x4), some (.inl x5)], [.inr (.inl x5), .inl s1, .inr (.inr s0)], M0 L V b) := by
  have f0 : r32 x5 = true := r32_of g0
  have hG : (r32 x5 && true) = true := an f0 rfl
  show some (r32 x5 && true, _) = _
  rw [hG]
  try rfl

theorem J102_68 (L : Nat) (V : Mv) (b : Bool) (x1 : Nat) (x2 : Int) (x3 : Int) (x4 : Int) (x5 : Int) (s0 : Nat) (s1 : Int) (n_s0 : Nat) (t_s0 : TT L s0 = (2, n_s0)) (g0 : in32 x4) (g1 : in32 x3) : nxs 3 102 68 [some (.inr (.inr 100)), some (.inr (.inr x1)), some (.inl x2), some (.inl x3), some (.inl x4), some (.inl x5)] [.inl s1, .inr (.inr s0)] (M0 L V b) = some (true, cond (!decide (x4 = x3)) 79 74, [some (.inr (.inr 100)), some (.inr (.inr x1)), some (.inl x2), some (.inl x3), some (.inl x4), some (.inl x5)], [.inl s1, .inr (.inr s0)], M0 L V b) := by
  have f0 : (r32 x4 && r32 x3) = true := rr32_of g0 g1
  have hG : ((r32 x4 && r32 x3) && true) = true := an f0 rfl
  show some ((r32 x4 && r32 x3) && true, _) = _
  rw [hG]
  try rfl

theorem J102_74 (L : Nat) (V : Mv) (b : Bool) (x1 : Nat) (x2 : Int) (x3 : Int) (x4 : Int) (x5 : Int) (s0 : Nat) (s1 : Int) (n_s0 : Nat) (t_s0 : TT L s0 = (2, n_s0)) : nxs 2 102 74 [some (.inr (.inr 100)), some (.inr (.inr x1)), some (.inl x2), some (.inl x3), some (.inl x4), some (.inl x5)] [.inl s1, .inr (.inr s0)] (M0 L V b) = some (true, 80, [some (.inr (.inr 100)), some (.inr (.inr x1)), some (.inl x2), some (.inl x3), some (.inl x4), some (.inl x5)], [.inl 10, .inl s1, .inr (.inr s0)], M0 L V b) := by
  rfl

theorem J102_79 (L : Nat) (V : Mv) (b : Bool) (x1 : Nat) (x2 : Int) (x3 : Int) (x4 : Int) (x5 : Int) (s0 : Nat) (s1 : Int) (n_s0 : Nat) (t_s0 : TT L s0 = (2, n_s0)) : nxs 1 102 79 [some (.inr (.inr 100)), some (.inr (.inr x1)), some (.inl x2), some (.inl x3), some (.inl x4), some (.inl x5)] [.inl s1, .inr (.inr s0)] (M0 L V b) = some (true, 80, [some (.inr (.inr 100)), some (.inr (.inr x1)), some (.inl x2), some (.inl x3), some (.inl x4), some (.inl x5)], [.inl 0, .inl s1, .inr (.inr s0)], M0 L V b) := by
  rfl

theorem J102_80 (L : Nat) (V : Mv) (b : Bool) (x1 : Nat) (x2 : Int) (x3 : Int) (x4 : Int) (x5 : Int) (s0 : Nat) (s1 : Int) (s2 : Int) (n_s0 : Nat) (t_s0 : TT L s0 = (2, n_s0)) (g0 : in32 (s2 - x5)) : nxs 3 102 80 [some (.inr (.inr 100)), some (.inr (.inr x1)), some (.inl x2), some (.inl x3), some (.inl x4), some (.inl x5)] [.inl s2, .inl s1, .inr (.inr s0)] (M0 L V b) = some (true, 84, [some (.inr (.inr 100)), some (.inr (.inr x1)), some (.inl x2), some (.inl x3), some (.inl x4), some (.inl x5)], [.inr (.inl (s2 - x5)), .inl s1, .inr (.inr s0)], M0 L V b) := by
  have f0 : r32 (s2 - x5) = true := r32_of g0
  have hG : (r32 (s2 - x5) && true) = true := an f0 rfl
  show some (r32 (s2 - x5) && true, _) = _
  rw [hG]
  try rfl

theorem J102_84 (L : Nat) (V : Mv) (b : Bool) (x1 : Nat) (x2 : Int) (x3 : Int) (x4 : Int) (x5 : Int) (s0 : Nat) (s1 : Int) (s2 : Int) (n_s0 : Nat) (t_s0 : TT L s0 = (2, n_s0)) (g0 : 0 ≤ s1 ∧ s1 < (n_s0 : Int)) (z_s0 : s0 ≠ 0) : nxs 3 102 84 [some (.inr (.inr 100)), some (.inr (.inr x1)), some (.inl x2), some (.inl x3), some (.inl x4), some (.inl x5)] [.inr (.inl s2), .inl s1, .inr (.inr s0)] (M0 L V b) = some (true, 10, [some (.inr (.inr 100)), some (.inr (.inr x1)), some (.inl x2), some (.inl x3), some (.inl (x4 + 1)), some (.inl x5)], [], M0 L (uV V s0 (s1).toNat s2) b) := by
  have f0 : (gX (M0 L V b) s0 2 s1 && !Nat.beq s0 0) = true := gs_of (gx_of (show aT _ _ = _ from t_s0) g0) z_s0
  have hG : ((gX (M0 L V b) s0 2 s1 && !Nat.beq s0 0) && true) = true := an f0 rfl
  show some ((gX (M0 L V b) s0 2 s1 && !Nat.beq s0 0) && true, _) = _
  rw [hG]
  try rfl

theorem J115_64 (L : Nat) (V : Mv) (b : Bool) (x1 : Nat) (x2 : Int) (x3 : Int) (x4 : Int) (x5 : Int) (x6 : Int) (x8 : Int) (x9 : Int) (s0 : Nat) (s1 : Int) (s2 : Int) (n_s0 : Nat) (t_s0 : TT L s0 = (2, n_s0)) (g0 : 0 ≤ s1 ∧ s1 < (n_s0 : Int)) (z_s0 : s0 ≠ 0) : nxs 3 115 64 [some (.inr (.inr 108)), some (.inr (.inr x1)), some (.inl x2), some (.inl x3), some (.inl x4), some (.inl x5), some (.inr (.inl x6)), none, some (.inl x8), some (.inl x9), none] [.inr (.inl s2), .inl s1, .inr (.inr s0)] (M0 L V b) = some (true, 40, [some (.inr (.inr 108)), some (.inr (.inr x1)), some (.inl x2), some (.inl x3), some (.inl x4), some (.inl x5), some (.inr (.inl x6)), none, some (.inl x8), some (.inl (x9 + 1)), none], [], M0 L (uV V s0 (s1).toNat s2) b) := by
  have f0 : (gX (M0 L V b) s0 2 s1 && !Nat.beq s0 0) = true := gs_of (gx_of (show aT _ _ = _ from t_s0) g0) z_s0
  have hG : ((gX (M0 L V b) s0 2 s1 && !Nat.beq s0 0) && true) = true := an f0 rfl
  show some ((gX (M0 L V b) s0 2 s1 && !Nat.beq s0 0) && true, _) = _
  rw [hG]
  try rfl

theorem J119_22 (L : Nat) (V : Mv) (b : Bool) (x1 : Nat) (x2 : Nat) (x3 : Int) (x4 : Int) (c_x2 : isT x2) (g0 : 0 ≤ x3 * 8 ∧ x3 * 8 + 8 ≤ 32) : nxs 14 119 22 [some (.inr (.inr 111)), some (.inr (.inr x1)), some (.inr (.inr x2)), some (.inl x3), some (.inl x4)] [] (M0 L V b) = some (true, 44, [some (.inr (.inr 111)), some (.inr (.inr x1)), some (.inr (.inr x2)), some (.inl x3), some (.inl x4)], [.inl x3, .inr (.inr x1), .inr (.inr 111), .inr (.inr 111)], M0 L (cV V (x2 + 1) (0 : Int).toNat 112 (x3 * 8).toNat (8 : Int).toNat) b) := by
  have f0 : (decide ((TT L x2).1 = 64 + 3) && decide (RR b x2 0 = some (x2 + 1))) = true := clr_of (isT_T c_x2) (isT_R0 c_x2)
  have f1 : gCp L (x2 + 1) 112 0 (x3 * 8) 8 = true := gCp_of (k := 2) (isT_A0 (L := L) c_x2) rfl (by decide) (by omega) (by decide) (by decide) (by decide) g0
  have hG : ((decide ((TT L x2).1 = 64 + 3) && decide (RR b x2 0 = some (x2 + 1))) && (gCp L (x2 + 1) 112 0 (x3 * 8) 8 && true)) = true := an f0 (an f1 rfl)
  show some ((decide ((TT L x2).1 = 64 + 3) && decide (RR b x2 0 = some (x2 + 1))) && (gCp L (x2 + 1) 112 0 (x3 * 8) 8 && true), _) = _
  rw [hG]
  try rfl

theorem J120_42 (L : Nat) (V : Mv) (b : Bool) (x1 : Nat) (x2 : Int) (x3 : Int) (x4 : Int) (x5 : Int) (s0 : Nat) (s1 : Int) (n_s0 : Nat) (t_s0 : TT L s0 = (2, n_s0)) : nxs 2 120 42 [some (.inr (.inr 111)), some (.inr (.inr x1)), some (.inl x2), some (.inl x3), some (.inl x4), some (.inl x5)] [.inl s1, .inr (.inr s0)] (M0 L V b) = some (true, 47, [some (.inr (.inr 111)), some (.inr (.inr x1)), some (.inl x2), some (.inl x3), some (.inl x4), some (.inl x5)], [.inr (.inl 1), .inl s1, .inr (.inr s0)], M0 L V b) := by
  rfl

theorem J120_46 (L : Nat) (V : Mv) (b : Bool) (x1 : Nat) (x2 : Int) (x3 : Int) (x4 : Int) (x5 : Int) (s0 : Nat) (s1 : Int) (n_s0 : Nat) (t_s0 : TT L s0 = (2, n_s0)) : nxs 1 120 46 [some (.inr (.inr 111)), some (.inr (.inr x1)), some (.inl x2), some (.inl x3), some (.inl x4), some (.inl x5)] [.inl s1, .inr (.inr s0)] (M0 L V b) = some (true, 47, [some (.inr (.inr 111)), some (.inr (.inr x1)), some (.inl x2), some (.inl x3), some (.inl x4), some (.inl x5)], [.inr (.inl 0), .inl s1, .inr (.inr s0)], M0 L V b) := by
  rfl

theorem J120_47 (L : Nat) (V : Mv) (b : Bool) (x1 : Nat) (x2 : Int) (x3 : Int) (x4 : Int) (x5 : Int) (s0 : Nat) (s1 : Int) (s2 : Int) (n_s0 : Nat) (t_s0 : TT L s0 = (2, n_s0)) (g0 : 0 ≤ s1 ∧ s1 < (n_s0 : Int)) (z_s0 : s0 ≠ 0) : nxs 3 120 47 [some (.inr (.inr 111)), some (.inr (.inr x1)), some (.inl x2), some (.inl x3), some (.inl x4), some (.inl x5)] [.inr (.inl s2), .inl s1, .inr (.inr s0)] (M0 L V b) = some (true, 20, [some (.inr (.inr 111)), some (.inr (.inr x1)), some (.inl x2), some (.inl x3), some (.inl x4), some (.inl (x5 + 1))], [], M0 L (uV V s0 (s1).toNat s2) b) := by
  have f0 : (gX (M0 L V b) s0 2 s1 && !Nat.beq s0 0) = true := gs_of (gx_of (show aT _ _ = _ from t_s0) g0) z_s0
  have hG : ((gX (M0 L V b) s0 2 s1 && !Nat.beq s0 0) && true) = true := an f0 rfl
  show some ((gX (M0 L V b) s0 2 s1 && !Nat.beq s0 0) && true, _) = _
  rw [hG]
  try rfl

theorem J120_68 (L : Nat) (V : Mv) (b : Bool) (x1 : Nat) (x2 : Int) (x3 : Int) (x4 : Int) (x5 : Int) (s0 : Nat) (s1 : Int) (s2 : Int) (n_s0 : Nat) (t_s0 : TT L s0 = (2, n_s0)) (g0 : 0 ≤ s1 ∧ s1 < (n_s0 : Int)) (z_s0 : s0 ≠ 0) : nxs 3 120 68 [some (.inr (.inr 111)), some (.inr (.inr x1)), some (.inl x2), some (.inl x3), some (.inl x4), some (.inl x5)] [.inr (.inl s2), .inl s1, .inr (.inr s0)] (M0 L V b) = some (true, 8, [some (.inr (.inr 111)), some (.inr (.inr x1)), some (.inl x2), some (.inl x3), some (.inl (x4 + 1)), some (.inl x5)], [], M0 L (uV V s0 (s1).toNat s2) b) := by
  have f0 : (gX (M0 L V b) s0 2 s1 && !Nat.beq s0 0) = true := gs_of (gx_of (show aT _ _ = _ from t_s0) g0) z_s0
  have hG : ((gX (M0 L V b) s0 2 s1 && !Nat.beq s0 0) && true) = true := an f0 rfl
  show some ((gX (M0 L V b) s0 2 s1 && !Nat.beq s0 0) && true, _) = _
  rw [hG]
  try rfl

theorem J120_148 (L : Nat) (V : Mv) (b : Bool) (x1 : Nat) (x2 : Int) (x3 : Int) (x4 : Int) (x5 : Int) (s0 : Nat) (s1 : Int) (s2 : Int) (s3 : Int) (n_s0 : Nat) (t_s0 : TT L s0 = (2, n_s0)) (g0 : in64 s2) (g1 : in64 s3) (g2 : 0 ≤ s1 ∧ s1 < (n_s0 : Int)) (z_s0 : s0 ≠ 0) : nxs 2 120 148 [some (.inr (.inr 111)), some (.inr (.inr x1)), some (.inl x2), some (.inl x3), some (.inl x4), some (.inl x5)] [.inr (.inl s3), .inr (.inl s2), .inl s1, .inr (.inr s0)] (M0 L V b) = some (true, 152, [some (.inr (.inr 111)), some (.inr (.inr x1)), some (.inl x2), some (.inl x3), some (.inl x4), some (.inl x5)], [], M0 L (uV V s0 (s1).toNat (cond (decide (s3 < s2)) s3 s2)) b) := by
  have f0 : (r64 s2 && (r64 s3 && true)) = true := an (r64_of g0) (an (r64_of g1) rfl)
  have f1 : (gX (M0 L V b) s0 2 s1 && !Nat.beq s0 0) = true := gs_of (gx_of (show aT _ _ = _ from t_s0) g2) z_s0
  have hG : ((r64 s2 && (r64 s3 && true)) && ((gX (M0 L V b) s0 2 s1 && !Nat.beq s0 0) && true)) = true := an f0 (an f1 rfl)
  show some ((r64 s2 && (r64 s3 && true)) && ((gX (M0 L V b) s0 2 s1 && !Nat.beq s0 0) && true), _) = _
  rw [hG]
  try rfl

theorem J122_91 (L : Nat) (V : Mv) (b : Bool) (x1 : Nat) (x2 : Int) (x3 : Int) (x4 : Int) (x5 : Int) (x7 : Int) (s0 : Nat) (s1 : Int) (s2 : Int) (n_s0 : Nat) (t_s0 : TT L s0 = (2, n_s0)) : nxs 2 122 91 [some (.inr (.inr 111)), some (.inr (.inr x1)), some (.inl x2), some (.inl x3), some (.inl x4), some (.inr (.inl x5)), none, some (.inl x7)] [.inr (.inl s2), .inl s1, .inr (.inr s0)] (M0 L V b) = some (true, 101, [some (.inr (.inr 111)), some (.inr (.inr x1)), some (.inl x2), some (.inl x3), some (.inl x4), some (.inr (.inl x5)), none, some (.inl x7)], [.inl x7, .inr (.inl s2), .inl s1, .inr (.inr s0)], M0 L V b) := by
  rfl

theorem J122_96 (L : Nat) (V : Mv) (b : Bool) (x1 : Nat) (x2 : Int) (x3 : Int) (x4 : Int) (x5 : Int) (x7 : Int) (s0 : Nat) (s1 : Int) (s2 : Int) (n_s0 : Nat) (t_s0 : TT L s0 = (2, n_s0)) : nxs 3 122 96 [some (.inr (.inr 111)), some (.inr (.inr x1)), some (.inl x2), some (.inl x3), some (.inl x4), some (.inr (.inl x5)), none, some (.inl x7)] [.inr (.inl s2), .inl s1, .inr (.inr s0)] (M0 L V b) = some (true, 101, [some (.inr (.inr 111)), some (.inr (.inr x1)), some (.inl x2), some (.inl x3), some (.inl x4), some (.inr (.inl x5)), none, some (.inl x7)], [.inl (10 - x7), .inr (.inl s2), .inl s1, .inr (.inr s0)], M0 L V b) := by
  rfl

theorem J122_101 (L : Nat) (V : Mv) (b : Bool) (x1 : Nat) (x2 : Int) (x3 : Int) (x4 : Int) (x5 : Int) (x7 : Int) (s0 : Nat) (s1 : Int) (s2 : Int) (s3 : Int) (n_s0 : Nat) (t_s0 : TT L s0 = (2, n_s0)) (g0 : in32 s3) (g1 : 0 ≤ s1 ∧ s1 < (n_s0 : Int)) (z_s0 : s0 ≠ 0) : nxs 5 122 101 [some (.inr (.inr 111)), some (.inr (.inr x1)), some (.inl x2), some (.inl x3), some (.inl x4), some (.inr (.inl x5)), none, some (.inl x7)] [.inl s3, .inr (.inl s2), .inl s1, .inr (.inr s0)] (M0 L V b) = some (true, 3, [some (.inr (.inr 111)), some (.inr (.inr x1)), some (.inl x2), some (.inl x3), some (.inl (x4 + 1)), some (.inr (.inl x5)), none, some (.inl x7)], [], M0 L (uV V s0 (s1).toNat (s2 * s3)) b) := by
  have f0 : r32 s3 = true := r32_of g0
  have f1 : (gX (M0 L V b) s0 2 s1 && !Nat.beq s0 0) = true := gs_of (gx_of (show aT _ _ = _ from t_s0) g1) z_s0
  have hG : (r32 s3 && ((gX (M0 L V b) s0 2 s1 && !Nat.beq s0 0) && true)) = true := an f0 (an f1 rfl)
  show some (r32 s3 && ((gX (M0 L V b) s0 2 s1 && !Nat.beq s0 0) && true), _) = _
  rw [hG]
  try rfl

theorem J126_59 (L : Nat) (V : Mv) (b : Bool) (x1 : Nat) (x2 : Nat) (x3 : Int) (x4 : Int) (x6 : Int) (x7 : Nat) (x8 : Int) (n_x7 : Nat) (t_x7 : TT L x7 = (2, n_x7)) (c_x1 : isK x1) (g0 : in32 x8) (g1 : in32 (V x1 0)) : nxs 4 126 59 [some (.inr (.inr 115)), some (.inr (.inr x1)), some (.inr (.inr x2)), some (.inl x3), some (.inr (.inl x4)), none, some (.inl x6), some (.inr (.inr x7)), some (.inl x8), none] [] (M0 L V b) = some (true, cond (decide (V x1 0 ≤ x8)) 104 68, [some (.inr (.inr 115)), some (.inr (.inr x1)), some (.inr (.inr x2)), some (.inl x3), some (.inr (.inl x4)), none, some (.inl x6), some (.inr (.inr x7)), some (.inl x8), none], [], M0 L V b) := by
  have f0 : decide ((TT L x1).1 = 64 + 2) = true := cls_of (isK_T c_x1)
  have f1 : (r32 x8 && r32 (V x1 0)) = true := rr32_of g0 g1
  have hG : (decide ((TT L x1).1 = 64 + 2) && ((r32 x8 && r32 (V x1 0)) && true)) = true := an f0 (an f1 rfl)
  show some (decide ((TT L x1).1 = 64 + 2) && ((r32 x8 && r32 (V x1 0)) && true), _) = _
  rw [hG]
  try rfl

theorem J126_68 (L : Nat) (V : Mv) (b : Bool) (x1 : Nat) (x2 : Nat) (x3 : Int) (x4 : Int) (x6 : Int) (x7 : Nat) (x8 : Int) (n_x7 : Nat) (t_x7 : TT L x7 = (2, n_x7)) : nxs 2 126 68 [some (.inr (.inr 115)), some (.inr (.inr x1)), some (.inr (.inr x2)), some (.inl x3), some (.inr (.inl x4)), none, some (.inl x6), some (.inr (.inr x7)), some (.inl x8), none] [] (M0 L V b) = some (true, 71, [some (.inr (.inr 115)), some (.inr (.inr x1)), some (.inr (.inr x2)), some (.inl x3), some (.inr (.inl x4)), none, some (.inl x6), some (.inr (.inr x7)), some (.inl x8), some (.inl 0)], [], M0 L V b) := by
  rfl

theorem J126_71 (L : Nat) (V : Mv) (b : Bool) (x1 : Nat) (x2 : Nat) (x3 : Int) (x4 : Int) (x6 : Int) (x7 : Nat) (x8 : Int) (x9 : Int) (n_x7 : Nat) (t_x7 : TT L x7 = (2, n_x7)) (c_x2 : isK x2) (g0 : in32 x9) (g1 : in32 (V x2 0)) : nxs 4 126 71 [some (.inr (.inr 115)), some (.inr (.inr x1)), some (.inr (.inr x2)), some (.inl x3), some (.inr (.inl x4)), none, some (.inl x6), some (.inr (.inr x7)), some (.inl x8), some (.inl x9)] [] (M0 L V b) = some (true, cond (decide (V x2 0 ≤ x9)) 98 80, [some (.inr (.inr 115)), some (.inr (.inr x1)), some (.inr (.inr x2)), some (.inl x3), some (.inr (.inl x4)), none, some (.inl x6), some (.inr (.inr x7)), some (.inl x8), some (.inl x9)], [], M0 L V b) := by
  have f0 : decide ((TT L x2).1 = 64 + 2) = true := cls_of (isK_T c_x2)
  have f1 : (r32 x9 && r32 (V x2 0)) = true := rr32_of g0 g1
  have hG : (decide ((TT L x2).1 = 64 + 2) && ((r32 x9 && r32 (V x2 0)) && true)) = true := an f0 (an f1 rfl)
  show some (decide ((TT L x2).1 = 64 + 2) && ((r32 x9 && r32 (V x2 0)) && true), _) = _
  rw [hG]
  try rfl

theorem J126_80 (L : Nat) (V : Mv) (b : Bool) (x1 : Nat) (x2 : Nat) (x3 : Int) (x4 : Int) (x6 : Int) (x7 : Nat) (x8 : Int) (x9 : Int) (n_x7 : Nat) (t_x7 : TT L x7 = (2, n_x7)) : nxs 6 126 80 [some (.inr (.inr 115)), some (.inr (.inr x1)), some (.inr (.inr x2)), some (.inl x3), some (.inr (.inl x4)), none, some (.inl x6), some (.inr (.inr x7)), some (.inl x8), some (.inl x9)] [] (M0 L V b) = some (true, 89, [some (.inr (.inr 115)), some (.inr (.inr x1)), some (.inr (.inr x2)), some (.inl x3), some (.inr (.inl x4)), none, some (.inl x6), some (.inr (.inr x7)), some (.inl x8), some (.inl x9)], [.inr (.inl x4), .inl x9, .inr (.inr x2), .inl x8, .inr (.inr x1), .inr (.inr 115)], M0 L V b) := by
  rfl

theorem J126_92 (L : Nat) (V : Mv) (b : Bool) (x1 : Nat) (x2 : Nat) (x3 : Int) (x4 : Int) (x6 : Int) (x7 : Nat) (x8 : Int) (x9 : Int) (n_x7 : Nat) (t_x7 : TT L x7 = (2, n_x7)) : nxs 2 126 92 [some (.inr (.inr 115)), some (.inr (.inr x1)), some (.inr (.inr x2)), some (.inl x3), some (.inr (.inl x4)), none, some (.inl x6), some (.inr (.inr x7)), some (.inl x8), some (.inl x9)] [] (M0 L V b) = some (true, 71, [some (.inr (.inr 115)), some (.inr (.inr x1)), some (.inr (.inr x2)), some (.inl x3), some (.inr (.inl x4)), none, some (.inl x6), some (.inr (.inr x7)), some (.inl x8), some (.inl (x9 + 1))], [], M0 L V b) := by
  rfl

theorem J126_98 (L : Nat) (V : Mv) (b : Bool) (x1 : Nat) (x2 : Nat) (x3 : Int) (x4 : Int) (x6 : Int) (x7 : Nat) (x8 : Int) (x9 : Int) (n_x7 : Nat) (t_x7 : TT L x7 = (2, n_x7)) : nxs 2 126 98 [some (.inr (.inr 115)), some (.inr (.inr x1)), some (.inr (.inr x2)), some (.inl x3), some (.inr (.inl x4)), none, some (.inl x6), some (.inr (.inr x7)), some (.inl x8), some (.inl x9)] [] (M0 L V b) = some (true, 59, [some (.inr (.inr 115)), some (.inr (.inr x1)), some (.inr (.inr x2)), some (.inl x3), some (.inr (.inl x4)), none, some (.inl x6), some (.inr (.inr x7)), some (.inl (x8 + 1)), some (.inl x9)], [], M0 L V b) := by
  rfl

theorem J126_104 (L : Nat) (V : Mv) (b : Bool) (x1 : Nat) (x2 : Nat) (x3 : Int) (x4 : Int) (x6 : Int) (x7 : Nat) (x8 : Int) (n_x7 : Nat) (t_x7 : TT L x7 = (2, n_x7)) : nxs 6 126 104 [some (.inr (.inr 115)), some (.inr (.inr x1)), some (.inr (.inr x2)), some (.inl x3), some (.inr (.inl x4)), none, some (.inl x6), some (.inr (.inr x7)), some (.inl x8), none] [] (M0 L V b) = some (true, 30, [some (.inr (.inr 115)), some (.inr (.inr x1)), some (.inr (.inr x2)), some (.inl x3), some (.inr (.inl (x4 * 10))), none, some (.inl (x6 + 1)), some (.inr (.inr x7)), some (.inl x8), none], [], M0 L V b) := by
  rfl

theorem J144_142 (L : Nat) (V : Mv) (b : Bool) (x1 : Int) (x2 : Int) (s0 : Nat) (s1 : Int) (n_s0 : Nat) (t_s0 : TT L s0 = (2, n_s0)) : nxs 2 144 142 [some (.inr (.inr 120)), some (.inl x1), some (.inl x2)] [.inl s1, .inr (.inr s0)] (M0 L V b) = some (true, 147, [some (.inr (.inr 120)), some (.inl x1), some (.inl x2)], [.inr (.inl 1), .inl s1, .inr (.inr s0)], M0 L V b) := by
  rfl

theorem J144_146 (L : Nat) (V : Mv) (b : Bool) (x1 : Int) (x2 : Int) (s0 : Nat) (s1 : Int) (n_s0 : Nat) (t_s0 : TT L s0 = (2, n_s0)) : nxs 1 144 146 [some (.inr (.inr 120)), some (.inl x1), some (.inl x2)] [.inl s1, .inr (.inr s0)] (M0 L V b) = some (true, 147, [some (.inr (.inr 120)), some (.inl x1), some (.inl x2)], [.inr (.inl 0), .inl s1, .inr (.inr s0)], M0 L V b) := by
  rfl

theorem J144_147 (L : Nat) (V : Mv) (b : Bool) (x1 : Int) (x2 : Int) (s0 : Nat) (s1 : Int) (s2 : Int) (n_s0 : Nat) (t_s0 : TT L s0 = (2, n_s0)) (g0 : 0 ≤ s1 ∧ s1 < (n_s0 : Int)) (z_s0 : s0 ≠ 0) : nxs 3 144 147 [some (.inr (.inr 120)), some (.inl x1), some (.inl x2)] [.inr (.inl s2), .inl s1, .inr (.inr s0)] (M0 L V b) = some (true, 82, [some (.inr (.inr 120)), some (.inl x1), some (.inl (x2 + 1))], [], M0 L (uV V s0 (s1).toNat s2) b) := by
  have f0 : (gX (M0 L V b) s0 2 s1 && !Nat.beq s0 0) = true := gs_of (gx_of (show aT _ _ = _ from t_s0) g0) z_s0
  have hG : ((gX (M0 L V b) s0 2 s1 && !Nat.beq s0 0) && true) = true := an f0 rfl
  show some ((gX (M0 L V b) s0 2 s1 && !Nat.beq s0 0) && true, _) = _
  rw [hG]
  try rfl

theorem J156_65 (L : Nat) (V : Mv) (b : Bool) (x1 : Int) (x2 : Int) (x3 : Int) (s0 : Nat) (s1 : Int) (s2 : Int) (s3 : Int) (s4 : Int) (n_s0 : Nat) (t_s0 : TT L s0 = (2, n_s0)) (g0 : in32 s4) (g1 : 0 ≤ s1 ∧ s1 < (n_s0 : Int)) (z_s0 : s0 ≠ 0) : nxs 6 156 65 [some (.inr (.inr 120)), some (.inl x1), some (.inl x2), some (.inl x3)] [.inl s4, .inr (.inl s3), .inr (.inl s2), .inl s1, .inr (.inr s0)] (M0 L V b) = some (true, 35, [some (.inr (.inr 120)), some (.inl x1), some (.inl x2), some (.inl (x3 + 1))], [], M0 L (uV V s0 (s1).toNat (s2 + (s3 * s4))) b) := by
  have f0 : r32 s4 = true := r32_of g0
  have f1 : (gX (M0 L V b) s0 2 s1 && !Nat.beq s0 0) = true := gs_of (gx_of (show aT _ _ = _ from t_s0) g1) z_s0
  have hG : (r32 s4 && ((gX (M0 L V b) s0 2 s1 && !Nat.beq s0 0) && true)) = true := an f0 (an f1 rfl)
  show some (r32 s4 && ((gX (M0 L V b) s0 2 s1 && !Nat.beq s0 0) && true), _) = _
  rw [hG]
  try rfl

theorem J161_19 (L : Nat) (V : Mv) (b : Bool) (x1 : Int) (x2 : Int) (x3 : Int) (s0 : Nat) (s1 : Int) (s2 : Int) (n_s0 : Nat) (t_s0 : TT L s0 = (2, n_s0)) (g0 : 0 ≤ (8 * x1) + x3 ∧ (8 * x1) + x3 < 32) (g1 : in32 (V 125 ((8 * x1) + x3).toNat)) : nxs 10 161 19 [some (.inr (.inr 120)), some (.inl x1), some (.inl x2), some (.inl x3)] [.inr (.inl s2), .inl s1, .inr (.inr s0)] (M0 L V b) = some (true, 49, [some (.inr (.inr 120)), some (.inl x1), some (.inl x2), some (.inl x3)], [.inr (.inl (V 125 ((8 * x1) + x3).toNat)), .inr (.inl s2), .inl s1, .inr (.inr s0)], M0 L V b) := by
  have f0 : gX (M0 L V b) 125 1 ((8 * x1) + x3) = true := gx_of rfl g0
  have f1 : r32 (V 125 ((8 * x1) + x3).toNat) = true := r32_of g1
  have hG : (gX (M0 L V b) 125 1 ((8 * x1) + x3) && (r32 (V 125 ((8 * x1) + x3).toNat) && true)) = true := an f0 (an f1 rfl)
  show some (gX (M0 L V b) 125 1 ((8 * x1) + x3) && (r32 (V 125 ((8 * x1) + x3).toNat) && true), _) = _
  rw [hG]
  try rfl

theorem J161_34 (L : Nat) (V : Mv) (b : Bool) (x1 : Int) (x2 : Int) (x3 : Int) (s0 : Nat) (s1 : Int) (s2 : Int) (n_s0 : Nat) (t_s0 : TT L s0 = (2, n_s0)) (g0 : 0 ≤ (8 * x1) + x3 ∧ (8 * x1) + x3 < 32) (g1 : in32 (10 - (V 125 ((8 * x1) + x3).toNat))) : nxs 11 161 34 [some (.inr (.inr 120)), some (.inl x1), some (.inl x2), some (.inl x3)] [.inr (.inl s2), .inl s1, .inr (.inr s0)] (M0 L V b) = some (true, 49, [some (.inr (.inr 120)), some (.inl x1), some (.inl x2), some (.inl x3)], [.inr (.inl (10 - (V 125 ((8 * x1) + x3).toNat))), .inr (.inl s2), .inl s1, .inr (.inr s0)], M0 L V b) := by
  have f0 : gX (M0 L V b) 125 1 ((8 * x1) + x3) = true := gx_of rfl g0
  have f1 : r32 (10 - (V 125 ((8 * x1) + x3).toNat)) = true := r32_of g1
  have hG : (gX (M0 L V b) 125 1 ((8 * x1) + x3) && (r32 (10 - (V 125 ((8 * x1) + x3).toNat)) && true)) = true := an f0 (an f1 rfl)
  show some (gX (M0 L V b) 125 1 ((8 * x1) + x3) && (r32 (10 - (V 125 ((8 * x1) + x3).toNat)) && true), _) = _
  rw [hG]
  try rfl

theorem J161_49 (L : Nat) (V : Mv) (b : Bool) (x1 : Int) (x2 : Int) (x3 : Int) (s0 : Nat) (s1 : Int) (s2 : Int) (s3 : Int) (n_s0 : Nat) (t_s0 : TT L s0 = (2, n_s0)) (g0 : 0 ≤ s1 ∧ s1 < (n_s0 : Int)) (z_s0 : s0 ≠ 0) : nxs 4 161 49 [some (.inr (.inr 120)), some (.inl x1), some (.inl x2), some (.inl x3)] [.inr (.inl s3), .inr (.inl s2), .inl s1, .inr (.inr s0)] (M0 L V b) = some (true, 2, [some (.inr (.inr 120)), some (.inl x1), some (.inl x2), some (.inl (x3 + 1))], [], M0 L (uV V s0 (s1).toNat (s2 * s3)) b) := by
  have f0 : (gX (M0 L V b) s0 2 s1 && !Nat.beq s0 0) = true := gs_of (gx_of (show aT _ _ = _ from t_s0) g0) z_s0
  have hG : ((gX (M0 L V b) s0 2 s1 && !Nat.beq s0 0) && true) = true := an f0 rfl
  show some ((gX (M0 L V b) s0 2 s1 && !Nat.beq s0 0) && true, _) = _
  rw [hG]
  try rfl

theorem J163_18 (L : Nat) (V : Mv) (b : Bool) (x1 : Int) (x2 : Int) (s0 : Nat) (s1 : Int) (n_s0 : Nat) (t_s0 : TT L s0 = (2, n_s0)) : nxs 2 163 18 [some (.inr (.inr 120)), some (.inl x1), some (.inl x2)] [.inl s1, .inr (.inr s0)] (M0 L V b) = some (true, 23, [some (.inr (.inr 120)), some (.inl x1), some (.inl x2)], [.inr (.inl 1), .inl s1, .inr (.inr s0)], M0 L V b) := by
  rfl

theorem J163_22 (L : Nat) (V : Mv) (b : Bool) (x1 : Int) (x2 : Int) (s0 : Nat) (s1 : Int) (n_s0 : Nat) (t_s0 : TT L s0 = (2, n_s0)) : nxs 1 163 22 [some (.inr (.inr 120)), some (.inl x1), some (.inl x2)] [.inl s1, .inr (.inr s0)] (M0 L V b) = some (true, 23, [some (.inr (.inr 120)), some (.inl x1), some (.inl x2)], [.inr (.inl 0), .inl s1, .inr (.inr s0)], M0 L V b) := by
  rfl

theorem J163_23 (L : Nat) (V : Mv) (b : Bool) (x1 : Int) (x2 : Int) (s0 : Nat) (s1 : Int) (s2 : Int) (n_s0 : Nat) (t_s0 : TT L s0 = (2, n_s0)) (g0 : 0 ≤ s1 ∧ s1 < (n_s0 : Int)) (z_s0 : s0 ≠ 0) : nxs 3 163 23 [some (.inr (.inr 120)), some (.inl x1), some (.inl x2)] [.inr (.inl s2), .inl s1, .inr (.inr s0)] (M0 L V b) = some (true, 2, [some (.inr (.inr 120)), some (.inl x1), some (.inl (x2 + 1))], [], M0 L (uV V s0 (s1).toNat s2) b) := by
  have f0 : (gX (M0 L V b) s0 2 s1 && !Nat.beq s0 0) = true := gs_of (gx_of (show aT _ _ = _ from t_s0) g0) z_s0
  have hG : ((gX (M0 L V b) s0 2 s1 && !Nat.beq s0 0) && true) = true := an f0 rfl
  show some ((gX (M0 L V b) s0 2 s1 && !Nat.beq s0 0) && true, _) = _
  rw [hG]
  try rfl

theorem J171_55 (L : Nat) (V : Mv) (b : Bool) (x1 : Int) (x2 : Int) (x3 : Int) (x4 : Int) (s0 : Nat) (s1 : Int) (n_s0 : Nat) (t_s0 : TT L s0 = (2, n_s0)) : nxs 2 171 55 [some (.inr (.inr 120)), some (.inl x1), some (.inl x2), some (.inl x3), some (.inl x4), none, none, none, none, none, none, none, none, none] [.inl s1, .inr (.inr s0)] (M0 L V b) = some (true, 60, [some (.inr (.inr 120)), some (.inl x1), some (.inl x2), some (.inl x3), some (.inl x4), none, none, none, none, none, none, none, none, none], [.inr (.inl 1), .inl s1, .inr (.inr s0)], M0 L V b) := by
  rfl

theorem J171_59 (L : Nat) (V : Mv) (b : Bool) (x1 : Int) (x2 : Int) (x3 : Int) (x4 : Int) (s0 : Nat) (s1 : Int) (n_s0 : Nat) (t_s0 : TT L s0 = (2, n_s0)) : nxs 1 171 59 [some (.inr (.inr 120)), some (.inl x1), some (.inl x2), some (.inl x3), some (.inl x4), none, none, none, none, none, none, none, none, none] [.inl s1, .inr (.inr s0)] (M0 L V b) = some (true, 60, [some (.inr (.inr 120)), some (.inl x1), some (.inl x2), some (.inl x3), some (.inl x4), none, none, none, none, none, none, none, none, none], [.inr (.inl 0), .inl s1, .inr (.inr s0)], M0 L V b) := by
  rfl

theorem J171_60 (L : Nat) (V : Mv) (b : Bool) (x1 : Int) (x2 : Int) (x3 : Int) (x4 : Int) (s0 : Nat) (s1 : Int) (s2 : Int) (n_s0 : Nat) (t_s0 : TT L s0 = (2, n_s0)) (g0 : 0 ≤ s1 ∧ s1 < (n_s0 : Int)) (z_s0 : s0 ≠ 0) : nxs 4 171 60 [some (.inr (.inr 120)), some (.inl x1), some (.inl x2), some (.inl x3), some (.inl x4), none, none, none, none, none, none, none, none, none] [.inr (.inl s2), .inl s1, .inr (.inr s0)] (M0 L V b) = some (true, 65, [some (.inr (.inr 120)), some (.inl x1), some (.inl x2), some (.inl x3), some (.inl x4), none, none, none, none, none, none, none, none, none], [.inl x4, .inl x1, .inr (.inr 120)], M0 L (uV V s0 (s1).toNat s2) b) := by
  have f0 : (gX (M0 L V b) s0 2 s1 && !Nat.beq s0 0) = true := gs_of (gx_of (show aT _ _ = _ from t_s0) g0) z_s0
  have hG : ((gX (M0 L V b) s0 2 s1 && !Nat.beq s0 0) && true) = true := an f0 rfl
  show some ((gX (M0 L V b) s0 2 s1 && !Nat.beq s0 0) && true, _) = _
  rw [hG]
  try rfl

theorem J171_245 (L : Nat) (V : Mv) (b : Bool) (x1 : Int) (x2 : Int) (x3 : Int) (x4 : Int) (x5 : Int) (x6 : Int) (x8 : Int) (x10 : Int) (s0 : Nat) (s1 : Int) (n_s0 : Nat) (t_s0 : TT L s0 = (2, n_s0)) : nxs 2 171 245 [some (.inr (.inr 120)), some (.inl x1), some (.inl x2), some (.inl x3), some (.inl x4), some (.inl x5), some (.inr (.inl x6)), none, some (.inr (.inl x8)), none, some (.inr (.inl x10)), none, none, none] [.inl s1, .inr (.inr s0)] (M0 L V b) = some (true, 254, [some (.inr (.inr 120)), some (.inl x1), some (.inl x2), some (.inl x3), some (.inl x4), some (.inl x5), some (.inr (.inl x6)), none, some (.inr (.inl x8)), none, some (.inr (.inl x10)), none, none, none], [.inr (.inl 0), .inl s1, .inr (.inr s0)], M0 L V b) := by
  rfl

theorem J171_249 (L : Nat) (V : Mv) (b : Bool) (x1 : Int) (x2 : Int) (x3 : Int) (x4 : Int) (x5 : Int) (x6 : Int) (x8 : Int) (x10 : Int) (s0 : Nat) (s1 : Int) (n_s0 : Nat) (t_s0 : TT L s0 = (2, n_s0)) (g0 : in64 x6) (g1 : in64 x10) (g2 : ¬ x10 = 0) : nxs 3 171 249 [some (.inr (.inr 120)), some (.inl x1), some (.inl x2), some (.inl x3), some (.inl x4), some (.inl x5), some (.inr (.inl x6)), none, some (.inr (.inl x8)), none, some (.inr (.inl x10)), none, none, none] [.inl s1, .inr (.inr s0)] (M0 L V b) = some (true, 254, [some (.inr (.inr 120)), some (.inl x1), some (.inl x2), some (.inl x3), some (.inl x4), some (.inl x5), some (.inr (.inl x6)), none, some (.inr (.inl x8)), none, some (.inr (.inl x10)), none, none, none], [.inr (.inl (Int.tdiv x6 x10)), .inl s1, .inr (.inr s0)], M0 L V b) := by
  have f0 : gL x6 x10 = true := gL_of g0 g1 g2
  have hG : (gL x6 x10 && true) = true := an f0 rfl
  show some (gL x6 x10 && true, _) = _
  rw [hG]
  try rfl

theorem J171_254 (L : Nat) (V : Mv) (b : Bool) (x1 : Int) (x2 : Int) (x3 : Int) (x4 : Int) (x5 : Int) (x6 : Int) (x8 : Int) (x10 : Int) (s0 : Nat) (s1 : Int) (s2 : Int) (n_s0 : Nat) (t_s0 : TT L s0 = (2, n_s0)) (g0 : 0 ≤ s1 ∧ s1 < (n_s0 : Int)) (z_s0 : s0 ≠ 0) (g1 : in64 x8) (g2 : in64 x10) (g3 : ¬ x10 = 0) (g4 : 0 ≤ x4 ∧ x4 < 8) : nxs 8 171 254 [some (.inr (.inr 120)), some (.inl x1), some (.inl x2), some (.inl x3), some (.inl x4), some (.inl x5), some (.inr (.inl x6)), none, some (.inr (.inl x8)), none, some (.inr (.inl x10)), none, none, none] [.inr (.inl s2), .inl s1, .inr (.inr s0)] (M0 L V b) = some (true, 267, [some (.inr (.inr 120)), some (.inl x1), some (.inl x2), some (.inl x3), some (.inl x4), some (.inl x5), some (.inr (.inl x6)), none, some (.inr (.inl x8)), none, some (.inr (.inl x10)), none, none, none], [], M0 L (uV (uV V s0 (s1).toNat s2) 134 (x4).toNat (Int.tdiv x8 x10)) b) := by
  have f0 : (gX (M0 L V b) s0 2 s1 && !Nat.beq s0 0) = true := gs_of (gx_of (show aT _ _ = _ from t_s0) g0) z_s0
  have f1 : gL x8 x10 = true := gL_of g1 g2 g3
  have f2 : (gX (M0 L (uV V s0 (s1).toNat s2) b) 134 2 x4 && !Nat.beq 134 0) = true := gs_of (gx_of rfl g4) (by decide)
  have hG : ((gX (M0 L V b) s0 2 s1 && !Nat.beq s0 0) && (gL x8 x10 && ((gX (M0 L (uV V s0 (s1).toNat s2) b) 134 2 x4 && !Nat.beq 134 0) && true))) = true := an f0 (an f1 (an f2 rfl))
  show some ((gX (M0 L V b) s0 2 s1 && !Nat.beq s0 0) && (gL x8 x10 && ((gX (M0 L (uV V s0 (s1).toNat s2) b) 134 2 x4 && !Nat.beq 134 0) && true)), _) = _
  rw [hG]
  try rfl

theorem J197_74 (L : Nat) (V : Mv) (b : Bool) (x1 : Int) (x2 : Int) (x3 : Int) (x4 : Int) (x5 : Int) (x6 : Int) (x8 : Int) (x9 : Int) (s0 : Nat) (s1 : Int) (s2 : Int) (n_s0 : Nat) (t_s0 : TT L s0 = (2, n_s0)) (g0 : 0 ≤ s1 ∧ s1 < (n_s0 : Int)) (z_s0 : s0 ≠ 0) (g1 : in32 x9) (g2 : in32 x2) : nxs 5 197 74 [some (.inr (.inr 120)), some (.inl x1), some (.inl x2), some (.inl x3), some (.inl x4), some (.inl x5), some (.inr (.inl x6)), none, some (.inl x8), some (.inl x9), none, none, none, none] [.inr (.inl s2), .inl s1, .inr (.inr s0)] (M0 L V b) = some (true, cond (!decide (x9 = x2)) 86 82, [some (.inr (.inr 120)), some (.inl x1), some (.inl x2), some (.inl x3), some (.inl x4), some (.inl x5), some (.inr (.inl x6)), none, some (.inl x8), some (.inl x9), none, none, none, none], [.inr (.inr 120)], M0 L (uV V s0 (s1).toNat s2) b) := by
  have f0 : (gX (M0 L V b) s0 2 s1 && !Nat.beq s0 0) = true := gs_of (gx_of (show aT _ _ = _ from t_s0) g0) z_s0
  have f1 : (r32 x9 && r32 x2) = true := rr32_of g1 g2
  have hG : ((gX (M0 L V b) s0 2 s1 && !Nat.beq s0 0) && ((r32 x9 && r32 x2) && true)) = true := an f0 (an f1 rfl)
  show some ((gX (M0 L V b) s0 2 s1 && !Nat.beq s0 0) && ((r32 x9 && r32 x2) && true), _) = _
  rw [hG]
  try rfl

theorem J197_234 (L : Nat) (V : Mv) (b : Bool) (x1 : Int) (x2 : Int) (x3 : Int) (x4 : Int) (x5 : Int) (x6 : Int) (x8 : Int) (x9 : Int) (x10 : Int) (x11 : Int) (x12 : Int) (s0 : Nat) (s1 : Int) (n_s0 : Nat) (t_s0 : TT L s0 = (2, n_s0)) : nxs 2 197 234 [some (.inr (.inr 120)), some (.inl x1), some (.inl x2), some (.inl x3), some (.inl x4), some (.inl x5), some (.inr (.inl x6)), none, some (.inl x8), some (.inl x9), some (.inl x10), some (.inl x11), some (.inr (.inl x12)), none] [.inl s1, .inr (.inr s0)] (M0 L V b) = some (true, 246, [some (.inr (.inr 120)), some (.inl x1), some (.inl x2), some (.inl x3), some (.inl x4), some (.inl x5), some (.inr (.inl x6)), none, some (.inl x8), some (.inl x9), some (.inl x10), some (.inl x11), some (.inr (.inl x12)), none], [.inr (.inl x12), .inl s1, .inr (.inr s0)], M0 L V b) := by
  rfl

theorem J197_239 (L : Nat) (V : Mv) (b : Bool) (x1 : Int) (x2 : Int) (x3 : Int) (x4 : Int) (x5 : Int) (x6 : Int) (x8 : Int) (x9 : Int) (x10 : Int) (x11 : Int) (x12 : Int) (s0 : Nat) (s1 : Int) (n_s0 : Nat) (t_s0 : TT L s0 = (2, n_s0)) (g0 : 0 ≤ x9 ∧ x9 < 8) : nxs 4 197 239 [some (.inr (.inr 120)), some (.inl x1), some (.inl x2), some (.inl x3), some (.inl x4), some (.inl x5), some (.inr (.inl x6)), none, some (.inl x8), some (.inl x9), some (.inl x10), some (.inl x11), some (.inr (.inl x12)), none] [.inl s1, .inr (.inr s0)] (M0 L V b) = some (true, 246, [some (.inr (.inr 120)), some (.inl x1), some (.inl x2), some (.inl x3), some (.inl x4), some (.inl x5), some (.inr (.inl x6)), none, some (.inl x8), some (.inl x9), some (.inl x10), some (.inl x11), some (.inr (.inl x12)), none], [.inr (.inl (V 141 (x9).toNat)), .inl s1, .inr (.inr s0)], M0 L V b) := by
  have f0 : gX (M0 L V b) 141 2 x9 = true := gx_of rfl g0
  have hG : (gX (M0 L V b) 141 2 x9 && true) = true := an f0 rfl
  show some (gX (M0 L V b) 141 2 x9 && true, _) = _
  rw [hG]
  try rfl

theorem J197_246 (L : Nat) (V : Mv) (b : Bool) (x1 : Int) (x2 : Int) (x3 : Int) (x4 : Int) (x5 : Int) (x6 : Int) (x8 : Int) (x9 : Int) (x10 : Int) (x11 : Int) (x12 : Int) (s0 : Nat) (s1 : Int) (s2 : Int) (n_s0 : Nat) (t_s0 : TT L s0 = (2, n_s0)) (g0 : 0 ≤ s1 ∧ s1 < (n_s0 : Int)) (z_s0 : s0 ≠ 0) : nxs 1 197 246 [some (.inr (.inr 120)), some (.inl x1), some (.inl x2), some (.inl x3), some (.inl x4), some (.inl x5), some (.inr (.inl x6)), none, some (.inl x8), some (.inl x9), some (.inl x10), some (.inl x11), some (.inr (.inl x12)), none] [.inr (.inl s2), .inl s1, .inr (.inr s0)] (M0 L V b) = some (true, 247, [some (.inr (.inr 120)), some (.inl x1), some (.inl x2), some (.inl x3), some (.inl x4), some (.inl x5), some (.inr (.inl x6)), none, some (.inl x8), some (.inl x9), some (.inl x10), some (.inl x11), some (.inr (.inl x12)), none], [], M0 L (uV V s0 (s1).toNat s2) b) := by
  have f0 : (gX (M0 L V b) s0 2 s1 && !Nat.beq s0 0) = true := gs_of (gx_of (show aT _ _ = _ from t_s0) g0) z_s0
  have hG : ((gX (M0 L V b) s0 2 s1 && !Nat.beq s0 0) && true) = true := an f0 rfl
  show some ((gX (M0 L V b) s0 2 s1 && !Nat.beq s0 0) && true, _) = _
  rw [hG]
  try rfl

theorem J207_26 (L : Nat) (V : Mv) (b : Bool) (x1 : Int) (x2 : Int) (x3 : Int) (x4 : Int) (x5 : Int) (s0 : Nat) (s1 : Int) (n_s0 : Nat) (t_s0 : TT L s0 = (2, n_s0)) (g0 : in32 x3) : nxs 3 207 26 [some (.inr (.inr 120)), some (.inl x1), some (.inl x2), some (.inl x3), some (.inl x4), some (.inl x5)] [.inl s1, .inr (.inr s0)] (M0 L V b) = some (true, cond (decide (x3 = (-9))) 42 32, [some (.inr (.inr 120)), some (.inl x1), some (.inl x2), some (.inl x3), some (.inl x4), some (.inl x5)], [.inl s1, .inr (.inr s0)], M0 L V b) := by
  have f0 : (r32 x3 && r32 (-9)) = true := rr32_of g0 (by decide)
  have hG : ((r32 x3 && r32 (-9)) && true) = true := an f0 rfl
  show some ((r32 x3 && r32 (-9)) && true, _) = _
  rw [hG]
  try rfl

theorem J207_32 (L : Nat) (V : Mv) (b : Bool) (x1 : Int) (x2 : Int) (x3 : Int) (x4 : Int) (x5 : Int) (s0 : Nat) (s1 : Int) (n_s0 : Nat) (t_s0 : TT L s0 = (2, n_s0)) (g0 : in32 x5) (g1 : in32 x3) : nxs 3 207 32 [some (.inr (.inr 120)), some (.inl x1), some (.inl x2), some (.inl x3), some (.inl x4), some (.inl x5)] [.inl s1, .inr (.inr s0)] (M0 L V b) = some (true, cond (decide (x5 = x3)) 42 38, [some (.inr (.inr 120)), some (.inl x1), some (.inl x2), some (.inl x3), some (.inl x4), some (.inl x5)], [.inl s1, .inr (.inr s0)], M0 L V b) := by
  have f0 : (r32 x5 && r32 x3) = true := rr32_of g0 g1
  have hG : ((r32 x5 && r32 x3) && true) = true := an f0 rfl
  show some ((r32 x5 && r32 x3) && true, _) = _
  rw [hG]
  try rfl

theorem J207_38 (L : Nat) (V : Mv) (b : Bool) (x1 : Int) (x2 : Int) (x3 : Int) (x4 : Int) (x5 : Int) (s0 : Nat) (s1 : Int) (n_s0 : Nat) (t_s0 : TT L s0 = (2, n_s0)) : nxs 2 207 38 [some (.inr (.inr 120)), some (.inl x1), some (.inl x2), some (.inl x3), some (.inl x4), some (.inl x5)] [.inl s1, .inr (.inr s0)] (M0 L V b) = some (true, 51, [some (.inr (.inr 120)), some (.inl x1), some (.inl x2), some (.inl x3), some (.inl x4), some (.inl x5)], [.inr (.inl 0), .inl s1, .inr (.inr s0)], M0 L V b) := by
  rfl

theorem J207_42 (L : Nat) (V : Mv) (b : Bool) (x1 : Int) (x2 : Int) (x3 : Int) (x4 : Int) (x5 : Int) (s0 : Nat) (s1 : Int) (n_s0 : Nat) (t_s0 : TT L s0 = (2, n_s0)) (g0 : 0 ≤ x2 + x5 ∧ x2 + x5 < 48) : nxs 6 207 42 [some (.inr (.inr 120)), some (.inl x1), some (.inl x2), some (.inl x3), some (.inl x4), some (.inl x5)] [.inl s1, .inr (.inr s0)] (M0 L V b) = some (true, 51, [some (.inr (.inr 120)), some (.inl x1), some (.inl x2), some (.inl x3), some (.inl x4), some (.inl x5)], [.inr (.inl (V 142 (x2 + x5).toNat)), .inl s1, .inr (.inr s0)], M0 L V b) := by
  have f0 : gX (M0 L V b) 142 2 (x2 + x5) = true := gx_of rfl g0
  have hG : (gX (M0 L V b) 142 2 (x2 + x5) && true) = true := an f0 rfl
  show some (gX (M0 L V b) 142 2 (x2 + x5) && true, _) = _
  rw [hG]
  try rfl

theorem J207_51 (L : Nat) (V : Mv) (b : Bool) (x1 : Int) (x2 : Int) (x3 : Int) (x4 : Int) (x5 : Int) (s0 : Nat) (s1 : Int) (s2 : Int) (n_s0 : Nat) (t_s0 : TT L s0 = (2, n_s0)) (g0 : 0 ≤ s1 ∧ s1 < (n_s0 : Int)) (z_s0 : s0 ≠ 0) : nxs 3 207 51 [some (.inr (.inr 120)), some (.inl x1), some (.inl x2), some (.inl x3), some (.inl x4), some (.inl x5)] [.inr (.inl s2), .inl s1, .inr (.inr s0)] (M0 L V b) = some (true, 3, [some (.inr (.inr 120)), some (.inl x1), some (.inl x2), some (.inl x3), some (.inl x4), some (.inl (x5 + 1))], [], M0 L (uV V s0 (s1).toNat s2) b) := by
  have f0 : (gX (M0 L V b) s0 2 s1 && !Nat.beq s0 0) = true := gs_of (gx_of (show aT _ _ = _ from t_s0) g0) z_s0
  have hG : ((gX (M0 L V b) s0 2 s1 && !Nat.beq s0 0) && true) = true := an f0 rfl
  show some ((gX (M0 L V b) s0 2 s1 && !Nat.beq s0 0) && true, _) = _
  rw [hG]
  try rfl

theorem J207_91 (L : Nat) (V : Mv) (b : Bool) (x1 : Int) (x2 : Int) (x3 : Int) (x4 : Int) (x5 : Int) (s0 : Nat) (s1 : Int) (n_s0 : Nat) (t_s0 : TT L s0 = (2, n_s0)) : nxs 2 207 91 [some (.inr (.inr 120)), some (.inl x1), some (.inl x2), some (.inl x3), some (.inl x4), some (.inl x5)] [.inl s1, .inr (.inr s0)] (M0 L V b) = some (true, 93, [some (.inr (.inr 120)), some (.inl x1), some (.inl x2), some (.inl x3), some (.inl x4), some (.inl x5)], [.inl x2, .inr (.inr 120), .inl s1, .inr (.inr s0)], M0 L V b) := by
  rfl

theorem J207_96 (L : Nat) (V : Mv) (b : Bool) (x1 : Int) (x2 : Int) (x3 : Int) (x4 : Int) (x5 : Int) (s0 : Nat) (s1 : Int) (s2 : Int) (n_s0 : Nat) (t_s0 : TT L s0 = (2, n_s0)) : nxs 1 207 96 [some (.inr (.inr 120)), some (.inl x1), some (.inl x2), some (.inl x3), some (.inl x4), some (.inl x5)] [.inr (.inl s2), .inl s1, .inr (.inr s0)] (M0 L V b) = some (true, 107, [some (.inr (.inr 120)), some (.inl x1), some (.inl x2), some (.inl x3), some (.inl x4), some (.inl x5)], [.inr (.inl s2), .inl s1, .inr (.inr s0)], M0 L V b) := by
  rfl

theorem J207_99 (L : Nat) (V : Mv) (b : Bool) (x1 : Int) (x2 : Int) (x3 : Int) (x4 : Int) (x5 : Int) (s0 : Nat) (s1 : Int) (n_s0 : Nat) (t_s0 : TT L s0 = (2, n_s0)) (g0 : 0 ≤ x2 + x3 ∧ x2 + x3 < 48) : nxs 6 207 99 [some (.inr (.inr 120)), some (.inl x1), some (.inl x2), some (.inl x3), some (.inl x4), some (.inl x5)] [.inl s1, .inr (.inr s0)] (M0 L V b) = some (true, 107, [some (.inr (.inr 120)), some (.inl x1), some (.inl x2), some (.inl x3), some (.inl x4), some (.inl x5)], [.inr (.inl (V 142 (x2 + x3).toNat)), .inl s1, .inr (.inr s0)], M0 L V b) := by
  have f0 : gX (M0 L V b) 142 2 (x2 + x3) = true := gx_of rfl g0
  have hG : (gX (M0 L V b) 142 2 (x2 + x3) && true) = true := an f0 rfl
  show some (gX (M0 L V b) 142 2 (x2 + x3) && true, _) = _
  rw [hG]
  try rfl

theorem J207_107 (L : Nat) (V : Mv) (b : Bool) (x1 : Int) (x2 : Int) (x3 : Int) (x4 : Int) (x5 : Int) (s0 : Nat) (s1 : Int) (s2 : Int) (n_s0 : Nat) (t_s0 : TT L s0 = (2, n_s0)) (g0 : 0 ≤ s1 ∧ s1 < (n_s0 : Int)) (z_s0 : s0 ≠ 0) : nxs 1 207 107 [some (.inr (.inr 120)), some (.inl x1), some (.inl x2), some (.inl x3), some (.inl x4), some (.inl x5)] [.inr (.inl s2), .inl s1, .inr (.inr s0)] (M0 L V b) = some (true, 108, [some (.inr (.inr 120)), some (.inl x1), some (.inl x2), some (.inl x3), some (.inl x4), some (.inl x5)], [], M0 L (uV V s0 (s1).toNat s2) b) := by
  have f0 : (gX (M0 L V b) s0 2 s1 && !Nat.beq s0 0) = true := gs_of (gx_of (show aT _ _ = _ from t_s0) g0) z_s0
  have hG : ((gX (M0 L V b) s0 2 s1 && !Nat.beq s0 0) && true) = true := an f0 rfl
  show some ((gX (M0 L V b) s0 2 s1 && !Nat.beq s0 0) && true, _) = _
  rw [hG]
  try rfl

theorem J212_103 (L : Nat) (V : Mv) (b : Bool) (x1 : Int) (x2 : Int) (x3 : Int) (x4 : Int) (x5 : Int) (x6 : Int) (s0 : Nat) (s1 : Int) (s2 : Int) (s3 : Int) (s4 : Int) (n_s0 : Nat) (t_s0 : TT L s0 = (2, n_s0)) (g0 : in32 s4) (g1 : in32 x3) : nxs 4 212 103 [some (.inr (.inr 120)), some (.inl x1), some (.inl x2), some (.inl x3), some (.inl x4), some (.inl x5), some (.inl x6)] [.inl s4, .inr (.inl s3), .inr (.inl s2), .inl s1, .inr (.inr s0)] (M0 L V b) = some (true, cond (decide (x3 = 0)) 114 109, [some (.inr (.inr 120)), some (.inl x1), some (.inl x2), some (.inl x3), some (.inl x4), some (.inl x5), some (.inl x6)], [.inr (.inl (s3 * s4)), .inr (.inl s2), .inl s1, .inr (.inr s0)], M0 L V b) := by
  have f0 : r32 s4 = true := r32_of g0
  have f1 : r32 x3 = true := r32_of g1
  have hG : (r32 s4 && (r32 x3 && true)) = true := an f0 (an f1 rfl)
  show some (r32 s4 && (r32 x3 && true), _) = _
  rw [hG]
  try rfl

theorem J212_109 (L : Nat) (V : Mv) (b : Bool) (x1 : Int) (x2 : Int) (x3 : Int) (x4 : Int) (x5 : Int) (x6 : Int) (s0 : Nat) (s1 : Int) (s2 : Int) (s3 : Int) (n_s0 : Nat) (t_s0 : TT L s0 = (2, n_s0)) : nxs 2 212 109 [some (.inr (.inr 120)), some (.inl x1), some (.inl x2), some (.inl x3), some (.inl x4), some (.inl x5), some (.inl x6)] [.inr (.inl s3), .inr (.inl s2), .inl s1, .inr (.inr s0)] (M0 L V b) = some (true, 119, [some (.inr (.inr 120)), some (.inl x1), some (.inl x2), some (.inl x3), some (.inl x4), some (.inl x5), some (.inl x6)], [.inl x6, .inr (.inl s3), .inr (.inl s2), .inl s1, .inr (.inr s0)], M0 L V b) := by
  rfl

theorem J212_114 (L : Nat) (V : Mv) (b : Bool) (x1 : Int) (x2 : Int) (x3 : Int) (x4 : Int) (x5 : Int) (x6 : Int) (s0 : Nat) (s1 : Int) (s2 : Int) (s3 : Int) (n_s0 : Nat) (t_s0 : TT L s0 = (2, n_s0)) : nxs 3 212 114 [some (.inr (.inr 120)), some (.inl x1), some (.inl x2), some (.inl x3), some (.inl x4), some (.inl x5), some (.inl x6)] [.inr (.inl s3), .inr (.inl s2), .inl s1, .inr (.inr s0)] (M0 L V b) = some (true, 119, [some (.inr (.inr 120)), some (.inl x1), some (.inl x2), some (.inl x3), some (.inl x4), some (.inl x5), some (.inl x6)], [.inl (10 - x6), .inr (.inl s3), .inr (.inl s2), .inl s1, .inr (.inr s0)], M0 L V b) := by
  rfl

theorem J212_119 (L : Nat) (V : Mv) (b : Bool) (x1 : Int) (x2 : Int) (x3 : Int) (x4 : Int) (x5 : Int) (x6 : Int) (s0 : Nat) (s1 : Int) (s2 : Int) (s3 : Int) (s4 : Int) (n_s0 : Nat) (t_s0 : TT L s0 = (2, n_s0)) (g0 : in32 s4) (g1 : 0 ≤ s1 ∧ s1 < (n_s0 : Int)) (z_s0 : s0 ≠ 0) : nxs 6 212 119 [some (.inr (.inr 120)), some (.inl x1), some (.inl x2), some (.inl x3), some (.inl x4), some (.inl x5), some (.inl x6)] [.inl s4, .inr (.inl s3), .inr (.inl s2), .inl s1, .inr (.inr s0)] (M0 L V b) = some (true, 47, [some (.inr (.inr 120)), some (.inl x1), some (.inl x2), some (.inl x3), some (.inl x4), some (.inl (x5 + 1)), some (.inl x6)], [], M0 L (uV V s0 (s1).toNat (s2 + (s3 * s4))) b) := by
  have f0 : r32 s4 = true := r32_of g0
  have f1 : (gX (M0 L V b) s0 2 s1 && !Nat.beq s0 0) = true := gs_of (gx_of (show aT _ _ = _ from t_s0) g1) z_s0
  have hG : (r32 s4 && ((gX (M0 L V b) s0 2 s1 && !Nat.beq s0 0) && true)) = true := an f0 (an f1 rfl)
  show some (r32 s4 && ((gX (M0 L V b) s0 2 s1 && !Nat.beq s0 0) && true), _) = _
  rw [hG]
  try rfl

theorem J220_259 (L : Nat) (V : Mv) (b : Bool) (x1 : Int) (x2 : Int) (x3 : Int) (x4 : Int) (x5 : Int) (x6 : Int) (x8 : Int) (x9 : Int) (x10 : Int) (x11 : Int) (x12 : Int) (x14 : Int) (x16 : Int) (s0 : Nat) (s1 : Int) (n_s0 : Nat) (t_s0 : TT L s0 = (2, n_s0)) : nxs 2 220 259 [some (.inr (.inr 120)), some (.inl x1), some (.inl x2), some (.inl x3), some (.inl x4), some (.inl x5), some (.inr (.inl x6)), none, some (.inl x8), some (.inl x9), some (.inl x10), some (.inl x11), some (.inr (.inl x12)), none, some (.inr (.inl x14)), none, some (.inl x16)] [.inl s1, .inr (.inr s0)] (M0 L V b) = some (true, 266, [some (.inr (.inr 120)), some (.inl x1), some (.inl x2), some (.inl x3), some (.inl x4), some (.inl x5), some (.inr (.inl x6)), none, some (.inl x8), some (.inl x9), some (.inl x10), some (.inl x11), some (.inr (.inl x12)), none, some (.inr (.inl x14)), none, some (.inl x16)], [.inr (.inl x14), .inl s1, .inr (.inr s0)], M0 L V b) := by
  rfl

theorem J220_264 (L : Nat) (V : Mv) (b : Bool) (x1 : Int) (x2 : Int) (x3 : Int) (x4 : Int) (x5 : Int) (x6 : Int) (x8 : Int) (x9 : Int) (x10 : Int) (x11 : Int) (x12 : Int) (x14 : Int) (x16 : Int) (s0 : Nat) (s1 : Int) (n_s0 : Nat) (t_s0 : TT L s0 = (2, n_s0)) : nxs 1 220 264 [some (.inr (.inr 120)), some (.inl x1), some (.inl x2), some (.inl x3), some (.inl x4), some (.inl x5), some (.inr (.inl x6)), none, some (.inl x8), some (.inl x9), some (.inl x10), some (.inl x11), some (.inr (.inl x12)), none, some (.inr (.inl x14)), none, some (.inl x16)] [.inl s1, .inr (.inr s0)] (M0 L V b) = some (true, 266, [some (.inr (.inr 120)), some (.inl x1), some (.inl x2), some (.inl x3), some (.inl x4), some (.inl x5), some (.inr (.inl x6)), none, some (.inl x8), some (.inl x9), some (.inl x10), some (.inl x11), some (.inr (.inl x12)), none, some (.inr (.inl x14)), none, some (.inl x16)], [.inr (.inl x12), .inl s1, .inr (.inr s0)], M0 L V b) := by
  rfl

theorem J220_266 (L : Nat) (V : Mv) (b : Bool) (x1 : Int) (x2 : Int) (x3 : Int) (x4 : Int) (x5 : Int) (x6 : Int) (x8 : Int) (x9 : Int) (x10 : Int) (x11 : Int) (x12 : Int) (x14 : Int) (x16 : Int) (s0 : Nat) (s1 : Int) (s2 : Int) (n_s0 : Nat) (t_s0 : TT L s0 = (2, n_s0)) (g0 : 0 ≤ s1 ∧ s1 < (n_s0 : Int)) (z_s0 : s0 ≠ 0) (g1 : in32 x10) (g2 : in32 x2) : nxs 5 220 266 [some (.inr (.inr 120)), some (.inl x1), some (.inl x2), some (.inl x3), some (.inl x4), some (.inl x5), some (.inr (.inl x6)), none, some (.inl x8), some (.inl x9), some (.inl x10), some (.inl x11), some (.inr (.inl x12)), none, some (.inr (.inl x14)), none, some (.inl x16)] [.inr (.inl s2), .inl s1, .inr (.inr s0)] (M0 L V b) = some (true, cond (!decide (x10 = x2)) 297 274, [some (.inr (.inr 120)), some (.inl x1), some (.inl x2), some (.inl x3), some (.inl x4), some (.inl x5), some (.inr (.inl x6)), none, some (.inl x8), some (.inl x9), some (.inl x10), some (.inl x11), some (.inr (.inl x12)), none, some (.inr (.inl x14)), none, some (.inl x16)], [.inr (.inr 120)], M0 L (uV V s0 (s1).toNat s2) b) := by
  have f0 : (gX (M0 L V b) s0 2 s1 && !Nat.beq s0 0) = true := gs_of (gx_of (show aT _ _ = _ from t_s0) g0) z_s0
  have f1 : (r32 x10 && r32 x2) = true := rr32_of g1 g2
  have hG : ((gX (M0 L V b) s0 2 s1 && !Nat.beq s0 0) && ((r32 x10 && r32 x2) && true)) = true := an f0 (an f1 rfl)
  show some ((gX (M0 L V b) s0 2 s1 && !Nat.beq s0 0) && ((r32 x10 && r32 x2) && true), _) = _
  rw [hG]
  try rfl

