/-! the 38 calls, 8: chance (specs10.py) -/
theorem Wt.sum {f : Nat → Int} {n : Int} (h : Wt f n) : 0 < sumN f 8 ∧ sumN f 8 ≤ 8000000000000000 := by
  have b0 := h.b 0 (by omega)
  have b1 := h.b 1 (by omega)
  have b2 := h.b 2 (by omega)
  have b3 := h.b 3 (by omega)
  have b4 := h.b 4 (by omega)
  have b5 := h.b 5 (by omega)
  have b6 := h.b 6 (by omega)
  have b7 := h.b 7 (by omega)
  obtain ⟨a, ha, hn⟩ := h.s
  show 0 < 0 + f 0 + f 1 + f 2 + f 3 + f 4 + f 5 + f 6 + f 7 ∧ 0 + f 0 + f 1 + f 2 + f 3 + f 4 + f 5 + f 6 + f 7 ≤ 8000000000000000
  have : a = 0 ∨ a = 1 ∨ a = 2 ∨ a = 3 ∨ a = 4 ∨ a = 5 ∨ a = 6 ∨ a = 7 := by omega
  rcases this with rfl | rfl | rfl | rfl | rfl | rfl | rfl | rfl
  all_goals omega
theorem Inv.f107 {N : Nat} {V : Mv} (h : Inv N V) (x y : Int) : Inv N (uV (uV V 107 0 x) 107 1 y) := by
  refine h.frame (fun a ha => ?_) rfl rfl
  unfold dI at ha
  rw [uV_ne (by omega), uV_ne (by omega)]
theorem op_chance (a0 a1 a2 : Int) (h0 : in32 a0) (h1 : in32 a1) (h2 : a2 = 0 ∨ a2 = 1) : OpJ 19 166 [.inl a0, .inl a1, .inl a2] := by
  intro L N V b hL hN hI
  have hi := hI.1
  refine Ev.blk 3 (B19_0 _ _ _ _ _ _) rfl ?_
  refine Ev.call rfl rfl rfl (x_isWearC (d := 27) h0 h1 (fun i hi2 => hi.bdC.w hi2)) (by omega) ?_
  rintro v V' b' ⟨rfl, rfl, rfl⟩
  refine Ev.blk 1 (B19_6 _ _ _ _ _ _ _ (b01_in _)) rfl ?_
  refine Ev.ite (fun q => ?_) (fun q => ?_)
  · replace q := b01_1 (nd_t q)
    obtain ⟨i, rfl⟩ : ∃ k : Nat, a0 = (k : Int) := ⟨a0.toNat, by omega⟩
    obtain ⟨a, rfl⟩ : ∃ k : Nat, a1 = (k : Int) := ⟨a1.toNat, by omega⟩
    have hk := hi.kd i (by omega)
    have e1 := hk.w8
    have e2 := hk.w
    rw [Int.toNat_natCast] at q
    have hT : isT (21 + 15 * i) := k_12 (i := (i : Int)) (by omega)
    have hv := hi.tv i (by omega)
    have hs := hv.sum
    have hb : 0 ≤ V' 130 (8 * i + a) ∧ V' 130 (8 * i + a) ≤ 1000000000000000 := hv.b a (by omega)
    have ht : V' (21 + 15 * i + 1) a = V' 130 (8 * i + a) := by
      rw [show 21 + 15 * i + 1 = 22 + 15 * i by omega]
      exact hi.th i a (by omega) (by omega)
    have hS : sumN (V' (21 + 15 * i + 1)) 8 = sumN (fun j => V' 130 (8 * i + j)) 8 := by
      rw [show 21 + 15 * i + 1 = 22 + 15 * i by omega]
      exact sumN_congr 8 (fun j hj => hi.th i j (by omega) hj)
    obtain ⟨x, hx⟩ : ∃ x : Nat, V' 130 (8 * i + a) = (x : Int) := ⟨(V' 130 (8 * i + a)).toNat, by omega⟩
    obtain ⟨y, hy⟩ : ∃ y : Nat, sumN (fun j => V' 130 (8 * i + j)) 8 = (y : Int) := ⟨(sumN (fun j => V' 130 (8 * i + j)) 8).toNat, by omega⟩
    rw [hy] at hs hS
    rw [hx] at hb ht
    refine Ev.blk 13 (B19_13 _ _ _ _ _ _ ⟨by omega, by omega⟩ ⟨by omega, by omega⟩) rfl ?_
    rw [Int.toNat_natCast, Int.toNat_natCast, ht]
    refine Ev.call rfl rfl (vg rfl rfl (isT_0 hT) (congrArg Prod.fst (isT_T hT)) rfl) (x_sumC (d := 28) hT) (by omega) ?_
    rintro v V1 b1 ⟨rfl, rfl, rfl⟩
    rw [hS]
    have hF : isF 107 := by unfold isF; decide
    refine Ev.call rfl rfl rfl (x_become (d := 27) (a := 107) (x := x) (y := y) hF (by omega) (by omega) (by omega)) (by omega) ?_
    rintro v V2 b2 ⟨rfl, rfl, rfl⟩
    refine Ev.blk 3 (B19_41 _ _ _ _ _ _ _) rfl ?_
    refine Ev.call rfl rfl rfl (x_toldC (d := 28) hF h2) (by omega) ?_
    rintro v V3 b3 ⟨rfl, rfl, rfl⟩
    have hi2 := hi.f107 ((x / Nat.gcd x y : Nat) : Int) ((y / Nat.gcd x y : Nat) : Int)
    have d1 := Nat.div_le_self x (Nat.gcd x y)
    have d2 := Nat.div_le_self y (Nat.gcd x y)
    refine Ev.ret rfl rfl rfl rfl ⟨(if a2 = 0 then ((y / Nat.gcd x y : Nat) : Int) else ((x / Nat.gcd x y : Nat) : Int)), rfl, ?_, rfl, ?_⟩
    · have nn : ∀ p : Nat, p ≤ 8000000000000000 → in64 (p : Int) := fun p hp => ⟨by omega, by omega⟩
      split
      · exact nn _ (Nat.le_trans d2 (by omega))
      · exact nn _ (Nat.le_trans d1 (by omega))
    refine Ev.blk 3 (B166_0 _ _ _ _ _ _) rfl ?_
    refine Ev.call rfl rfl rfl (x_isWearR (d := 26) hi2.bdR h0 h1) (by omega) ?_
    rintro v V4 b4 ⟨rfl, rfl, rfl⟩
    refine Ev.blk 1 (B166_6 _ _ _ _ _ _ _ (b01_in _)) rfl ?_
    refine Ev.ite (fun z => absurd (show (0 ≤ (i : Int) ∧ (i : Int) ≤ 2) ∧ 0 ≤ (a : Int) ∧ (a : Int) ≤ V1 121 i - 1 by omega) (b01_0 (of_decide_eq_true z))) (fun _ => ?_)
    refine Ev.blk 10 (B166_9 _ _ _ _ _ _ ⟨by omega, by omega⟩) rfl ?_
    refine Ev.call rfl rfl rfl (x_sumR (d := 28) (m := i) (by omega)) (by omega) ?_
    rintro v V5 b5 ⟨rfl, rfl, rfl⟩
    refine Ev.blk 1 (B166_25 _ _ _ _ _ _ _ _) rfl ?_
    have k1 : uV (uV V1 107 0 ((x / Nat.gcd x y : Nat) : Int)) 107 1 ((y / Nat.gcd x y : Nat) : Int) 130 = V1 130 := by rw [uV_ne (by omega), uV_ne (by omega)]
    rw [k1, show (8 * (i : Int) + (a : Int)).toNat = 8 * i + a by omega, hx, hy]
    refine Ev.call rfl rfl rfl (x_toldR (d := 27) (x := x) (y := y) (by omega) (by omega) (by omega) h2) (by omega) ?_
    rintro v V6 b6 ⟨rfl, rfl, rfl⟩
    refine Ev.blk 1 (B166_29 _ _ _ _ _ _ _) rfl ?_
    exact Ev.ret rfl rfl rfl rfl ⟨rfl, hi2.more (Nat.le_succ N), hI.2⟩
  · replace q := b01_0 (nd_f q)
    refine Ev.blk 1 (B19_9 _ _ _ _ _ _) rfl ?_
    refine Ev.ret rfl rfl rfl rfl ⟨_, rfl, by decide, rfl, ?_⟩
    refine Ev.blk 3 (B166_0 _ _ _ _ _ _) rfl ?_
    refine Ev.call rfl rfl rfl (x_isWearR (d := 26) hi.bdR h0 h1) (by omega) ?_
    rintro v V4 b4 ⟨rfl, rfl, rfl⟩
    refine Ev.blk 1 (B166_6 _ _ _ _ _ _ _ (b01_in _)) rfl ?_
    refine Ev.ite (fun _ => ?_) (fun z => ?_)
    · refine Ev.blk 1 (B166_32 _ _ _ _ _ _) rfl ?_
      exact Ev.ret rfl rfl rfl rfl ⟨rfl, hi.more (Nat.le_succ N), hI.2⟩
    · replace z := b01_1 (of_decide_eq_false z)
      have e2 := (hi.kd a0.toNat (by omega)).w
      exact absurd q (by rw [e2]; omega)
