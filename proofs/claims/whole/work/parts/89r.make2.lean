/-! the 38 calls: make, 2 (specs56.py) -/
def MK (m y i : Nat) : Prop := (14 + 15 * m ≤ y ∧ y ≤ 20 + 15 * m) ∨ (y = 22 + 15 * m ∧ i < 8) ∨ y = 24 + 15 * m ∨ (y = 62 ∧ i = m)
theorem Wt_one {n : Int} (hn : 2 ≤ n) {f : Nat → Int} (hf : ∀ a, a < 8 → f a = one1 0 a) : Wt f n := by
  have o1 : ∀ a : Nat, one1 0 a = 0 ∨ one1 0 a = 1 := fun a => by
    unfold one1
    split
    · exact Or.inr rfl
    · exact Or.inl rfl
  refine Wt.mk (fun a ha => ?_) (fun a ha h => ?_) ⟨0, by omega, ?_⟩
  · rw [hf a ha]
    have := o1 a
    omega
  · rw [hf a ha]
    exact if_neg (by omega)
  · rw [hf 0 (by omega)]
    decide
theorem Wt_congr {f g : Nat → Int} {n : Int} (h : Wt f n) (e : ∀ a, a < 8 → g a = f a) : Wt g n := by
  refine Wt.mk (fun a ha => ?_) (fun a ha hn => ?_) ?_
  · rw [e a ha]
    exact h.b a ha
  · rw [e a ha]
    exact h.z a ha hn
  · obtain ⟨a, ha, hz⟩ := h.s
    exact ⟨a, ha, by rw [e a ha]; exact hz⟩
theorem Inv.make {N m : Nat} {V W : Mv} (h : Inv N V) (hm : m < 3) (k : Kd W (14 + 15 * m) m) (fr : ∀ y i, ¬ RDC y i → ¬ MC m y i → ¬ MK m y i → W y i = V y i) (th : ∀ a, a < 8 → W (22 + 15 * m) a = one1 0 a ∧ W 130 (8 * m + a) = one1 0 a) (md : W 62 m = V 62 m + 1 ∧ W 129 m = V 129 m + 1) (kn : W (24 + 15 * m) 6 = 0) : Inv (N + 1) W := by
  unfold RDC BDC MC MK at fr
  have F : ∀ y, ¬ (y = 2 ∨ (4 ≤ y ∧ y ≤ 10) ∨ (14 ≤ y ∧ y ≤ 54) ∨ y = 62 ∨ (120 ≤ y ∧ y ≤ 127) ∨ y = 129 ∨ y = 130) → W y = V y := fun y hy => funext (fun k => fr y k (by omega) (by omega) (by omega))
  have e1 : ∀ i, i < 3 → i ≠ m → W 121 i = V 121 i := fun i hi hne => fr 121 i (by omega) (by omega) (by omega)
  have e129 : ∀ i, i < 3 → i ≠ m → W 129 i = V 129 i := fun i hi hne => fr 129 i (by omega) (by omega) (by omega)
  apply Inv.mk
  · intro i hi
    by_cases q : i = m
    · subst q
      exact k
    refine (h.kd i hi).mv ?_ ?_ ?_ ?_ ?_ ?_ ?_ (e1 i hi q) (fr 122 i (by omega) (by omega) (by omega)) ?_ ?_ ?_ ?_ ?_
    · intro k hk; exact fr _ _ (by omega) (by omega) (by omega)
    · intro k hk; exact fr _ _ (by omega) (by omega) (by omega)
    · intro k hk; exact fr _ _ (by omega) (by omega) (by omega)
    · intro k hk; exact fr _ _ (by omega) (by omega) (by omega)
    · intro k hk; exact fr _ _ (by omega) (by omega) (by omega)
    · intro k hk; exact fr _ _ (by omega) (by omega) (by omega)
    · intro k hk; exact fr _ _ (by omega) (by omega) (by omega)
    · intro k hk; exact fr _ _ (by omega) (by omega) (by omega)
    · intro k hk; exact fr _ _ (by omega) (by omega) (by omega)
    · intro k hk; exact fr _ _ (by omega) (by omega) (by omega)
    · intro k hk; exact fr _ _ (by omega) (by omega) (by omega)
    · intro k hk; exact fr _ _ (by omega) (by omega) (by omega)
  · intro i a hi ha
    by_cases q : i = m
    · subst q
      rw [(th a ha).1, (th a ha).2]
    · rw [fr (22 + 15 * i) a (by omega) (by omega) (by omega), fr 130 (8 * i + a) (by omega) (by omega) (by omega)]
      exact h.th i a hi ha
  · intro i hi
    by_cases q : i = m
    · subst q
      exact Wt_one k.w2 (fun a ha => (th a ha).2)
    · rw [e1 i hi q]
      exact Wt_congr (h.tv i hi) (fun a ha => fr 130 (8 * i + a) (by omega) (by omega) (by omega))
  · intro r a hr ha
    rw [F (64 + r) (by omega), F 135 (by omega)]
    exact h.ru r a hr ha
  · rw [fr 2 0 (by omega) (by omega) (by omega), fr 120 10 (by omega) (by omega) (by omega)]
    exact h.tl
  · rw [F 3 (by omega), F 128 (by omega)]
    exact h.tb
  · rw [F 69 (by omega), fr 120 37 (by omega) (by omega) (by omega)]
    exact h.ll
  · rw [F 70 (by omega), F 145 (by omega)]
    exact h.lr
  · intro i hi
    have hmd := h.md i hi
    by_cases q : i = m
    · subst q
      rw [md.1, md.2]
      omega
    · rw [fr 62 i (by omega) (by omega) (by omega), e129 i hi q]
      omega
  · intro s hs
    rw [F (72 + 14 * s) (by omega), F 146 (by omega)]
    exact h.us s hs
  · intro s hs
    rw [F 146 (by omega)]
    intro q
    have g := h.sl s hs q
    apply Sl.mk
    · intro i a hi ha
      rw [F (78 + 14 * s + 3 * i) (by omega), F 147 (by omega)]
      exact g.th i a hi ha
    · intro i hi
      have gm := g.md i hi
      rw [F (74 + 14 * s) (by omega), F 150 (by omega)]
      by_cases q : i = m
      · subst q
        rw [md.2]
        omega
      · rw [e129 i hi q]
        exact gm
    · intro i hi
      have gm := g.md i hi
      rw [F 150 (by omega), F 147 (by omega)]
      by_cases q : i = m
      · subst q
        rw [md.2]
        intro e
        omega
      · rw [e129 i hi q, e1 i hi q]
        exact g.ok i hi
    · rw [F (75 + 14 * s) (by omega), F 148 (by omega)]
      exact g.ll
    · intro j hj
      rw [F (76 + 14 * s) (by omega), F 149 (by omega)]
      exact g.lr j hj
  · intro i hi
    by_cases q : i = m
    · subst q
      exact Or.inl kn
    · exact (h.br i hi).frame (fr _ _ (by omega) (by omega) (by omega)) (fr _ _ (by omega) (by omega) (by omega)) (fr _ _ (by omega) (by omega) (by omega)) (fr _ _ (by omega) (by omega) (by omega)) ⟨e1 i hi q, fun k hk => (fr _ _ (by omega) (by omega) (by omega)), fun k hk => (fr _ _ (by omega) (by omega) (by omega)), fun k hk => ⟨(fr _ _ (by omega) (by omega) (by omega)), (fr _ _ (by omega) (by omega) (by omega))⟩⟩
theorem x_forget {L d : Nat} {V : Mv} {b : Bool} {a : Nat} (ha : isB a) : Ex L d 105 [.inr (.inr a)] V b (Ans none (uV V a 6 0) b) := by
  refine Ev.blk 3 (B105_0 _ _ _ _ ha) rfl ?_
  exact Ev.ret rfl rfl rfl rfl ⟨rfl, rfl, rfl⟩
theorem op_make (a0 : Int) (h0 : in32 a0) : OpI 5 144 [.inl a0] := by
  intro L N V b hL hN hI
  have hi := hI.1
  obtain ⟨hB, hn⟩ := hi.txt
  have htl := hi.tl
  obtain ⟨n, hn2⟩ : ∃ n, n = (V 120 10).toNat := ⟨_, rfl⟩
  rw [← hn2] at hB hn
  refine Ev.blk 1 (B5_0 _ _ _ _) rfl ?_
  refine Ev.call rfl rfl rfl (x_isMachineC (d := 27) h0) (by omega) ?_
  rintro v V' b' ⟨rfl, h_, g_⟩
  subst V' b'
  refine Ev.blk 1 (B5_4 _ _ _ _ _ (b01_in _)) rfl ?_
  refine Ev.ite (fun q => ?_) (fun q => ?_)
  · replace q := b01_1 (nd_t q)
    obtain ⟨m, rfl⟩ : ∃ m : Nat, a0 = (m : Int) := ⟨a0.toNat, by omega⟩
    have hm : m < 3 := by omega
    refine Ev.blk 4 (B5_9 _ _ _ _) rfl ?_
    refine Ev.call rfl rfl rfl (x_readC (d := 23) (V1 := V) hB (by rw [htl.1, hn]) (fun i h => (hi.tb i h).1)) (by omega) ?_
    rintro v V1 b1 ⟨rfl, g1, g0, g2⟩
    cases hs : full (V 128) n V with
    | inl f =>
      rw [hs] at g2
      have g2 : v = some (.inl (f : Int)) ∧ f ≤ 300 := g2
      obtain ⟨rfl, hf⟩ := g2
      refine Ev.blk 2 (B5_20 _ _ _ _ _ ⟨by omega, by omega⟩) rfl ?_
      refine Ev.ite (fun z => absurd (of_decide_eq_true z) (by omega)) (fun _ => ?_)
      refine Ev.blk 1 (B5_25 _ _ _ _) rfl ?_
      refine Ev.ret rfl rfl rfl rfl ⟨_, rfl, by decide, g1 0 (by omega), ?_⟩
      have hV1 : ∀ x, 120 ≤ x → V1 x = V x := fun x hx => g1 x (by omega)
      have hR : Ex L 28 135 [.inr (.inr 120)] V1 b1 (RF V1 b1 (full (V 128) n V)) := x_readR (d := 23) (V1 := V) hB (by rw [hV1 120 (by omega)]; exact hn) (fun i h => by rw [hV1 128 (by omega)]) (fun x h1 h2 => hV1 x h1)
      rw [hs] at hR
      refine Ev.blk 1 (B144_0 _ _ _ _) rfl ?_
      refine Ev.call rfl rfl rfl (x_isMachineR (d := 26) h0) (by omega) ?_
      rintro v V' b' ⟨rfl, h_, g_⟩
      subst V' b'
      refine Ev.blk 1 (B144_4 _ _ _ _ _ (b01_in _)) rfl ?_
      refine Ev.ite (fun _ => ?_) (fun z => absurd (show 0 ≤ (m : Int) ∧ (m : Int) ≤ 2 by omega) (b01_0 (nd_f z)))
      refine Ev.blk 1 (B144_9 _ _ _ _) rfl ?_
      refine Ev.call rfl rfl rfl hR (by omega) ?_
      rintro v V2 b2 ⟨rfl, f1, f2⟩
      have f2 : v = some (.inl (f : Int)) := f2
      subst f2
      refine Ev.blk 2 (B144_13 _ _ _ _ _ ⟨by omega, by omega⟩) rfl ?_
      refine Ev.ite (fun z => absurd (of_decide_eq_true z) (by omega)) (fun _ => ?_)
      refine Ev.blk 1 (B144_18 _ _ _ _) rfl ?_
      refine Ev.ret rfl rfl rfl rfl ⟨rfl, (hi.more (Nat.le_succ N)).cell (fun y k hy => ?_), fun k => ?_⟩
      · unfold RDC at hy
        rw [f1 y k (fun z => hy (Or.inl z))]
        by_cases q2 : y = 2
        · subst q2
          obtain rfl : k = 0 := by omega
          exact g0
        · rw [g1 y (by omega)]
      · rw [f1 0 k (by unfold BDC; omega), g1 0 (by omega)]
        exact hI.2 k
    | inr P =>
      rw [hs] at g2
      have g2 : v = some (.inl (-9)) ∧ Kd (cmb V1 P) 4 3 := g2
      obtain ⟨rfl, hKd⟩ := g2
      have hK : isK (14 + 15 * m) := k_11 (i := (m : Int)) (by omega)
      have hT : isT (21 + 15 * m) := k_12 (i := (m : Int)) (by omega)
      have hBR : isB (24 + 15 * m) := k_13 (i := (m : Int)) (by omega)
      have w2 : 2 ≤ P 121 3 := hKd.w2
      have w8 : P 121 3 ≤ 8 := hKd.w8
      have ew : V1 4 0 = P 121 3 := hKd.w
      refine Ev.blk 2 (B5_20 _ _ _ _ _ (by decide)) rfl ?_
      refine Ev.ite (fun _ => ?_) (fun z => absurd z (by decide))
      refine Ev.blk 6 (B5_28 _ _ _ _ ⟨by omega, by omega⟩) rfl ?_
      rw [Int.toNat_natCast]
      refine Ev.call rfl rfl (vg rfl rfl (isK_0 hK) (congrArg Prod.fst (isK_T hK)) rfl) (x_copyK (d := 28) hK (by omega)) (by omega) ?_
      rintro v V2 b2 ⟨rfl, rfl, c0, c1, c2, c3, c4, c5, c6, c7⟩
      refine Ev.blk 5 (B5_41 _ _ _ _ ⟨by omega, by omega⟩) rfl ?_
      rw [Int.toNat_natCast]
      refine Ev.call rfl rfl (vg rfl rfl (isT_0 hT) (congrArg Prod.fst (isT_T hT)) rfl) (x_settleC (d := 28) (w := 0) hT (by decide)) (by omega) ?_
      rintro v V3 b3 ⟨rfl, h3, g3⟩
      subst b3
      refine Ev.blk 4 (B5_51 _ _ _ _ ⟨by omega, by omega⟩) rfl ?_
      rw [Int.toNat_natCast]
      refine Ev.call rfl rfl (vg rfl rfl (isB_0 hBR) (congrArg Prod.fst (isB_T hBR)) rfl) (x_forget (d := 28) hBR) (by omega) ?_
      rintro v V4 b4 ⟨rfl, h4, g4⟩
      subst b4
      refine Ev.blk 11 (B5_60 _ _ _ _ ⟨by omega, by omega⟩) rfl ?_
      rw [Int.toNat_natCast]
      obtain ⟨V5, h5⟩ : ∃ V5, V5 = uV V4 62 m (V4 62 m + 1) := ⟨_, rfl⟩
      rw [← h5]
      have s3 : ∀ y i, ¬ (y = 22 + 15 * m ∧ i < 8) → V3 y i = V2 y i := fun y i hy => by
        rw [h3]
        by_cases q2 : y = 21 + 15 * m + 1
        · subst q2
          exact fil_out (by omega)
        · rw [fil_ne q2]
      have s3t : ∀ a, a < 8 → V3 (22 + 15 * m) a = one1 0 a := fun a ha => by
        rw [h3, show 22 + 15 * m = 21 + 15 * m + 1 by omega]
        exact fil_z ha
      have s5 : ∀ y i, ¬ MK m y i → V5 y i = V1 y i := fun y i hy => by
        unfold MK at hy
        rw [h5, uV_cell, if_neg (by omega), h4, uV_cell, if_neg (by omega), s3 y i (by omega), c7 y (by omega)]
      have s5k : ∀ y i, (14 + 15 * m ≤ y ∧ y ≤ 20 + 15 * m) → V5 y i = V2 y i := fun y i hy => by
        rw [h5, uV_cell, if_neg (by omega), h4, uV_cell, if_neg (by omega), s3 y i (by omega)]
      have s5t : ∀ a, a < 8 → V5 (22 + 15 * m) a = one1 0 a := fun a ha => by
        rw [h5, uV_cell, if_neg (by omega), h4, uV_cell, if_neg (by omega)]
        exact s3t a ha
      have s562 : V5 62 m = V 62 m + 1 := by
        rw [h5, uV_cell, if_pos ⟨rfl, rfl⟩, h4, uV_cell, if_neg (by omega), s3 62 m (by omega), c7 62 (by omega), g1 62 (by omega)]
      have e4 : V5 4 0 = P 121 3 := by
        rw [s5 4 0 (by unfold MK; omega)]
        exact ew
      have hV5 : ∀ x, 120 ≤ x → V5 x = V x := fun x hx => by
        funext i
        rw [s5 x i (by unfold MK; omega), g1 x (by omega)]
      rw [e4]
      refine Ev.ret rfl rfl rfl rfl ⟨_, rfl, ⟨by omega, by omega⟩, ?_, ?_⟩
      · funext i
        rw [s5 0 i (by unfold MK; omega), g1 0 (by omega)]
      have hR : Ex L 28 135 [.inr (.inr 120)] V5 b2 (RF V5 b2 (full (V 128) n V)) := x_readR (d := 23) (V1 := V) hB (by rw [hV5 120 (by omega)]; exact hn) (fun i h => by rw [hV5 128 (by omega)]) (fun x h1 h2 => hV5 x h1)
      rw [hs] at hR
      refine Ev.blk 1 (B144_0 _ _ _ _) rfl ?_
      refine Ev.call rfl rfl rfl (x_isMachineR (d := 26) h0) (by omega) ?_
      rintro v V' b' ⟨rfl, h_, g_⟩
      subst V' b'
      refine Ev.blk 1 (B144_4 _ _ _ _ _ (b01_in _)) rfl ?_
      refine Ev.ite (fun _ => ?_) (fun z => absurd (show 0 ≤ (m : Int) ∧ (m : Int) ≤ 2 by omega) (b01_0 (nd_f z)))
      refine Ev.blk 1 (B144_9 _ _ _ _) rfl ?_
      refine Ev.call rfl rfl rfl hR (by omega) ?_
      rintro v V6 b6 ⟨rfl, f1, f2⟩
      have f2 : v = some (.inl (-9)) ∧ EQ7 V6 P := f2
      obtain ⟨rfl, hE⟩ := f2
      refine Ev.blk 2 (B144_13 _ _ _ _ _ (by decide)) rfl ?_
      refine Ev.ite (fun _ => ?_) (fun z => absurd z (by decide))
      refine (x_mkR hm).weaken ?_
      rintro v V7 b7 ⟨rfl, rfl, m0, m1, m2, m3, m4, m5, m6⟩
      refine ⟨by rw [hE 121 (by omega) (by omega)], ?_, fun k => ?_⟩
      · have hall : ∀ y i, ¬ RDC y i → ¬ MC m y i → ¬ MK m y i → V7 y i = V y i := fun y i h1 h2 h3 => by
          unfold RDC at h1
          rw [m0 y i h2, f1 y i (fun z => h1 (Or.inl z)), s5 y i h3]
          by_cases q2 : y = 2
          · subst q2
            obtain rfl : i = 0 := by omega
            exact g0
          · rw [g1 y (by omega)]
        have kin : ∀ y i, (14 + 15 * m ≤ y ∧ y ≤ 20 + 15 * m) → V7 y i = V2 y i := fun y i hy => by
          rw [m0 y i (by unfold MC; omega), f1 y i (by unfold BDC; omega), s5k y i hy]
        refine hi.make hm ?_ hall (fun a ha => ⟨?_, (m4 a ha).2.2⟩) ⟨?_, ?_⟩ ?_
        · refine hKd.mv (fun k hk => ?_) (fun k hk => ?_) (fun k hk => ?_) (fun k hk => ?_) (fun k hk => ?_) (fun k hk => ?_) (fun k hk => ?_) ?_ ?_ (fun k hk => ?_) (fun k hk => ?_) (fun k hk => ?_) (fun k hk => ?_) (fun k hk => ?_)
          · rw [kin _ _ (by omega)]
            exact c0 k hk
          · rw [kin _ _ (by omega)]
            exact c1 k hk
          · rw [kin _ _ (by omega)]
            exact c2 k hk
          · rw [kin _ _ (by omega)]
            exact c3 k hk
          · rw [kin _ _ (by omega)]
            exact c4 k hk
          · rw [kin _ _ (by omega)]
            exact c5 k hk
          · rw [kin _ _ (by omega)]
            exact c6 k hk
          · rw [m1, hE 121 (by omega) (by omega)]
            rfl
          · rw [m2, hE 122 (by omega) (by omega)]
            rfl
          · rw [m3 k hk, hE 123 (by omega) (by omega)]
            rfl
          · rw [(m4 k hk).1, hE 124 (by omega) (by omega)]
            rfl
          · rw [(m4 k hk).2.1, hE 125 (by omega) (by omega)]
            rfl
          · rw [(m5 k hk).1, hE 126 (by omega) (by omega)]
            rfl
          · rw [(m5 k hk).2, hE 127 (by omega) (by omega)]
            rfl
        · rw [m0 _ _ (by unfold MC; omega), f1 _ _ (by unfold BDC; omega)]
          exact s5t a ha
        · rw [m0 _ _ (by unfold MC; omega), f1 _ _ (by unfold BDC; omega)]
          exact s562
        · rw [m6, f1 _ _ (by unfold BDC; omega), hV5 129 (by omega)]
        · rw [m0 _ _ (by unfold MC; omega), f1 _ _ (by unfold BDC; omega), h5, uV_cell, if_neg (by omega), h4, uV_cell, if_pos ⟨rfl, rfl⟩]
      · rw [m0 _ _ (by unfold MC; omega), f1 _ _ (by unfold BDC; omega), s5 0 k (by unfold MK; omega), g1 0 (by omega)]
        exact hI.2 k
  · replace q := b01_0 (nd_f q)
    refine Ev.blk 1 (B5_7 _ _ _ _) rfl ?_
    refine Ev.ret rfl rfl rfl rfl ⟨_, rfl, by decide, rfl, ?_⟩
    refine Ev.blk 1 (B144_0 _ _ _ _) rfl ?_
    refine Ev.call rfl rfl rfl (x_isMachineR (d := 26) h0) (by omega) ?_
    rintro v V' b' ⟨rfl, h_, g_⟩
    subst V' b'
    refine Ev.blk 1 (B144_4 _ _ _ _ _ (b01_in _)) rfl ?_
    refine Ev.ite (fun z => absurd (b01_1 (nd_t z)) (by omega)) (fun _ => ?_)
    refine Ev.blk 1 (B144_7 _ _ _ _) rfl ?_
    exact Ev.ret rfl rfl rfl rfl ⟨rfl, hi.more (Nat.le_succ N), hI.2⟩
