/-! the 38 calls: hear, mend, look (specs17.py) -/
theorem op_hear (a0 a1 : Int) (h0 : in32 a0) (h1 : a1 = 0 ∨ a1 = 1) : OpI 15 160 [.inl a0, .inl a1] := by
  intro L N V b hL hN hI
  have hi := hI.1
  have hu : in32 a1 := ⟨by omega, by omega⟩
  refine Ev.blk 1 (B15_0 _ _ _ _ _) rfl ?_
  refine Ev.call rfl rfl rfl (x_isMachineC (d := 28) h0) (by omega) ?_
  rintro v V' b' ⟨rfl, rfl, rfl⟩
  refine Ev.blk 1 (B15_4 _ _ _ _ _ _ (b01_in _)) rfl ?_
  refine Ev.ite (fun q => ?_) (fun q => ?_)
  · replace q := b01_1 (nd_t q)
    obtain ⟨i, rfl⟩ : ∃ k : Nat, a0 = (k : Int) := ⟨a0.toNat, by omega⟩
    have hi3 : i < 3 := by omega
    have hk := hi.kd i hi3
    have hT : isT (21 + 15 * i) := k_12 (i := (i : Int)) q
    have hK : isK (14 + 15 * i) := k_11 (i := (i : Int)) q
    have hv := hi.tv i hi3
    obtain ⟨D, hD⟩ : ∃ D, D = kF (fun j => V' 125 (8 * i + j)) a1 (fun j => V' 130 (8 * i + j)) := ⟨_, rfl⟩
    have t1 : ∀ j, j < 8 → V' (21 + 15 * i + 1) j = V' 130 (8 * i + j) := fun j hj => by
      rw [show 21 + 15 * i + 1 = 22 + 15 * i by omega]
      exact hi.th i j hi3 hj
    have d1 : ∀ j, j < 8 → kF (V' (14 + 15 * i + 4)) a1 (V' (21 + 15 * i + 1)) j = D j := by
      rw [hD]
      exact kF_congr (fun j hj => (hk.kn j hj).1) t1
    refine Ev.blk 9 (B15_9 _ _ _ _ _ q) rfl ?_
    rw [Int.toNat_natCast]
    refine Ev.call rfl rfl (vg rfl rfl (isT_0 hT) (congrArg Prod.fst (isT_T hT)) rfl) (x_takeKnock (d := 26) hT hK hu (fun j hj => by have := hk.kn j hj; omega) (fun j hj => by rw [t1 j hj]; exact hv.b j hj)) (by omega) ?_
    rintro v V1 b1 ⟨rfl, rfl, f1, f2, f5⟩
    rw [sA_congr d1] at f2 f5 ⊢
    have hs := sA_c D
    refine Ev.ret rfl rfl rfl rfl ⟨_, rfl, ⟨by omega, by omega⟩, f1 0 (by omega) (by omega), ?_⟩
    refine Ev.blk 1 (B160_0 _ _ _ _ _) rfl ?_
    refine Ev.call rfl rfl rfl (x_isMachineR (d := 27) h0) (by omega) ?_
    rintro v V2 b2 ⟨rfl, rfl, rfl⟩
    refine Ev.blk 1 (B160_4 _ _ _ _ _ _ (b01_in _)) rfl ?_
    refine Ev.ite (fun _ => ?_) (fun z => absurd (show 0 ≤ (i : Int) ∧ (i : Int) ≤ 2 by omega) (b01_0 (nd_f z)))
    refine Ev.blk 2 (B160_9 _ _ _ _ _) rfl ?_
    refine Ev.call rfl rfl rfl (x_take (d := 28) (m := i) hi3) (by omega) ?_
    rintro v V3 b3 ⟨rfl, rfl, rfl⟩
    obtain ⟨W, hW⟩ : ∃ W, W = fil V2 131 0 (fun j => V2 130 (8 * i + j)) 8 := ⟨_, rfl⟩
    rw [← hW]
    have w1 : ∀ x, x ≠ 131 → x ≠ 22 + 15 * i → x ≠ 23 + 15 * i → W x = V' x := fun x n1 n2 n3 => by
      rw [hW, fil_ne n1, f1 x (by omega) (by omega)]
    have w2 : ∀ j, j < 8 → W 131 j = V' 130 (8 * i + j) := fun j hj => by
      rw [hW, fil_z hj, f1 130 (by omega) (by omega)]
    have w3 : W 125 = V' 125 := w1 125 (by omega) (by omega) (by omega)
    have d2 : ∀ j, j < 8 → kF (fun j => W 125 (8 * i + j)) a1 (W 131) j = D j := by
      rw [hD]
      exact kF_congr (fun j hj => by rw [w3]) w2
    have hz : ∀ j : Nat, j < 8 → V' 121 i ≤ (j : Int) → D j = 0 := by
      rw [hD]
      exact kF_z hv.z
    refine Ev.blk 3 (B160_14 _ _ _ _ _) rfl ?_
    refine Ev.call rfl rfl rfl (x_tryKnock (d := 25) (m := i) hi3 hu (fun j hj => by rw [w3]; exact (hk.kn j hj).2) (fun j hj => by rw [w2 j hj]; exact hv.b j hj)) (by omega) ?_
    rintro v V4 b4 ⟨rfl, rfl, g1, g2⟩
    rw [sA_congr d2] at g2 ⊢
    refine Ev.blk 4 (B160_20 _ _ _ _ _ _ ⟨by omega, by omega⟩) rfl ?_
    refine Ev.ite (fun z => ?_) (fun z => ?_)
    · replace z := nd_t z
      refine Ev.blk 1 (B160_31 _ _ _ _ _ _) rfl ?_
      refine Ev.ret rfl rfl rfl rfl ⟨rfl, ?_, fun k => ?_⟩
      · refine (hi.more (Nat.le_succ N)).frame (fun a ha => ?_) ?_ ?_
        · unfold dI at ha
          by_cases e : a = 22 + 15 * i
          · rw [e, g1 _ (by omega), hW, fil_ne (by omega), show 22 + 15 * i = 21 + 15 * i + 1 by omega, f5 z]
          · rw [g1 a (by omega), w1 a (by omega) e (by omega)]
        · rw [g1 120 (by omega), w1 120 (by omega) (by omega) (by omega)]
        · rw [g1 120 (by omega), w1 120 (by omega) (by omega) (by omega)]
      · rw [g1 0 (by omega), w1 0 (by omega) (by omega) (by omega)]
        exact hI.2 k
    · replace z := nd_f z
      refine Ev.blk 2 (B160_26 _ _ _ _ _ _) rfl ?_
      refine Ev.call rfl rfl rfl (x_putT (d := 28) (m := i) hi3) (by omega) ?_
      rintro v V5 b5 ⟨rfl, rfl, rfl⟩
      refine Ev.blk 1 (B160_31 _ _ _ _ _ _) rfl ?_
      have p1 : ∀ x, x ≠ 130 → x ≠ 131 → x ≠ 22 + 15 * i → x ≠ 23 + 15 * i → fil V4 130 (8 * i) (V4 131) 8 x = V' x := fun x n0 n1 n3 n4 => by
        rw [fil_ne n0, g1 x n1, w1 x n1 n3 n4]
      refine Ev.ret rfl rfl rfl rfl ⟨rfl, ?_, fun k => ?_⟩
      · refine (hi.more (Nat.le_succ N)).think (i := i) (g := nrm D) hi3 (fun a ha n1 n2 => ?_) ?_ ?_ (fun j hj => ?_) (fun j hj => ?_) (fun k hk => ?_) (nrm_wt z (fun j hj => ?_) hz)
        · unfold dI at ha
          exact p1 a n2 (by omega) n1 (by omega)
        · rw [p1 120 (by omega) (by omega) (by omega) (by omega)]
        · rw [p1 120 (by omega) (by omega) (by omega) (by omega)]
        · rw [fil_ne (by omega), g1 _ (by omega), hW, fil_ne (by omega), show 22 + 15 * i = 21 + 15 * i + 1 by omega, f2 z j hj]
          exact nrm_congr d1 j hj
        · rw [fil_at hj, g2 z j hj]
          exact nrm_congr d2 j hj
        · rw [fil_out hk, g1 130 (by omega), w1 130 (by omega) (by omega) (by omega)]
        · rw [hD]
          have := hk.kn j hj
          exact (kF_bd (hv.b j hj) (show 0 ≤ V' 125 (8 * i + j) ∧ V' 125 (8 * i + j) ≤ 10 by omega)).1
      · rw [p1 0 (by omega) (by omega) (by omega) (by omega)]
        exact hI.2 k
  · replace q := b01_0 (nd_f q)
    refine Ev.blk 1 (B15_7 _ _ _ _ _) rfl ?_
    refine Ev.ret rfl rfl rfl rfl ⟨_, rfl, by decide, rfl, ?_⟩
    refine Ev.blk 1 (B160_0 _ _ _ _ _) rfl ?_
    refine Ev.call rfl rfl rfl (x_isMachineR (d := 27) h0) (by omega) ?_
    rintro v V4 b4 ⟨rfl, rfl, rfl⟩
    refine Ev.blk 1 (B160_4 _ _ _ _ _ _ (b01_in _)) rfl ?_
    refine Ev.ite (fun z => ?_) (fun _ => ?_)
    · have z := b01_1 (nd_t z)
      omega
    · refine Ev.blk 1 (B160_7 _ _ _ _ _) rfl ?_
      exact Ev.ret rfl rfl rfl rfl ⟨rfl, hi.more (Nat.le_succ N), hI.2⟩
/-- a wear is known for sure: the class's row and the reference's, by way of its trial row -/
theorem sure_iv {N : Nat} {V : Mv} {i w : Nat} (hI : Iv N V) (hi3 : i < 3) (hw : (w : Int) < V 121 i) : Iv (N + 1) (fil (fil (fil V (21 + 15 * i + 1) 0 (one1 (w : Int)) 8) 131 0 (one1 (w : Int)) 8) 130 (8 * i) (fil (fil V (21 + 15 * i + 1) 0 (one1 (w : Int)) 8) 131 0 (one1 (w : Int)) 8 131) 8) := by
  have hi := hI.1
  have hk := hi.kd i hi3
  have h8 := hk.w8
  have p1 : ∀ x, x ≠ 130 → x ≠ 131 → x ≠ 22 + 15 * i → fil (fil (fil V (21 + 15 * i + 1) 0 (one1 (w : Int)) 8) 131 0 (one1 (w : Int)) 8) 130 (8 * i) (fil (fil V (21 + 15 * i + 1) 0 (one1 (w : Int)) 8) 131 0 (one1 (w : Int)) 8 131) 8 x = V x := fun x n0 n1 n2 => by
    rw [fil_ne n0, fil_ne n1, fil_ne (by omega)]
  refine ⟨?_, fun k => ?_⟩
  · refine (hi.more (Nat.le_succ N)).think (i := i) (g := one1 (w : Int)) hi3 (fun a ha n1 n2 => ?_) ?_ ?_ (fun j hj => ?_) (fun j hj => ?_) (fun k hk => ?_) (one1_wt hw (by omega))
    · unfold dI at ha
      exact p1 a n2 (by omega) n1
    · rw [p1 120 (by omega) (by omega) (by omega)]
    · rw [p1 120 (by omega) (by omega) (by omega)]
    · rw [fil_ne (by omega), fil_ne (by omega), show 22 + 15 * i = 21 + 15 * i + 1 by omega, fil_z hj]
    · rw [fil_at hj, fil_z hj]
    · rw [fil_out hk, fil_ne (by omega), fil_ne (by omega)]
  · rw [p1 0 (by omega) (by omega) (by omega)]
    exact hI.2 k
theorem op_mend (a0 a1 : Int) (h0 : in32 a0) (h1 : in32 a1) : OpI 16 162 [.inl a0, .inl a1] := by
  intro L N V b hL hN hI
  have hi := hI.1
  refine Ev.blk 3 (B16_0 _ _ _ _ _) rfl ?_
  refine Ev.call rfl rfl rfl (x_isMendingC (d := 27) hi.bdC h0 h1) (by omega) ?_
  rintro v V' b' ⟨rfl, rfl, rfl⟩
  refine Ev.blk 1 (B16_6 _ _ _ _ _ _ (b01_in _)) rfl ?_
  refine Ev.ite (fun q => ?_) (fun q => ?_)
  · replace q := b01_1 (nd_t q)
    obtain ⟨i, rfl⟩ : ∃ k : Nat, a0 = (k : Int) := ⟨a0.toNat, by omega⟩
    obtain ⟨j, rfl⟩ : ∃ k : Nat, a1 = (k : Int) := ⟨a1.toNat, by omega⟩
    rw [Int.toNat_natCast, Int.toNat_natCast] at q
    have hi3 : i < 3 := by omega
    have hk := hi.kd i hi3
    have hT : isT (21 + 15 * i) := k_12 (i := (i : Int)) q.1
    have hm := hk.mw j (by omega)
    have h8 := hk.w8
    obtain ⟨w, hw⟩ : ∃ w : Nat, V' 126 (4 * i + j) = (w : Int) := ⟨(V' 126 (4 * i + j)).toNat, by omega⟩
    have hw1 : V' (14 + 15 * i + 6) j = (w : Int) := by rw [hm.1, hw]
    refine Ev.blk 13 (B16_11 _ _ _ _ _ q.1 (by omega)) rfl ?_
    rw [Int.toNat_natCast, Int.toNat_natCast, hw1]
    refine Ev.call rfl rfl (vg rfl rfl (isT_0 hT) (congrArg Prod.fst (isT_T hT)) rfl) (x_settleC (d := 28) hT ⟨by omega, by omega⟩) (by omega) ?_
    rintro v V1 b1 ⟨rfl, rfl, rfl⟩
    refine Ev.blk 1 (B16_33 _ _ _ _ _ _) rfl ?_
    refine Ev.ret rfl rfl rfl rfl ⟨_, rfl, ⟨by omega, by omega⟩, fil_ne (by omega), ?_⟩
    have e126 : fil V' (21 + 15 * i + 1) 0 (one1 (w : Int)) 8 126 = V' 126 := fil_ne (by omega)
    have hB : BdR (fil V' (21 + 15 * i + 1) 0 (one1 (w : Int)) 8) := by
      have := hi.bdR
      unfold BdR at this ⊢
      rw [e126, show fil V' (21 + 15 * i + 1) 0 (one1 (w : Int)) 8 121 = V' 121 from fil_ne (by omega)]
      exact this
    have e3 : (4 * (i : Int) + (j : Int)).toNat = 4 * i + j := by omega
    refine Ev.blk 3 (B162_0 _ _ _ _ _) rfl ?_
    refine Ev.call rfl rfl rfl (x_isMendingR (d := 26) hB h0 h1) (by omega) ?_
    rintro v V2 b2 ⟨rfl, rfl, rfl⟩
    refine Ev.blk 1 (B162_6 _ _ _ _ _ _ (b01_in _)) rfl ?_
    refine Ev.ite (fun _ => ?_) (fun z => absurd (show (0 ≤ (i : Int) ∧ (i : Int) ≤ 2) ∧ (0 ≤ (j : Int) ∧ (j : Int) ≤ 3) ∧ ¬ fil V' (21 + 15 * i + 1) 0 (one1 (w : Int)) 8 126 (4 * (i : Int) + (j : Int)).toNat = -9 by rw [e126, e3]; omega) (b01_0 (nd_f z)))
    refine Ev.blk 9 (B162_11 _ _ _ _ _ (by omega)) rfl ?_
    rw [e126, e3, hw]
    refine Ev.call rfl rfl rfl (x_seen (d := 28) ⟨by omega, by omega⟩) (by omega) ?_
    rintro v V3 b3 ⟨rfl, rfl, rfl⟩
    refine Ev.blk 2 (B162_25 _ _ _ _ _) rfl ?_
    refine Ev.call rfl rfl rfl (x_putT (d := 28) (m := i) hi3) (by omega) ?_
    rintro v V4 b4 ⟨rfl, rfl, rfl⟩
    refine Ev.blk 8 (B162_30 _ _ _ _ _ (by omega)) rfl ?_
    refine Ev.ret rfl rfl rfl rfl ⟨?_, sure_iv hI hi3 (by omega)⟩
    congr 2
    rw [fil_ne (by omega), fil_ne (by omega), e126, e3, hw]
  · replace q := b01_0 (nd_f q)
    refine Ev.blk 1 (B16_9 _ _ _ _ _) rfl ?_
    refine Ev.ret rfl rfl rfl rfl ⟨_, rfl, by decide, rfl, ?_⟩
    refine Ev.blk 3 (B162_0 _ _ _ _ _) rfl ?_
    refine Ev.call rfl rfl rfl (x_isMendingR (d := 26) hi.bdR h0 h1) (by omega) ?_
    rintro v V4 b4 ⟨rfl, rfl, rfl⟩
    refine Ev.blk 1 (B162_6 _ _ _ _ _ _ (b01_in _)) rfl ?_
    refine Ev.ite (fun z => ?_) (fun _ => ?_)
    · have z := b01_1 (nd_t z)
      have e2 := ((hi.kd a0.toNat (by omega)).mw a1.toNat (by omega)).1
      rw [show (4 * a0 + a1).toNat = 4 * a0.toNat + a1.toNat by omega, ← e2] at z
      exact absurd (show (0 ≤ a0 ∧ a0 < 3) ∧ 0 ≤ a1 ∧ a1 < 4 ∧ ¬ V4 (14 + 15 * a0.toNat + 6) a1.toNat = -9 by omega) q
    · refine Ev.blk 1 (B162_9 _ _ _ _ _) rfl ?_
      exact Ev.ret rfl rfl rfl rfl ⟨rfl, hi.more (Nat.le_succ N), hI.2⟩
theorem x_hasLook {L d : Nat} {V : Mv} {b : Bool} {a : Nat} (ha : isK a) (hk : in32 (V a 1)) : Ex L d 73 [.inr (.inr a)] V b (Ans (some (.inl (b01 (¬ V a 1 = -9)))) V b) := by
  refine Ev.blk 4 (B73_0 _ _ _ _ ha hk) rfl ?_
  refine Ev.ite (fun q => ?_) (fun q => ?_)
  · replace q := of_decide_eq_true q
    refine Ev.blk 1 (B73_13 _ _ _ _) rfl ?_
    refine Ev.ret rfl rfl rfl rfl ⟨?_, rfl, rfl⟩
    unfold b01
    rw [if_neg (fun z => z q)]
  · replace q := of_decide_eq_false q
    refine Ev.blk 2 (B73_9 _ _ _ _) rfl ?_
    refine Ev.ret rfl rfl rfl rfl ⟨?_, rfl, rfl⟩
    unfold b01
    rw [if_pos q]
theorem op_look (a0 a1 : Int) (h0 : in32 a0) (h1 : in32 a1) : OpI 17 164 [.inl a0, .inl a1] := by
  intro L N V b hL hN hI
  have hi := hI.1
  refine Ev.blk 3 (B17_0 _ _ _ _ _) rfl ?_
  refine Ev.call rfl rfl rfl (x_isWearC (d := 27) h0 h1 (fun i hi2 => hi.bdC.w hi2)) (by omega) ?_
  rintro v V' b' ⟨rfl, rfl, rfl⟩
  refine Ev.blk 1 (B17_6 _ _ _ _ _ _ (b01_in _)) rfl ?_
  refine Ev.ite (fun q => ?_) (fun q => ?_)
  · replace q := b01_1 (nd_t q)
    obtain ⟨i, rfl⟩ : ∃ k : Nat, a0 = (k : Int) := ⟨a0.toNat, by omega⟩
    obtain ⟨a, rfl⟩ : ∃ k : Nat, a1 = (k : Int) := ⟨a1.toNat, by omega⟩
    rw [Int.toNat_natCast] at q
    have hi3 : i < 3 := by omega
    have hk := hi.kd i hi3
    have hT : isT (21 + 15 * i) := k_12 (i := (i : Int)) q.1
    have hK : isK (14 + 15 * i) := k_11 (i := (i : Int)) q.1
    have h8 := hk.w8
    have hw := hk.w
    have hl := hk.lk
    have hl9 := hk.lk9
    have hb : 0 ≤ V' 130 (8 * i + a) ∧ V' 130 (8 * i + a) ≤ 1000000000000000 := (hi.tv i hi3).b a (by omega)
    have ht : V' (21 + 15 * i + 1) a = V' 130 (8 * i + a) := by
      rw [show 21 + 15 * i + 1 = 22 + 15 * i by omega]
      exact hi.th i a hi3 (by omega)
    have e3 : (8 * (i : Int) + (a : Int)).toNat = 8 * i + a := by omega
    refine Ev.blk 4 (B17_11 _ _ _ _ _ q.1) rfl ?_
    rw [Int.toNat_natCast]
    refine Ev.call rfl rfl (vg rfl rfl (isK_0 hK) (congrArg Prod.fst (isK_T hK)) rfl) (x_hasLook (d := 28) hK ⟨by omega, by omega⟩) (by omega) ?_
    rintro v V1 b1 ⟨rfl, rfl, rfl⟩
    have rest0 : (V1 122 i = -9 ∨ V1 130 (8 * i + a) = 0) → ∀ b2, Ex L 29 164 [.inr (.inr 120), .inl (i : Int), .inl (a : Int)] V1 b2 (fun v2 V2 _ => v2 = some (.inl (-3)) ∧ Iv (N + 1) V2) := by
      intro hs b2
      refine Ev.blk 3 (B164_0 _ _ _ _ _) rfl ?_
      refine Ev.call rfl rfl rfl (x_isWearR (d := 26) hi.bdR h0 h1) (by omega) ?_
      rintro v V2 b2 ⟨rfl, rfl, rfl⟩
      refine Ev.blk 1 (B164_6 _ _ _ _ _ _ (b01_in _)) rfl ?_
      refine Ev.ite (fun _ => ?_) (fun z => absurd (show (0 ≤ (i : Int) ∧ (i : Int) ≤ 2) ∧ 0 ≤ (a : Int) ∧ (a : Int) ≤ V2 121 i - 1 by omega) (b01_0 (nd_f z)))
      refine Ev.blk 6 (B164_11 _ _ _ _ _ (by omega) (by rw [Int.toNat_natCast]; exact ⟨by omega, by omega⟩)) rfl ?_
      refine Ev.ite (fun _ => ?_) (fun z => ?_)
      · refine Ev.blk 1 (B164_38 _ _ _ _ _) rfl ?_
        exact Ev.ret rfl rfl rfl rfl ⟨rfl, hi.more (Nat.le_succ N), hI.2⟩
      · have z : ¬ V2 122 i = -9 := of_decide_eq_false z
        refine Ev.blk 11 (B164_22 _ _ _ _ _ (by omega) (by rw [e3]; exact ⟨by omega, by omega⟩) (cmpI_in _ _)) rfl ?_
        rw [e3]
        refine Ev.ite (fun z2 => ?_) (fun _ => ?_)
        · have z2 := nd_t z2
          rw [cmpI_eq] at z2
          omega
        · refine Ev.blk 1 (B164_38 _ _ _ _ _) rfl ?_
          exact Ev.ret rfl rfl rfl rfl ⟨rfl, hi.more (Nat.le_succ N), hI.2⟩
    refine Ev.blk 1 (B17_20 _ _ _ _ _ _ (b01_in _)) rfl ?_
    refine Ev.ite (fun z => ?_) (fun z => ?_)
    · replace z := b01_0 (of_decide_eq_true z)
      refine Ev.blk 1 (B17_39 _ _ _ _ _) rfl ?_
      exact Ev.ret rfl rfl rfl rfl ⟨_, rfl, by decide, rfl, rest0 (by omega) _⟩
    · replace z := b01_1 (of_decide_eq_false z)
      refine Ev.blk 10 (B17_23 _ _ _ _ _ q.1 (by omega) (by rw [Int.toNat_natCast, Int.toNat_natCast, ht]; exact ⟨by omega, by omega⟩) (cmpI_in _ _)) rfl ?_
      rw [Int.toNat_natCast, Int.toNat_natCast, ht]
      refine Ev.ite (fun z2 => ?_) (fun z2 => ?_)
      · have z2 := nd_t z2
        rw [cmpI_eq] at z2
        refine Ev.blk 5 (B17_42 _ _ _ _ _ q.1) rfl ?_
        rw [Int.toNat_natCast]
        refine Ev.call rfl rfl (vg rfl rfl (isT_0 hT) (congrArg Prod.fst (isT_T hT)) rfl) (x_settleC (d := 28) hT ⟨by omega, by omega⟩) (by omega) ?_
        rintro v V2 b2 ⟨rfl, rfl, rfl⟩
        refine Ev.blk 1 (B17_52 _ _ _ _ _) rfl ?_
        refine Ev.ret rfl rfl rfl rfl ⟨_, rfl, by decide, fil_ne (by omega), ?_⟩
        have e121 : fil V1 (21 + 15 * i + 1) 0 (one1 (a : Int)) 8 121 = V1 121 := fil_ne (by omega)
        have e122 : fil V1 (21 + 15 * i + 1) 0 (one1 (a : Int)) 8 122 = V1 122 := fil_ne (by omega)
        have e130 : fil V1 (21 + 15 * i + 1) 0 (one1 (a : Int)) 8 130 = V1 130 := fil_ne (by omega)
        have hB : BdR (fil V1 (21 + 15 * i + 1) 0 (one1 (a : Int)) 8) := by
          have := hi.bdR
          unfold BdR at this ⊢
          rw [e121, show fil V1 (21 + 15 * i + 1) 0 (one1 (a : Int)) 8 126 = V1 126 from fil_ne (by omega)]
          exact this
        refine Ev.blk 3 (B164_0 _ _ _ _ _) rfl ?_
        refine Ev.call rfl rfl rfl (x_isWearR (d := 26) hB h0 h1) (by omega) ?_
        rintro v V2 b2 ⟨rfl, rfl, rfl⟩
        refine Ev.blk 1 (B164_6 _ _ _ _ _ _ (b01_in _)) rfl ?_
        refine Ev.ite (fun _ => ?_) (fun z => absurd (show (0 ≤ (i : Int) ∧ (i : Int) ≤ 2) ∧ 0 ≤ (a : Int) ∧ (a : Int) ≤ fil V1 (21 + 15 * i + 1) 0 (one1 (a : Int)) 8 121 i - 1 by rw [e121]; omega) (b01_0 (nd_f z)))
        refine Ev.blk 6 (B164_11 _ _ _ _ _ (by omega) (by rw [Int.toNat_natCast, e122]; exact ⟨by omega, by omega⟩)) rfl ?_
        rw [Int.toNat_natCast, e122]
        refine Ev.ite (fun z3 => absurd (of_decide_eq_true z3) (by omega)) (fun _ => ?_)
        refine Ev.blk 11 (B164_22 _ _ _ _ _ (by omega) (by rw [e3, e130]; exact ⟨by omega, by omega⟩) (cmpI_in _ _)) rfl ?_
        rw [e3, e130]
        refine Ev.ite (fun _ => ?_) (fun z3 => absurd ((cmpI_eq _ _).mp (nd_f z3)) z2)
        refine Ev.blk 2 (B164_41 _ _ _ _ _) rfl ?_
        refine Ev.call rfl rfl rfl (x_seen (d := 28) ⟨by omega, by omega⟩) (by omega) ?_
        rintro v V3 b3 ⟨rfl, rfl, rfl⟩
        refine Ev.blk 2 (B164_46 _ _ _ _ _) rfl ?_
        refine Ev.call rfl rfl rfl (x_putT (d := 28) (m := i) hi3) (by omega) ?_
        rintro v V4 b4 ⟨rfl, rfl, rfl⟩
        refine Ev.blk 1 (B164_51 _ _ _ _ _) rfl ?_
        exact Ev.ret rfl rfl rfl rfl ⟨rfl, sure_iv hI hi3 (by omega)⟩
      · have z2 := nd_f z2
        rw [cmpI_eq] at z2
        refine Ev.blk 1 (B17_39 _ _ _ _ _) rfl ?_
        exact Ev.ret rfl rfl rfl rfl ⟨_, rfl, by decide, rfl, rest0 (Or.inr z2) _⟩
  · replace q := b01_0 (nd_f q)
    refine Ev.blk 1 (B17_9 _ _ _ _ _) rfl ?_
    refine Ev.ret rfl rfl rfl rfl ⟨_, rfl, by decide, rfl, ?_⟩
    refine Ev.blk 3 (B164_0 _ _ _ _ _) rfl ?_
    refine Ev.call rfl rfl rfl (x_isWearR (d := 26) hi.bdR h0 h1) (by omega) ?_
    rintro v V4 b4 ⟨rfl, rfl, rfl⟩
    refine Ev.blk 1 (B164_6 _ _ _ _ _ _ (b01_in _)) rfl ?_
    refine Ev.ite (fun z => ?_) (fun _ => ?_)
    · have z := b01_1 (nd_t z)
      have e2 := (hi.kd a0.toNat (by omega)).w
      exact absurd q (by rw [e2]; omega)
    · refine Ev.blk 1 (B164_9 _ _ _ _ _) rfl ?_
      exact Ev.ret rfl rfl rfl rfl ⟨rfl, hi.more (Nat.le_succ N), hI.2⟩
