/-! the 38 calls: best, bestCost (specs76.py) -/
theorem bkS.pr {V W : Mv} {m : Nat} {n : Nat} {G : Nat → Nat → Int} {co mw mc : Nat → Int} (h : bkS V W m) (hP : PR V m n G co mw mc) : PR W m n G co mw mc := by
  have lv : ∀ a : Nat, a < 8 → rLv W (m : Int) (a : Int) = rLv V (m : Int) (a : Int) := fun a ha => by
    unfold rLv
    refine sumN_congr 8 (fun o ho => ?_)
    rw [show (64 * (m : Int) + 8 * (a : Int) + (o : Int)).toNat = 64 * m + (8 * a + o) by omega]
    exact h.2.1 _ (by omega)
  refine ⟨h.1.trans hP.1, fun i j hi hj => ?_, fun j hj => (h.2.2.1 j hj).trans (hP.2.2.1 j hj), fun j hj => (h.2.2.2 j hj).1.trans (hP.2.2.2.1 j hj), fun j hj => (h.2.2.2 j hj).2.trans (hP.2.2.2.2 j hj)⟩
  rw [← hP.2.1 i j hi hj]
  unfold rGo
  by_cases q : (i : Int) = (j : Int)
  · rw [if_pos q, if_pos q, lv i hi]
  · rw [if_neg q, if_neg q, show (64 * (m : Int) + 8 * (i : Int) + (j : Int)).toNat = 64 * m + (8 * i + j) by omega]
    exact h.2.1 _ (by omega)
theorem bkS.rf {V W : Mv} {m : Nat} (h : ∀ a, 121 ≤ a → a ≤ 127 → W a = V a) : bkS V W m := ⟨by rw [h 121 (by omega) (by omega)], fun k _ => by rw [h 123 (by omega) (by omega)], fun k _ => by rw [h 124 (by omega) (by omega)], fun k _ => ⟨by rw [h 126 (by omega) (by omega)], by rw [h 127 (by omega) (by omega)]⟩⟩
/-- a best rule is kept -/
def BK1 (V : Mv) (i : Nat) : Prop := V (24 + 15 * i) 6 = 1 ∧ in32 (V (24 + 15 * i) 0) ∧ (V (24 + 15 * i) 0 = -9 ∨ (in64 (V (25 + 15 * i) 0) ∧ in64 (V (25 + 15 * i) 1))) ∧ ∀ (L : Nat) (W : Mv) (b : Bool), bkS V W i → Ex L 20 186 [.inr (.inr 120), .inl (i : Int)] W b (fun v W' b' => v = some (.inl (V (24 + 15 * i) 0)) ∧ b' = b ∧ bkF W W' ∧ (V (24 + 15 * i) 0 = -9 ∨ (W' 120 27 = V (25 + 15 * i) 0 ∧ W' 120 28 = V (25 + 15 * i) 1)))
theorem BK1.n {V : Mv} {i : Nat} (h : BK1 V i) : BKn V i := Or.inr h
theorem bk1_of {V : Mv} {m : Nat} {n : Nat} {G : Nat → Nat → Int} {co mw mc : Nat → Int} (hm : m < 3) (hP : PR V m n G co mw mc) (hR : ∀ y, RB n G co mw mc (dg y n)) (hs : bsW V (24 + 15 * m) mw (foR n G co mw mc (5 ^ n))) : BK1 V m := by
  have h8 := (hR 0).1.2.1
  have sI := foR_i h8 hR (5 ^ n) (Nat.le_refl _)
  have h0 := hs.2.2.2.1
  have hc : V (24 + 15 * m) 0 = -9 ∨ (V (25 + 15 * m) 0 = ((foR n G co mw mc (5 ^ n)).2.1 : Int) ∧ V (25 + 15 * m) 1 = ((foR n G co mw mc (5 ^ n)).2.2 : Int)) := by
    rcases hs.2.2.2.2 with z | z
    · exact Or.inl (by rw [h0]; exact sI.1.mpr z)
    · rw [show 24 + 15 * m + 1 = 25 + 15 * m by omega] at z
      exact Or.inr z
  have b1 := sI.2.1
  have b2 := sI.2.2.1
  refine ⟨hs.1, by rw [h0]; exact sI.2.2.2, ?_, fun L W b hw => ?_⟩
  · rcases hc with z | z
    · exact Or.inl z
    · exact Or.inr ⟨by rw [z.1]; exact ⟨by omega, by omega⟩, by rw [z.2]; exact ⟨by omega, by omega⟩⟩
  · refine (x_layBest (d := 14) hm (hw.pr hP) hR).weaken ?_
    rintro v W' b' ⟨rfl, rfl, k1, k2⟩
    refine ⟨by rw [h0], rfl, k1, ?_⟩
    rcases hc with z | z
    · exact Or.inl z
    · rcases k2.2 with y | y
      · exact Or.inl (by rw [h0]; exact sI.1.mpr y)
      · exact Or.inr ⟨by rw [z.1, y], by rw [z.2, k2.1]⟩
theorem bs_1024 {mw : Nat → Int} {n : Nat} (h8 : n ≤ 8) : bsN mw ^ n ≤ 390625 := Nat.le_trans (Nat.pow_le_pow_left (bs_5 mw) n) (p58 h8)
theorem x_findK {L d N : Nat} {V : Mv} {b : Bool} {m n : Nat} (hi : Inv N V) (hm : m < 3) (hn : V 121 m = (n : Int)) (hM : bsN (fun j => V 126 (4 * m + j)) ^ n ≤ 1024) : Ex L (d + 3) 106 [.inr (.inr (24 + 15 * m)), .inr (.inr (14 + 15 * m)), .inr (.inr 100)] V b (fun v W b' => v = none ∧ b' = b ∧ (∀ y, ¬ (24 + 15 * m ≤ y ∧ y ≤ 28 + 15 * m) → ¬ (100 ≤ y ∧ y ≤ 106) → W y = V y) ∧ BK1 W m) := by
  have hK : isK (14 + 15 * m) := k_11 (i := (m : Int)) (by omega)
  have hB : isB (24 + 15 * m) := k_13 (i := (m : Int)) (by omega)
  obtain ⟨n', hn', hP, hPR, _⟩ := (hi.kd m hm).rows
  obtain rfl : n' = n := by omega
  have hR : ∀ y, RB n' (fun a c => rGo V (m : Int) (a : Int) (c : Int)) (fun j => V 124 (8 * m + j)) (fun j => V 126 (4 * m + j)) (fun j => V 127 (4 * m + j)) (dg y n') := fun y => (hi.kd m hm).rb hn (fun a _ => dg_bd y n' a)
  have br := hi.br m hm
  rcases br with h6 | hk
  · refine (x_findB (d := d) hB hK hP hR hM h6).weaken ?_
    rintro v W b' ⟨rfl, rfl, w1, w2⟩
    have fr : ∀ y, ¬ (24 + 15 * m ≤ y ∧ y ≤ 28 + 15 * m) → ¬ (100 ≤ y ∧ y ≤ 106) → W y = V y := fun y h1 h2 => w1 y (by omega) h2
    refine ⟨rfl, rfl, fr, bk1_of hm (hPR.frame (fun x h1 h2 => fr x (by omega) (by omega))) hR ?_⟩
    rw [← foC_fR hR]
    exact w2
  · refine Ev.blk 3 (B106_0 _ _ _ _ _ hB (by rw [hk.1]; decide)) rfl ?_
    rw [hk.1]
    refine Ev.ite (fun z => absurd z (by decide)) (fun _ => ?_)
    exact Ev.ret rfl rfl rfl rfl ⟨rfl, rfl, fun _ _ _ => rfl, hk⟩
theorem Inv.bst {N m : Nat} {V W1 W2 : Mv} (h : Inv N V) (hm : m < 3) (f1 : ∀ y, ¬ (24 + 15 * m ≤ y ∧ y ≤ 28 + 15 * m) → ¬ (100 ≤ y ∧ y ≤ 106) → W1 y = V y) (f2 : bkF W1 W2) (hb : BK1 W1 m) : Inv N W2 := by
  have fr : ∀ y k, ¬ (24 + 15 * m ≤ y ∧ y ≤ 28 + 15 * m) → ¬ (100 ≤ y ∧ y ≤ 106) → ¬ (136 ≤ y ∧ y ≤ 139) → ¬ (y = 135 ∧ 32 ≤ k) → ¬ (y = 120 ∧ 23 ≤ k ∧ k ≤ 28) → W2 y k = V y k := fun y k h1 h2 h3 h4 h5 => by rw [f2 y k h3 h4 h5, f1 y h1 h2]
  have F : ∀ y, ¬ (24 + 15 * m ≤ y ∧ y ≤ 28 + 15 * m) → ¬ (100 ≤ y ∧ y ≤ 106) → ¬ (135 ≤ y ∧ y ≤ 139) → y ≠ 120 → W2 y = V y := fun y h1 h2 h3 h4 => funext (fun k => fr y k h1 h2 (by omega) (by omega) (by omega))
  apply Inv.mk
  · intro i hi
    exact (h.kd i hi).frame (fun j hj => F _ (by omega) (by omega) (by omega) (by omega)) (fun a _ _ => F a (by omega) (by omega) (by omega) (by omega))
  · intro i a hi ha
    rw [F (22 + 15 * i) (by omega) (by omega) (by omega) (by omega), F 130 (by omega) (by omega) (by omega) (by omega)]
    exact h.th i a hi ha
  · rw [F 130 (by omega) (by omega) (by omega) (by omega), F 121 (by omega) (by omega) (by omega) (by omega)]
    exact h.tv
  · intro r a hr ha
    rw [F (64 + r) (by omega) (by omega) (by omega) (by omega), fr 135 (8 * r + a) (by omega) (by omega) (by omega) (by omega) (by omega)]
    exact h.ru r a hr ha
  · rw [F 2 (by omega) (by omega) (by omega) (by omega), fr 120 10 (by omega) (by omega) (by omega) (by omega) (by omega)]
    exact h.tl
  · rw [F 3 (by omega) (by omega) (by omega) (by omega), F 128 (by omega) (by omega) (by omega) (by omega)]
    exact h.tb
  · rw [F 69 (by omega) (by omega) (by omega) (by omega), fr 120 37 (by omega) (by omega) (by omega) (by omega) (by omega)]
    exact h.ll
  · rw [F 70 (by omega) (by omega) (by omega) (by omega), F 145 (by omega) (by omega) (by omega) (by omega)]
    exact h.lr
  · rw [F 62 (by omega) (by omega) (by omega) (by omega), F 129 (by omega) (by omega) (by omega) (by omega)]
    exact h.md
  · intro s hs
    rw [F (72 + 14 * s) (by omega) (by omega) (by omega) (by omega), F 146 (by omega) (by omega) (by omega) (by omega)]
    exact h.us s hs
  · intro s hs
    rw [F 146 (by omega) (by omega) (by omega) (by omega)]
    exact fun q => (h.sl s hs q).frame hs (fun a ha => F a (by omega) (by omega) (by omega) (by omega))
  · intro i hi
    by_cases q : i = m
    · subst q
      exact hb.n.row (f2.row (by omega) (by omega) (by omega)) (f2.row (by omega) (by omega) (by omega)) (fun a _ _ => f2.row (by omega) (by omega) (by omega))
    · exact (h.br i hi).row (F _ (by omega) (by omega) (by omega) (by omega)) (F _ (by omega) (by omega) (by omega) (by omega)) (fun a _ _ => F a (by omega) (by omega) (by omega) (by omega))
theorem op_best (a0 : Int) (h0 : in32 a0) : OpI 27 183 [.inl a0] := by
  intro L N V b hL hN hI
  have hi := hI.1
  refine Ev.blk 1 (B27_0 _ _ _ _) rfl ?_
  refine Ev.call rfl rfl rfl (x_isMachineC (d := 27) h0) (by omega) ?_
  rintro v V' b' ⟨rfl, h_, g_⟩
  subst V' b'
  refine Ev.blk 1 (B27_4 _ _ _ _ _ (b01_in _)) rfl ?_
  refine Ev.ite (fun q => ?_) (fun q => ?_)
  rotate_left
  · replace q := b01_0 (nd_f q)
    refine Ev.blk 1 (B27_7 _ _ _ _) rfl ?_
    refine Ev.ret rfl rfl rfl rfl ⟨_, rfl, by decide, rfl, ?_⟩
    refine Ev.blk 1 (B183_0 _ _ _ _) rfl ?_
    refine Ev.call rfl rfl rfl (x_isMachineR (d := 26) h0) (by omega) ?_
    rintro v V' b' ⟨rfl, h_, g_⟩
    subst V' b'
    refine Ev.blk 1 (B183_4 _ _ _ _ _ (b01_in _)) rfl ?_
    refine Ev.ite (fun z => absurd (b01_1 (nd_t z)) (by omega)) (fun _ => ?_)
    refine Ev.blk 1 (B183_7 _ _ _ _) rfl ?_
    exact Ev.ret rfl rfl rfl rfl ⟨rfl, hi.more (Nat.le_succ N), hI.2⟩
  replace q := b01_1 (nd_t q)
  obtain ⟨m, rfl⟩ : ∃ m : Nat, a0 = (m : Int) := ⟨a0.toNat, by omega⟩
  have hm : m < 3 := by omega
  have hK : isK (14 + 15 * m) := k_11 (i := (m : Int)) (by omega)
  have hB : isB (24 + 15 * m) := k_13 (i := (m : Int)) (by omega)
  obtain ⟨n, hn, hP, hPR, hPB⟩ := (hi.kd m hm).rows
  have h8 := hPB.2.1
  have hb4 : ∀ j, j < 4 → in32 (V 126 (4 * m + j)) := fun j hj => by
    have := ((hi.kd m hm).mw j hj).2
    have := (hi.kd m hm).w8
    exact ⟨by omega, by omega⟩
  have bd := bs_1024 (mw := (fun j => V 126 (4 * m + j))) h8
  have headR : ∀ (W : Mv) (b' : Bool) (Q : Option AV → Mv → Bool → Prop), (∀ y, 121 ≤ y → y ≤ 127 → W y = V y) → (¬ bsN (fun j => V 126 (4 * m + j)) ^ n ≤ 1024 → Q (some (.inl (-3))) W b') → (bsN (fun j => V 126 (4 * m + j)) ^ n ≤ 1024 → Ev L 29 183 37 [some (.inr (.inr 120)), some (.inl (m : Int))] [] W b' Q) → Ex L 29 183 (.inr (.inr 120) :: [.inl (m : Int)]) W b' Q := fun W b' Q fw k0 k1 => by
    have eR : W 121 ((m : Int)).toNat = (n : Int) := by rw [Int.toNat_natCast, fw 121 (by omega) (by omega)]; exact hn
    refine Ev.blk 1 (B183_0 _ _ _ _) rfl ?_
    refine Ev.call rfl rfl rfl (x_isMachineR (d := 26) h0) (by omega) ?_
    rintro v V' b'' ⟨rfl, h_, g_⟩
    subst V' b''
    refine Ev.blk 1 (B183_4 _ _ _ _ _ (b01_in _)) rfl ?_
    refine Ev.ite (fun _ => ?_) (fun z => absurd (show 0 ≤ (m : Int) ∧ (m : Int) ≤ 2 by omega) (b01_0 (nd_f z)))
    refine Ev.blk 3 (B183_9 _ _ _ _) rfl ?_
    refine Ev.call rfl rfl rfl (x_many (d := 27) (m := (m : Int)) (hi.bdR.fr fw) (by omega)) (by omega) ?_
    rintro v V' b'' ⟨rfl, h_, g_⟩
    subst V' b''
    rw [Int.toNat_natCast, pcm_congr (g := (fun j => V 126 (4 * m + j))) (fun j _ => by rw [fw 126 (by omega) (by omega)])]
    refine Ev.blk 6 (B183_15 _ _ _ _ _ ⟨by omega, by omega⟩) rfl ?_
    rw [eR, ← bsN_pcm]
    refine Ev.call rfl rfl rfl (x_powR (d := 28) ⟨bs_pos _, bs_5 _⟩ h8) (by omega) ?_
    rintro v V' b'' ⟨rfl, rfl, z, rfl, z1, z2⟩
    refine Ev.blk 2 (B183_26 _ _ _ _ _ z1) rfl ?_
    refine Ev.ite (fun y => ?_) (fun y => ?_)
    · exact k1 (z2.mp (of_decide_eq_true y))
    · refine Ev.blk 2 (B183_32 _ _ _ _) rfl ?_
      exact Ev.ret rfl rfl rfl rfl (k0 (fun w => of_decide_eq_false y (z2.mpr w)))
  refine Ev.blk 4 (B27_9 _ _ _ _ ⟨by omega, by omega⟩) rfl ?_
  rw [Int.toNat_natCast]
  refine Ev.call rfl rfl (vg rfl rfl (isK_0 hK) (congrArg Prod.fst (isK_T (L := L) hK)) rfl) (x_ruleC (d := 26) (n := n) (mw := (fun j => V 126 (4 * m + j))) hK hP.1 h8 hP.2.2.2.1 hb4) (by omega) ?_
  rintro v V' b' ⟨rfl, h_, g_⟩
  subst V' b'
  refine Ev.blk 3 (B27_18 _ _ _ _ _ ⟨by omega, by omega⟩ (cmpI_in _ _)) rfl ?_
  have cl := cmpI_le ((bsN (fun j => V 126 (4 * m + j)) ^ n : Nat) : Int) 1024
  refine Ev.ite (fun y => ?_) (fun y => ?_)
  rotate_left
  · have y : ¬ bsN (fun j => V 126 (4 * m + j)) ^ n ≤ 1024 := fun w => of_decide_eq_false y (cl.mpr (by omega))
    refine Ev.blk 1 (B27_25 _ _ _ _) rfl ?_
    exact Ev.ret rfl rfl rfl rfl ⟨_, rfl, by decide, rfl, headR V b _ (fun _ _ _ => rfl) (fun _ => ⟨rfl, hi.more (Nat.le_succ N), hI.2⟩) (fun w => absurd w y)⟩
  have y : bsN (fun j => V 126 (4 * m + j)) ^ n ≤ 1024 := by
    have := cl.mp (of_decide_eq_true y)
    omega
  refine Ev.blk 10 (B27_28 _ _ _ _ ⟨by omega, by omega⟩) rfl ?_
  rw [Int.toNat_natCast]
  refine Ev.call rfl rfl (vg rfl rfl (isB_0 hB) (congrArg Prod.fst (isB_T (L := L) hB)) rfl) (x_findK (d := 25) hi hm hn y) (by omega) ?_
  rintro v W1 b1 ⟨rfl, rfl, f1, bk⟩
  have z0 : ∀ W2, bkF W1 W2 → Iv (N + 1) W2 := fun W2 f2 => ⟨(hi.more (Nat.le_succ N)).bst hm f1 f2 bk, fun k => by rw [f2 0 k (by omega) (by omega) (by omega), f1 0 (by omega) (by omega)]; exact hI.2 k⟩
  refine Ev.blk 5 (B27_47 _ _ _ _ ⟨by omega, by omega⟩) rfl ?_
  rw [Int.toNat_natCast]
  refine Ev.ret rfl rfl rfl rfl ⟨_, rfl, bk.2.1, f1 0 (by omega) (by omega), headR W1 b1 _ (fun a h1 h2 => f1 a (by omega) (by omega)) (fun w => absurd y w) (fun _ => ?_)⟩
  refine Ev.blk 2 (B183_37 _ _ _ _) rfl ?_
  refine Ev.call rfl rfl rfl (bk.2.2.2 L W1 b1 (bkS.rf (fun _ _ _ => rfl))) (by omega) ?_
  rintro v W2 b2 ⟨rfl, rfl, k1, _⟩
  exact Ev.ret rfl rfl rfl rfl ⟨rfl, z0 W2 k1⟩
theorem op_bestCost (a0 a1 : Int) (h0 : in32 a0) (h2 : a1 = 0 ∨ a1 = 1) : OpJ 29 190 [.inl a0, .inl a1] := by
  intro L N V b hL hN hI
  have hi := hI.1
  refine Ev.blk 1 (B29_0 _ _ _ _ _) rfl ?_
  refine Ev.call rfl rfl rfl (x_isMachineC (d := 27) h0) (by omega) ?_
  rintro v V' b' ⟨rfl, h_, g_⟩
  subst V' b'
  refine Ev.blk 1 (B29_4 _ _ _ _ _ _ (b01_in _)) rfl ?_
  refine Ev.ite (fun q => ?_) (fun q => ?_)
  rotate_left
  · replace q := b01_0 (nd_f q)
    refine Ev.blk 1 (B29_7 _ _ _ _ _) rfl ?_
    refine Ev.ret rfl rfl rfl rfl ⟨_, rfl, by decide, rfl, ?_⟩
    refine Ev.blk 1 (B190_0 _ _ _ _ _) rfl ?_
    refine Ev.call rfl rfl rfl (x_isMachineR (d := 26) h0) (by omega) ?_
    rintro v V' b' ⟨rfl, h_, g_⟩
    subst V' b'
    refine Ev.blk 1 (B190_4 _ _ _ _ _ _ (b01_in _)) rfl ?_
    refine Ev.ite (fun z => absurd (b01_1 (nd_t z)) (by omega)) (fun _ => ?_)
    refine Ev.blk 1 (B190_7 _ _ _ _ _) rfl ?_
    exact Ev.ret rfl rfl rfl rfl ⟨rfl, hi.more (Nat.le_succ N), hI.2⟩
  replace q := b01_1 (nd_t q)
  obtain ⟨m, rfl⟩ : ∃ m : Nat, a0 = (m : Int) := ⟨a0.toNat, by omega⟩
  have hm : m < 3 := by omega
  have hK : isK (14 + 15 * m) := k_11 (i := (m : Int)) (by omega)
  have hB : isB (24 + 15 * m) := k_13 (i := (m : Int)) (by omega)
  obtain ⟨n, hn, hP, hPR, hPB⟩ := (hi.kd m hm).rows
  have h8 := hPB.2.1
  have hb4 : ∀ j, j < 4 → in32 (V 126 (4 * m + j)) := fun j hj => by
    have := ((hi.kd m hm).mw j hj).2
    have := (hi.kd m hm).w8
    exact ⟨by omega, by omega⟩
  have bd := bs_1024 (mw := (fun j => V 126 (4 * m + j))) h8
  have headR : ∀ (W : Mv) (b' : Bool) (Q : Option AV → Mv → Bool → Prop), (∀ y, 121 ≤ y → y ≤ 127 → W y = V y) → (¬ bsN (fun j => V 126 (4 * m + j)) ^ n ≤ 1024 → Q (some (.inr (.inl (-3)))) W b') → (bsN (fun j => V 126 (4 * m + j)) ^ n ≤ 1024 → Ev L 29 190 38 [some (.inr (.inr 120)), some (.inl (m : Int)), some (.inl a1)] [] W b' Q) → Ex L 29 190 (.inr (.inr 120) :: [.inl (m : Int), .inl a1]) W b' Q := fun W b' Q fw k0 k1 => by
    have eR : W 121 ((m : Int)).toNat = (n : Int) := by rw [Int.toNat_natCast, fw 121 (by omega) (by omega)]; exact hn
    refine Ev.blk 1 (B190_0 _ _ _ _ _) rfl ?_
    refine Ev.call rfl rfl rfl (x_isMachineR (d := 26) h0) (by omega) ?_
    rintro v V' b'' ⟨rfl, h_, g_⟩
    subst V' b''
    refine Ev.blk 1 (B190_4 _ _ _ _ _ _ (b01_in _)) rfl ?_
    refine Ev.ite (fun _ => ?_) (fun z => absurd (show 0 ≤ (m : Int) ∧ (m : Int) ≤ 2 by omega) (b01_0 (nd_f z)))
    refine Ev.blk 3 (B190_11 _ _ _ _ _) rfl ?_
    refine Ev.call rfl rfl rfl (x_many (d := 27) (m := (m : Int)) (hi.bdR.fr fw) (by omega)) (by omega) ?_
    rintro v V' b'' ⟨rfl, h_, g_⟩
    subst V' b''
    rw [Int.toNat_natCast, pcm_congr (g := (fun j => V 126 (4 * m + j))) (fun j _ => by rw [fw 126 (by omega) (by omega)])]
    refine Ev.blk 6 (B190_17 _ _ _ _ _ _ ⟨by omega, by omega⟩) rfl ?_
    rw [eR, ← bsN_pcm]
    refine Ev.call rfl rfl rfl (x_powR (d := 28) ⟨bs_pos _, bs_5 _⟩ h8) (by omega) ?_
    rintro v V' b'' ⟨rfl, rfl, z, rfl, z1, z2⟩
    refine Ev.blk 2 (B190_28 _ _ _ _ _ _ z1) rfl ?_
    refine Ev.ite (fun y => ?_) (fun y => ?_)
    · exact k1 (z2.mp (of_decide_eq_true y))
    · refine Ev.blk 1 (B190_34 _ _ _ _ _) rfl ?_
      exact Ev.ret rfl rfl rfl rfl (k0 (fun w => of_decide_eq_false y (z2.mpr w)))
  refine Ev.blk 4 (B29_11 _ _ _ _ _ ⟨by omega, by omega⟩) rfl ?_
  rw [Int.toNat_natCast]
  refine Ev.call rfl rfl (vg rfl rfl (isK_0 hK) (congrArg Prod.fst (isK_T (L := L) hK)) rfl) (x_ruleC (d := 26) (n := n) (mw := (fun j => V 126 (4 * m + j))) hK hP.1 h8 hP.2.2.2.1 hb4) (by omega) ?_
  rintro v V' b' ⟨rfl, h_, g_⟩
  subst V' b'
  refine Ev.blk 3 (B29_20 _ _ _ _ _ _ ⟨by omega, by omega⟩ (cmpI_in _ _)) rfl ?_
  have cl := cmpI_le ((bsN (fun j => V 126 (4 * m + j)) ^ n : Nat) : Int) 1024
  refine Ev.ite (fun y => ?_) (fun y => ?_)
  rotate_left
  · have y : ¬ bsN (fun j => V 126 (4 * m + j)) ^ n ≤ 1024 := fun w => of_decide_eq_false y (cl.mpr (by omega))
    refine Ev.blk 1 (B29_27 _ _ _ _ _) rfl ?_
    exact Ev.ret rfl rfl rfl rfl ⟨_, rfl, by decide, rfl, headR V b _ (fun _ _ _ => rfl) (fun _ => ⟨rfl, hi.more (Nat.le_succ N), hI.2⟩) (fun w => absurd w y)⟩
  have y : bsN (fun j => V 126 (4 * m + j)) ^ n ≤ 1024 := by
    have := cl.mp (of_decide_eq_true y)
    omega
  refine Ev.blk 10 (B29_31 _ _ _ _ _ ⟨by omega, by omega⟩) rfl ?_
  rw [Int.toNat_natCast]
  refine Ev.call rfl rfl (vg rfl rfl (isB_0 hB) (congrArg Prod.fst (isB_T (L := L) hB)) rfl) (x_findK (d := 25) hi hm hn y) (by omega) ?_
  rintro v W1 b1 ⟨rfl, rfl, f1, bk⟩
  have z0 : ∀ W2, bkF W1 W2 → Iv (N + 1) W2 := fun W2 f2 => ⟨(hi.more (Nat.le_succ N)).bst hm f1 f2 bk, fun k => by rw [f2 0 k (by omega) (by omega) (by omega), f1 0 (by omega) (by omega)]; exact hI.2 k⟩
  have e50 : W1 (24 + 15 * ((m : Int)).toNat) 0 = W1 (24 + 15 * m) 0 := by rw [Int.toNat_natCast]
  refine Ev.blk 7 (B29_50 _ _ _ _ _ ⟨by omega, by omega⟩ (by rw [e50]; exact bk.2.1)) rfl ?_
  rw [e50]
  refine Ev.ite (fun w => ?_) (fun w => ?_)
  · replace w := nd_t w
    have hc : in64 (W1 (25 + 15 * m) 0) ∧ in64 (W1 (25 + 15 * m) 1) := by
      rcases bk.2.2.1 with z | z
      · exact absurd z w
      · exact z
    have hF : isF (24 + 15 * m + 1) := isB_C1 hB
    refine Ev.blk 6 (B29_68 _ _ _ _ _ ⟨by omega, by omega⟩) rfl ?_
    rw [Int.toNat_natCast]
    refine Ev.call rfl rfl (vg rfl rfl (isF_0 hF) (congrArg Prod.fst (isF_T (L := L) hF)) rfl) (x_toldC (d := 28) hF h2) (by omega) ?_
    rintro v V' b' ⟨rfl, h_, g_⟩
    subst V' b'
    rw [show 24 + 15 * m + 1 = 25 + 15 * m by omega]
    refine Ev.ret rfl rfl rfl rfl ⟨_, rfl, ?_, f1 0 (by omega) (by omega), headR _ _ _ (fun a h1 h2 => f1 a (by omega) (by omega)) (fun w => absurd y w) (fun _ => ?_)⟩
    · split
      · exact hc.2
      · exact hc.1
    refine Ev.blk 2 (B190_38 _ _ _ _ _) rfl ?_
    refine Ev.call rfl rfl rfl (bk.2.2.2 L _ _ (bkS.rf (fun _ _ _ => rfl))) (by omega) ?_
    rintro v W2 b2 ⟨rfl, rfl, k1, k2⟩
    have k2 := k2.resolve_left w
    refine Ev.blk 2 (B190_43 _ _ _ _ _ _ bk.2.1) rfl ?_
    refine Ev.ite (fun _ => ?_) (fun z => absurd (nd_f z) w)
    refine Ev.blk 2 (B190_54 _ _ _ _ _ ⟨by omega, by omega⟩) rfl ?_
    refine Ev.ite (fun z => ?_) (fun z => ?_)
    · replace z := of_decide_eq_true z
      refine Ev.blk 2 (B190_65 _ _ _ _ _) rfl ?_
      refine Ev.ret rfl rfl rfl rfl ⟨?_, z0 W2 k1⟩
      rw [if_pos z, k2.2]
    · replace z := of_decide_eq_false z
      refine Ev.blk 3 (B190_58 _ _ _ _ _) rfl ?_
      refine Ev.ret rfl rfl rfl rfl ⟨?_, z0 W2 k1⟩
      rw [if_neg z, k2.1]
  · replace w := nd_f w
    refine Ev.blk 1 (B29_64 _ _ _ _ _) rfl ?_
    refine Ev.ret rfl rfl rfl rfl ⟨_, rfl, by decide, f1 0 (by omega) (by omega), headR _ _ _ (fun a h1 h2 => f1 a (by omega) (by omega)) (fun w => absurd y w) (fun _ => ?_)⟩
    refine Ev.blk 2 (B190_38 _ _ _ _ _) rfl ?_
    refine Ev.call rfl rfl rfl (bk.2.2.2 L _ _ (bkS.rf (fun _ _ _ => rfl))) (by omega) ?_
    rintro v W2 b2 ⟨rfl, rfl, k1, k2⟩
    rw [w]
    refine Ev.blk 2 (B190_43 _ _ _ _ _ _ (by decide)) rfl ?_
    refine Ev.ite (fun z => absurd z (by decide)) (fun _ => ?_)
    refine Ev.blk 2 (B190_48 _ _ _ _ _) rfl ?_
    exact Ev.ret rfl rfl rfl rfl ⟨rfl, z0 W2 k1⟩
