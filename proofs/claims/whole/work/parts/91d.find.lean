/-! the best rule, in the class (specs74.py) -/
theorem gcd_ne {n : Nat} {G : Nat → Nat → Int} {co mw mc act : Nat → Int} (h : RB n G co mw mc act) (ok : rOk n G mw act) : Nat.gcd (rN n G co mw mc act) (rE n G co mw mc act) = 1 := Nat.gcd_div_gcd_div_gcd_of_pos_right (h.ud ok.1 ok.2).2.2.2.1
/-- what the class has found so far -/
def bsW (W : Mv) (x : Nat) (mw : Nat → Int) (s : Int × Nat × Nat) : Prop := W x 6 = 1 ∧ W x 5 = (bsN mw : Int) ∧ (∀ j, j < bsN mw → W (x + 4) j = (chN mw j : Int)) ∧ W x 0 = s.1 ∧ (s.2.2 = 0 ∨ (W (x + 1) 0 = (s.2.1 : Int) ∧ W (x + 1) 1 = (s.2.2 : Int)))
theorem bsW.fr {W W2 : Mv} {x : Nat} {mw : Nat → Int} {s : Int × Nat × Nat} (h : bsW W x mw s) (h0 : W2 x = W x) (h1 : W2 (x + 1) = W (x + 1)) (h4 : W2 (x + 4) = W (x + 4)) : bsW W2 x mw s := by
  unfold bsW
  rw [h0, h1, h4]
  exact h
theorem fnd_lp {L d : Nat} {V : Mv} {b : Bool} {Q : Option AV → Mv → Bool → Prop} {x c n : Nat} {G : Nat → Nat → Int} {co mw mc : Nat → Int} (hx : isB x) (hc : isK c) (hP : PK V c n G co mw mc) (hR : ∀ y, RB n G co mw mc (dg y n)) (hM : bsN mw ^ n ≤ 1024) (hQ : ∀ W, (∀ y, ¬ (x ≤ y ∧ y ≤ x + 4) → ¬ (100 ≤ y ∧ y ≤ 106) → W y = V y) → bsW W x mw (foC n G co mw mc (bsN mw ^ n)) → Q none W b) : ∀ (g i : Nat) (W : Mv), i + g = bsN mw ^ n → (∀ y, ¬ (x ≤ y ∧ y ≤ x + 4) → ¬ (100 ≤ y ∧ y ≤ 106) → W y = V y) → bsW W x mw (foC n G co mw mc i) → Ev L (d + 3) 106 38 [some (.inr (.inr x)), some (.inr (.inr c)), some (.inr (.inr 100)), some (.inr (.inl ((bsN mw ^ n : Nat) : Int))), none, some (.inl (i : Int)), none] [] W b Q
  | 0, i, W, h, w1, w2 => by
    obtain rfl : i = bsN mw ^ n := by omega
    have ce := cmpI_lt ((bsN mw ^ n : Nat) : Int) ((bsN mw ^ n : Nat) : Int)
    refine Ev.blk 5 (B106_38 _ _ _ _ _ _ _ (nat32 (by omega)) ⟨by omega, by omega⟩ ⟨by omega, by omega⟩ (cmpI_in _ _)) rfl ?_
    refine Ev.ite (fun _ => ?_) (fun z => absurd (ce.mp (by have := of_decide_eq_false z; omega)) (by omega))
    exact Ev.ret rfl rfl rfl rfl (hQ W w1 w2)
  | g + 1, i, W, h, w1, w2 => by
    have xb := isB_b hx
    have c44 := isK_ne hc
    have h8 := (hR 0).1.2.1
    have hn2 := (hR 0).1.1
    have sI := foC_i h8 hR i
    have hRi := hR (nmb mw n i)
    have kb : ∀ y, c ≤ y → y ≤ c + 6 → ¬ (x ≤ y ∧ y ≤ x + 4) := fun y h1 h2 h3 => by
      have := isKB (i := y - c) (j := y - x) hc hx (by omega) (by omega)
      omega
    have nxt : ∀ (W2 : Mv) (x6 : Int), (∀ y, ¬ (x ≤ y ∧ y ≤ x + 4) → ¬ (100 ≤ y ∧ y ≤ 106) → W2 y = V y) → bsW W2 x mw (foC n G co mw mc (i + 1)) → Ev L (d + 3) 106 151 [some (.inr (.inr x)), some (.inr (.inr c)), some (.inr (.inr 100)), some (.inr (.inl ((bsN mw ^ n : Nat) : Int))), none, some (.inl (i : Int)), some (.inl x6)] [] W2 b Q := fun W2 x6 f s => by
      refine Ev.blk 2 (B106_151 _ _ _ _ _ _ _ _) rfl ?_
      refine Ev.kill [false, false, false, false, false, false, true] ?_
      dsimp only [mkl]
      exact fnd_lp (L := L) (d := d) hx hc hP hR hM hQ g (i + 1) W2 (by omega) f s
    have ce := cmpI_lt (i : Int) ((bsN mw ^ n : Nat) : Int)
    refine Ev.blk 5 (B106_38 _ _ _ _ _ _ _ (nat32 (by omega)) ⟨by omega, by omega⟩ ⟨by omega, by omega⟩ (cmpI_in _ _)) rfl ?_
    refine Ev.ite (fun z => absurd (ce.mpr (by omega)) (by have := of_decide_eq_true z; omega)) (fun _ => ?_)
    refine Ev.blk 3 (B106_46 _ _ _ _ _ _ _) rfl ?_
    refine Ev.call rfl rfl (vg rfl rfl (isB_0 hx) (congrArg Prod.fst (isB_T hx)) rfl) (x_numOf (d := d) (mw := mw) hx hc (by rw [w1 c (kb c (by omega) (by omega)) (by omega)]; exact hP.1) h8 (by omega) w2.2.1 w2.2.2.1) (by omega) ?_
    rintro v W2 b2 ⟨rfl, rfl, v1, v2⟩
    have P2 : PK W2 c n G co mw mc := hP.frame (fun y h1 h2 => by
      have := kb y h1 h2
      rw [v1 y (by omega), w1 y this (by omega)])
    refine Ev.blk 5 (B106_53 _ _ _ _ _ _ _ _ hx) rfl ?_
    refine Ev.call rfl rfl rfl (x_obey (d := d) hc (isB_A3 hx) (by omega) P2 hRi v2) (by omega) ?_
    rintro v W3 b3 ⟨rfl, u1, u2⟩
    rcases u2 with ⟨rfl, hm, o1, o2, o3⟩ | ⟨_, nm⟩
    rotate_left
    · exact absurd (nmb_dg mw n i) nm
    have P3 : PK W3 c n G co mw mc := P2.frame (fun y h1 h2 => u1 y (by omega) (by omega) (by omega))
    refine Ev.blk 1 (B106_64 _ _ _ _ _ _ _ _ _ (by decide)) rfl ?_
    refine Ev.ite (fun z => absurd z (by decide)) (fun _ => ?_)
    refine Ev.blk 3 (B106_67 _ _ _ _ _ _ _ _) rfl ?_
    refine Ev.call rfl rfl rfl (x_mornings (d := d)) (by omega) ?_
    rintro v V' b' ⟨rfl, h_, g_⟩
    subst V' b'
    refine Ev.call rfl rfl (vg rfl rfl (isB_0 hx) (congrArg Prod.fst (isB_T hx)) rfl) (x_isIdle (d := d) (G := G) (mw := mw) hx hc P3.1 h8 (fun a ha => by rw [u1 (x + 3) (by omega) (by omega) (by omega)]; exact v2 a ha) (fun a ha => hRi.2.2.2 a (by omega)) (mor_set (o3 0 (by omega)))) (by omega) ?_
    rintro v V' b' ⟨rfl, rfl, i1⟩
    have f3 : ∀ y, ¬ (x ≤ y ∧ y ≤ x + 4) → ¬ (100 ≤ y ∧ y ≤ 106) → V' y = V y := fun y h1 h2 => by rw [u1 y (by omega) (by omega) (by omega), v1 y (by omega)]; exact w1 y h1 h2
    have r3 : ∀ y, y ≠ x + 3 → ¬ (100 ≤ y ∧ y ≤ 106) → V' y = W y := fun y h1 h2 => by rw [u1 y (by omega) (by omega) (by omega), v1 y h1]
    rcases i1 with ⟨id, rfl⟩ | ⟨nid, rfl⟩
    · refine Ev.blk 1 (B106_76 _ _ _ _ _ _ _ _ _ (by decide)) rfl ?_
      refine Ev.ite (fun _ => ?_) (fun z => absurd z (by decide))
      refine nxt V' _ f3 ?_
      rw [foC_t id]
      exact w2.fr (r3 _ (by omega) (by omega)) (r3 _ (by omega) (by omega)) (r3 _ (by omega) (by omega))
    rw [foC_f nid] at nxt
    refine Ev.blk 1 (B106_76 _ _ _ _ _ _ _ _ _ (by decide)) rfl ?_
    refine Ev.ite (fun z => absurd z (by decide)) (fun _ => ?_)
    refine Ev.blk 4 (B106_79 _ _ _ _ _ _ _ _ hx) rfl ?_
    refine Ev.call rfl rfl rfl (x_settle (d := d) hc (isB_C2 hx) P3 hRi hm o1 o2 o3) (by omega) ?_
    rintro v W4 b4 ⟨rfl, t1, t2⟩
    have f4 : ∀ y, ¬ (x ≤ y ∧ y ≤ x + 4) → ¬ (100 ≤ y ∧ y ≤ 106) → W4 y = V y := fun y h1 h2 => by rw [t1 y h2 (by omega)]; exact f3 y h1 h2
    have s4 : bsW W4 x mw (foC n G co mw mc i) := w2.fr (by rw [t1 x (by omega) (by omega)]; exact r3 _ (by omega) (by omega)) (by rw [t1 (x + 1) (by omega) (by omega)]; exact r3 _ (by omega) (by omega)) (by rw [t1 (x + 4) (by omega) (by omega)]; exact r3 _ (by omega) (by omega))
    rcases t2 with ⟨hk, rfl, e0, e1⟩ | ⟨hk, rfl⟩
    rotate_left
    · rw [lst_f (fun z => hk z.1.2)] at nxt
      refine Ev.blk 1 (B106_88 _ _ _ _ _ _ _ _ _ (by decide)) rfl ?_
      refine Ev.ite (fun _ => ?_) (fun z => absurd z (by decide))
      exact nxt W4 _ f4 s4
    have ok : rOk n G mw (dg (nmb mw n i) n) := ⟨hm, hk⟩
    have bd := hRi.ne ok
    have gc := gcd_ne hRi ok
    refine Ev.blk 1 (B106_88 _ _ _ _ _ _ _ _ _ (by decide)) rfl ?_
    refine Ev.ite (fun z => absurd z (by decide)) (fun _ => ?_)
    have e00 : W4 x 0 = (foC n G co mw mc i).1 := s4.2.2.2.1
    have take : stC (foC n G co mw mc i) n G co mw mc (dg (nmb mw n i) n) → Ev L (d + 3) 106 124 [some (.inr (.inr x)), some (.inr (.inr c)), some (.inr (.inr 100)), some (.inr (.inl ((bsN mw ^ n : Nat) : Int))), none, some (.inl (i : Int)), some (.inl (nmb mw n i : Int))] [] W4 b4 Q := fun cc => by
      rw [lst_t cc] at nxt
      refine Ev.blk 11 (B106_124 _ _ _ _ _ _ _ _ hx) rfl ?_
      rw [uV_ne (a' := x + 2) (by omega), e0, e1]
      refine Ev.call rfl rfl (vg rfl rfl (isF_0 (isB_C1 hx)) (congrArg Prod.fst (isF_T (L := L) (isB_C1 hx))) rfl) (x_become (d := d) (isB_C1 hx) (by omega) (by omega) bd.2.1) (by omega) ?_
      rintro v W5 b5 ⟨rfl, q5, rfl⟩
      rw [gc, Nat.div_one, Nat.div_one] at q5
      refine nxt W5 _ (fun y h1 h2 => ?_) ⟨?_, ?_, fun j hj => ?_, ?_, Or.inr ⟨?_, ?_⟩⟩
      · rw [q5, uV_ne (by omega), uV_ne (by omega), uV_ne (by omega)]
        exact f4 y h1 h2
      · rw [q5, uV_ne (by omega), uV_ne (by omega), uV_at, if_neg (by omega)]
        exact s4.1
      · rw [q5, uV_ne (by omega), uV_ne (by omega), uV_at, if_neg (by omega)]
        exact s4.2.1
      · rw [q5, uV_ne (by omega), uV_ne (by omega), uV_ne (by omega)]
        exact s4.2.2.1 j hj
      · rw [q5, uV_ne (by omega), uV_ne (by omega), uV_at, if_pos rfl]
      · rw [q5, uV_at, if_neg (by omega), uV_at, if_pos rfl]
      · rw [q5, uV_at, if_pos rfl]
    refine Ev.blk 4 (B106_91 _ _ _ _ _ _ _ _ hx (by rw [e00]; exact sI.2.2.2)) rfl ?_
    rw [e00]
    refine Ev.ite (fun z => ?_) (fun z => ?_)
    · replace z := of_decide_eq_true z
      exact take ⟨ok, Or.inl (sI.1.mp z)⟩
    · replace z := of_decide_eq_false z
      have z0 : ¬ (foC n G co mw mc i).2.2 = 0 := fun y => z (sI.1.mpr y)
      have w3 : W4 (x + 1) 0 = ((foC n G co mw mc i).2.1 : Int) ∧ W4 (x + 1) 1 = ((foC n G co mw mc i).2.2 : Int) := by
        rcases s4.2.2.2.2 with y | y
        · exact absurd y z0
        · exact y
      have p1 := prb bd.1 sI.2.2.1
      have p2 := prb sI.2.1 bd.2.2
      have eq : ((rN n G co mw mc (dg (nmb mw n i) n) * (foC n G co mw mc i).2.2 < (foC n G co mw mc i).2.1 * rE n G co mw mc (dg (nmb mw n i) n)) ↔ ((rN n G co mw mc (dg (nmb mw n i) n) : Int) * ((foC n G co mw mc i).2.2 : Int) < ((foC n G co mw mc i).2.1 : Int) * (rE n G co mw mc (dg (nmb mw n i) n) : Int))) := by
        rw [← Int.natCast_mul, ← Int.natCast_mul, Int.ofNat_lt]
      refine Ev.blk 8 (B106_100 _ _ _ _ _ _ _ _ hx) rfl ?_
      rw [w3.1, w3.2]
      refine Ev.call rfl rfl (vg rfl rfl (isF_0 (isB_C2 hx)) (congrArg Prod.fst (isF_T (L := L) (isB_C2 hx))) rfl) (x_cmpW (d := d) (isB_C2 hx) (by rw [e0]; exact p1) (by rw [e1]; exact p2)) (by omega) ?_
      rintro v V' b' ⟨rfl, h_, g_⟩
      subst V' b'
      rw [e0, e1]
      refine Ev.blk 1 (B106_121 _ _ _ _ _ _ _ _ _ (cmpI_in _ _)) rfl ?_
      refine Ev.ite (fun q => ?_) (fun q => ?_)
      · replace q := of_decide_eq_true q
        have nc : ¬ stC (foC n G co mw mc i) n G co mw mc (dg (nmb mw n i) n) := fun cc => by
          rcases cc.2 with r | r
          · exact z0 r
          · have := (cmpI_lt _ _).mpr (eq.mp r)
            omega
        rw [lst_f nc] at nxt
        exact nxt _ _ f4 s4
      · replace q := of_decide_eq_false q
        exact take ⟨ok, Or.inr (eq.mpr ((cmpI_lt _ _).mp (by omega)))⟩
theorem x_findB {L d : Nat} {V : Mv} {b : Bool} {x c n : Nat} {G : Nat → Nat → Int} {co mw mc : Nat → Int} (hx : isB x) (hc : isK c) (hP : PK V c n G co mw mc) (hR : ∀ y, RB n G co mw mc (dg y n)) (hM : bsN mw ^ n ≤ 1024) (h6 : V x 6 = 0) : Ex L (d + 3) 106 [.inr (.inr x), .inr (.inr c), .inr (.inr 100)] V b (fun v W b' => v = none ∧ b' = b ∧ (∀ y, ¬ (x ≤ y ∧ y ≤ x + 4) → ¬ (100 ≤ y ∧ y ≤ 106) → W y = V y) ∧ bsW W x mw (foC n G co mw mc (bsN mw ^ n))) := by
  have xb := isB_b hx
  have c44 := isK_ne hc
  have h8 := (hR 0).1.2.1
  have hbw : ∀ j, j < 4 → in32 (mw j) := fun j hj => by
    have := (hR 0).1.2.2.2.2.1 j hj
    exact ⟨by omega, by omega⟩
  have kb : ∀ i, i ≤ 6 → ¬ (x ≤ c + i ∧ c + i ≤ x + 4) := fun i h1 h3 => by
    have := isKB (i := i) (j := c + i - x) hc hx (by omega) (by omega)
    omega
  have k0 := kb 0 (by omega)
  have k6 := kb 6 (by omega)
  refine Ev.blk 3 (B106_0 _ _ _ _ _ hx (by rw [h6]; decide)) rfl ?_
  rw [h6]
  refine Ev.ite (fun _ => ?_) (fun z => absurd z (by decide))
  refine Ev.blk 8 (B106_8 _ _ _ _ _ hx) rfl ?_
  refine Ev.call rfl rfl (vg rfl rfl (isB_0 hx) (congrArg Prod.fst (isB_T hx)) rfl) (x_listC (d := d) (mw := mw) hx hc (fun j hj => by rw [uV_ne (by omega), uV_ne (by omega)]; exact hP.2.2.2.1 j hj) hbw) (by omega) ?_
  rintro v W b2 ⟨rfl, rfl, w1, w2, w3, w4⟩
  have f1 : (∀ y, ¬ (x ≤ y ∧ y ≤ x + 4) → ¬ (100 ≤ y ∧ y ≤ 106) → W y = V y) := fun y h1 h2 => by rw [w1 y (by omega) (by omega), uV_ne (by omega), uV_ne (by omega)]
  refine Ev.blk 1 (B106_24 _ _ _ _ _) rfl ?_
  refine Ev.call rfl rfl (vg rfl rfl (isK_0 hc) (congrArg Prod.fst (isK_T hc)) rfl) (x_ruleC (d := d) (n := n) (mw := mw) hc (by rw [f1 c (by omega) (by omega)]; exact hP.1) h8 (fun j hj => by rw [f1 (c + 6) (by omega) (by omega)]; exact hP.2.2.2.1 j hj) hbw) (by omega) ?_
  rintro v V' b' ⟨rfl, h_, g_⟩
  subst V' b'
  refine Ev.blk 5 (B106_28 _ _ _ _ _ _ ⟨by omega, by omega⟩) rfl ?_
  rw [decide_eq_false (show ¬ 1024 < ((bsN mw ^ n : Nat) : Int) by omega)]
  refine fnd_lp (V := V) hx hc hP hR hM (fun W2 f s => ⟨rfl, rfl, f, s⟩) (bsN mw ^ n) 0 W (by omega) f1 ⟨?_, w3, w4, ?_, Or.inl rfl⟩
  · rw [w2 6 (by omega), uV_at, if_neg (by omega), uV_at, if_pos rfl]
  · rw [w2 0 (by omega), uV_at, if_pos rfl]
    rfl
