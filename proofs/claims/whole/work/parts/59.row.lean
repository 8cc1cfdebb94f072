/-! a row of the log, both sides (specs18.py) -/
/-- a row of the log: the answer -/
def rwA (G : Nat → Nat → Int) (q mw : Nat → Int) (r : Int) (w : Nat → Int) : Int := if 2 ≤ r then (if mw (r - 2).toNat = -9 then -1 else 1) else if sA (dF G w) = 1 then sA (kF q r (nrm (dF G w))) else sA (dF G w)
/-- and the weights then -/
def rwW (G : Nat → Nat → Int) (q mw : Nat → Int) (r : Int) (w : Nat → Int) : Nat → Int := if 2 ≤ r then one1 (mw (r - 2).toNat) else nrm (kF q r (nrm (dF G w)))
/-- what may be said of a machine's rows -/
def Mk (G : Nat → Nat → Int) (q mw : Nat → Int) (n : Int) : Prop := (∀ i j, i < 8 → j < 8 → 0 ≤ G i j ∧ G i j ≤ 10) ∧ (∀ i j : Nat, i < 8 → j < 8 → (i : Int) < n → n ≤ (j : Int) → G i j = 0) ∧ (∀ j, j < 8 → 0 ≤ q j ∧ q j ≤ 9) ∧ (∀ j, j < 4 → mw j = -9 ∨ 0 ≤ mw j ∧ mw j + 2 ≤ n) ∧ n ≤ 8
theorem Kd.mk2 {V : Mv} {K m : Nat} (h : Kd V K m) : Mk (fun a c => rGo V (m : Int) (a : Int) (c : Int)) (fun j => V 125 (8 * m + j)) (fun j => V 126 (4 * m + j)) (V 121 m) := by
  refine ⟨fun a c ha hc => rGo_bd h ha hc, fun a c ha hc h1 h2 => ?_, fun j hj => (h.kn j hj).2, fun j hj => (h.mw j hj).2, h.w8⟩
  show rGo V (m : Int) (a : Int) (c : Int) = 0
  unfold rGo
  rw [if_neg (by omega), show (64 * (m : Int) + 8 * (a : Int) + (c : Int)).toNat = 64 * m + 8 * a + c by omega]
  exact h.tn0 a c ha hc (by omega)
theorem rw_m0 {G : Nat → Nat → Int} {q mw : Nat → Int} {r : Int} {w : Nat → Int} (h : 2 ≤ r) (h1 : mw (r - 2).toNat = -9) : rwA G q mw r w = -1 := by
  unfold rwA
  rw [if_pos h, if_pos h1]
theorem rw_m1 {G : Nat → Nat → Int} {q mw : Nat → Int} {r : Int} {w : Nat → Int} (h : 2 ≤ r) (h1 : ¬ mw (r - 2).toNat = -9) : rwA G q mw r w = 1 := by
  unfold rwA
  rw [if_pos h, if_neg h1]
theorem rw_mW {G : Nat → Nat → Int} {q mw : Nat → Int} {r : Int} {w : Nat → Int} (h : 2 ≤ r) : rwW G q mw r w = one1 (mw (r - 2).toNat) := by
  unfold rwW
  rw [if_pos h]
theorem rw_d0 {G : Nat → Nat → Int} {q mw : Nat → Int} {r : Int} {w : Nat → Int} (h : ¬ 2 ≤ r) (h1 : ¬ sA (dF G w) = 1) : rwA G q mw r w = sA (dF G w) := by
  unfold rwA
  rw [if_neg h, if_neg h1]
theorem rw_d1 {G : Nat → Nat → Int} {q mw : Nat → Int} {r : Int} {w : Nat → Int} (h : ¬ 2 ≤ r) (h1 : sA (dF G w) = 1) : rwA G q mw r w = sA (kF q r (nrm (dF G w))) := by
  unfold rwA
  rw [if_neg h, if_pos h1]
theorem rw_dW {G : Nat → Nat → Int} {q mw : Nat → Int} {r : Int} {w : Nat → Int} (h : ¬ 2 ≤ r) : rwW G q mw r w = nrm (kF q r (nrm (dF G w))) := by
  unfold rwW
  rw [if_neg h]
theorem rw_c (G : Nat → Nat → Int) (q mw : Nat → Int) (r : Int) (w : Nat → Int) : rwA G q mw r w = -1 ∨ rwA G q mw r w = -3 ∨ rwA G q mw r w = -4 ∨ rwA G q mw r w = 1 := by
  by_cases h : 2 ≤ r
  · by_cases h1 : mw (r - 2).toNat = -9
    · exact Or.inl (rw_m0 h h1)
    · exact Or.inr (Or.inr (Or.inr (rw_m1 h h1)))
  · by_cases h1 : sA (dF G w) = 1
    · rw [rw_d1 h h1]
      exact Or.inr (sA_c _)
    · rw [rw_d0 h h1]
      exact Or.inr (sA_c _)
theorem dF_z2 {G : Nat → Nat → Int} {q mw f : Nat → Int} {n : Int} (hM : Mk G q mw n) (hz : ∀ a : Nat, a < 8 → n ≤ (a : Int) → f a = 0) : ∀ j : Nat, j < 8 → n ≤ (j : Int) → dF G f j = 0 := by
  intro j hj hn
  unfold dF
  refine sumN_0 (j + 1) (fun i hi => ?_)
  by_cases q : n ≤ (i : Int)
  · rw [hz i (by omega) q, Int.zero_mul]
  · rw [hM.2.1 i j (by omega) hj (by omega) hn, Int.mul_zero]
theorem day_wt {G : Nat → Nat → Int} {q mw : Nat → Int} {w : Nat → Int} {n : Int} (hM : Mk G q mw n) (hw : Wt w n) (h1 : sA (dF G w) = 1) : Wt (nrm (dF G w)) n := nrm_wt h1 (fun j hj => (dF_bd hw.b (fun i hi => hM.1 i j hi hj) hj).1) (dF_z2 hM hw.z)
theorem rw_wt {G : Nat → Nat → Int} {q mw : Nat → Int} {r : Int} {w : Nat → Int} {n : Int} (hM : Mk G q mw n) (hw : Wt w n) (hr : 0 ≤ r ∧ r ≤ 5) (h : rwA G q mw r w = 1) : Wt (rwW G q mw r w) n := by
  by_cases h2 : 2 ≤ r
  · rw [rw_mW h2]
    by_cases h1 : mw (r - 2).toNat = -9
    · rw [rw_m0 h2 h1] at h
      exact absurd h (by decide)
    · have h3 := hM.2.2.2.1 (r - 2).toNat (by omega)
      have h4 := hM.2.2.2.2
      obtain ⟨k, hk⟩ : ∃ k : Nat, mw (r - 2).toNat = (k : Int) := ⟨(mw (r - 2).toNat).toNat, by omega⟩
      rw [hk]
      exact one1_wt (by omega) (by omega)
  · rw [rw_dW h2]
    by_cases h1 : sA (dF G w) = 1
    · rw [rw_d1 h2 h1] at h
      have h5 := day_wt hM hw h1
      refine nrm_wt h (fun j hj => ?_) (kF_z h5.z)
      have := hM.2.2.1 j hj
      exact (kF_bd (h5.b j hj) (by omega)).1
    · rw [rw_d0 h2 h1] at h
      exact absurd h h1
theorem x_follow {L d : Nat} {V : Mv} {b : Bool} {a c : Nat} {G : Nat → Nat → Int} {q mw w : Nat → Int} {r n : Int} (ha : isT a) (hc : isK c) (hM : Mk G q mw n) (hr : 0 ≤ r ∧ r ≤ 5) (hG : ∀ i j, i < 8 → j < 8 → V (c + 1) (8 * i + j) = G i j) (hq : ∀ j, j < 8 → V (c + 4) j = q j) (hm : ∀ j, j < 4 → V (c + 6) j = mw j) (hv : ∀ j, j < 8 → V (a + 1) j = w j) (hw : Wt w n) : Ex L (d + 3) 86 [.inr (.inr a), .inr (.inr c), .inl r] V b (fun v V' b' => v = some (.inl (rwA G q mw r w)) ∧ b' = b ∧ (∀ x, x ≠ a + 1 → x ≠ a + 2 → V' x = V x) ∧ (rwA G q mw r w = 1 → ∀ j, j < 8 → V' (a + 1) j = rwW G q mw r w j)) := by
  have n1 : c + 4 ≠ a + 1 ∧ c + 4 ≠ a + 2 := by
    unfold isT at ha
    unfold isK at hc
    omega
  refine Ev.blk 3 (B86_0 _ _ _ _ _ _ ⟨by omega, by omega⟩) rfl ?_
  refine Ev.ite (fun z => ?_) (fun z => ?_)
  · have z : ¬ 2 ≤ r := by have := of_decide_eq_true z; omega
    have d1 := dF_congr (G := G) (fun _ _ _ _ => rfl) hv
    refine Ev.blk 2 (B86_31 _ _ _ _ _ _) rfl ?_
    refine Ev.call rfl rfl (vg rfl rfl (isT_0 ha) (congrArg Prod.fst (isT_T ha)) rfl) (x_passDay (d := d) (G := G) ha hc hG hM.1 (fun j hj => by rw [hv j hj]; exact hw.b j hj)) (by omega) ?_
    rintro v V1 b1 ⟨rfl, rfl, f1, f2, f5⟩
    rw [sA_congr d1] at f2 f5 ⊢
    have hs := sA_c (dF G w)
    refine Ev.blk 3 (B86_36 _ _ _ _ _ _ _ ⟨by omega, by omega⟩) rfl ?_
    refine Ev.ite (fun z2 => ?_) (fun z2 => ?_)
    · have z2 : sA (dF G w) = 1 := by have := of_decide_eq_true z2; omega
      have hw2 := day_wt hM hw z2
      have v1 : ∀ j, j < 8 → V1 (a + 1) j = nrm (dF G w) j := fun j hj => by rw [f2 z2 j hj]; exact nrm_congr d1 j hj
      have v2 : ∀ j, j < 8 → V1 (c + 4) j = q j := fun j hj => by rw [f1 _ n1.1 n1.2]; exact hq j hj
      have d3 : ∀ u : Int, ∀ j, j < 8 → kF (V1 (c + 4)) u (V1 (a + 1)) j = kF q u (nrm (dF G w)) j := fun u => kF_congr v2 v1
      have last : ∀ u : Int, in32 u → u = r → ∀ ls, Ev L (d + 3) 86 57 ls [.inl u, .inr (.inr c), .inr (.inr a)] V1 b1 (fun v V' b' => v = some (.inl (rwA G q mw r w)) ∧ b' = b1 ∧ (∀ x, x ≠ a + 1 → x ≠ a + 2 → V' x = V x) ∧ (rwA G q mw r w = 1 → ∀ j, j < 8 → V' (a + 1) j = rwW G q mw r w j)) := by
        intro u hu he ls
        subst he
        rw [rw_d1 z z2, rw_dW z]
        refine Ev.call rfl rfl (vg rfl rfl (isT_0 ha) (congrArg Prod.fst (isT_T ha)) rfl) (x_takeKnock (d := d) ha hc hu (fun j hj => by rw [v2 j hj]; exact hM.2.2.1 j hj) (fun j hj => by rw [v1 j hj]; exact hw2.b j hj)) (by omega) ?_
        rintro v V2 b2 ⟨rfl, rfl, g1, g2, g5⟩
        rw [sA_congr (d3 u)] at g2 ⊢
        refine Ev.ret rfl rfl rfl rfl ⟨rfl, rfl, fun x n1 n2 => by rw [g1 x n1 n2, f1 x n1 n2], fun z3 j hj => ?_⟩
        rw [g2 z3 j hj]
        exact nrm_congr (d3 u) j hj
      refine Ev.blk 5 (B86_45 _ _ _ _ _ _ _ ⟨by omega, by omega⟩) rfl ?_
      refine Ev.ite (fun z3 => ?_) (fun z3 => ?_)
      · replace z3 := nd_t z3
        refine Ev.blk 1 (B86_56 _ _ _ _ _ _ _ _ _) rfl ?_
        exact last 0 (by decide) (by omega) _
      · replace z3 := nd_f z3
        refine Ev.blk 2 (B86_52 _ _ _ _ _ _ _ _ _) rfl ?_
        exact last 1 (by decide) (by omega) _
    · have z2 : ¬ sA (dF G w) = 1 := by have := of_decide_eq_false z2; omega
      refine Ev.blk 2 (B86_41 _ _ _ _ _ _ _) rfl ?_
      refine Ev.ret rfl rfl rfl rfl ⟨by rw [rw_d0 z z2], rfl, f1, fun z3 => ?_⟩
      rw [rw_d0 z z2] at z3
      exact absurd z3 z2
  · have z : 2 ≤ r := by have := of_decide_eq_false z; omega
    have h3 := hM.2.2.2.1 (r - 2).toNat (by omega)
    have h4 := hm (r - 2).toNat (by omega)
    have h5 := hM.2.2.2.2
    refine Ev.blk 4 (B86_5 _ _ _ _ _ _) rfl ?_
    refine Ev.call rfl rfl (vg rfl rfl (isK_0 hc) (congrArg Prod.fst (isK_T hc)) rfl) (x_hasMending (d := d) hc ⟨by omega, by omega⟩ (fun j hj => by have h6 := hM.2.2.2.1 j.toNat (by omega); rw [hm j.toNat (by omega)]; exact ⟨by omega, by omega⟩)) (by omega) ?_
    rintro v V1 b1 ⟨rfl, rfl, rfl⟩
    refine Ev.blk 1 (B86_12 _ _ _ _ _ _ _ (b01_in _)) rfl ?_
    rw [h4]
    refine Ev.ite (fun z2 => ?_) (fun z2 => ?_)
    · replace z2 := b01_1 (nd_t z2)
      refine Ev.blk 7 (B86_17 _ _ _ _ _ _ hc ⟨by omega, by omega⟩) rfl ?_
      rw [h4]
      refine Ev.call rfl rfl (vg rfl rfl (isT_0 ha) (congrArg Prod.fst (isT_T ha)) rfl) (x_settleC (d := d) ha ⟨by omega, by omega⟩) (by omega) ?_
      rintro v V2 b2 ⟨rfl, rfl, rfl⟩
      refine Ev.blk 1 (B86_29 _ _ _ _ _ _) rfl ?_
      refine Ev.ret rfl rfl rfl rfl ⟨by rw [rw_m1 z z2.2.2], rfl, fun x n1 n2 => fil_ne n1, fun _ j hj => ?_⟩
      rw [fil_z hj, rw_mW z]
    · replace z2 := b01_0 (nd_f z2)
      have z3 : mw (r - 2).toNat = -9 := by omega
      refine Ev.blk 1 (B86_15 _ _ _ _ _ _) rfl ?_
      refine Ev.ret rfl rfl rfl rfl ⟨by rw [rw_m0 z z3], rfl, fun x n1 n2 => rfl, fun z4 => ?_⟩
      rw [rw_m0 z z3] at z4
      exact absurd z4 (by decide)
theorem x_tryRow {L d : Nat} {V : Mv} {b : Bool} {m k : Nat} {G : Nat → Nat → Int} {q mw w : Nat → Int} {r n : Int} (hm3 : m < 3) (hk : k < 16) (hB : BdR V) (hM : Mk G q mw n) (hn : V 121 m = n) (hrk : V 145 k = r) (hr : 0 ≤ r ∧ r ≤ 5) (hG : ∀ i j : Nat, i < 8 → j < 8 → rGo V (m : Int) (i : Int) (j : Int) = G i j) (hq : ∀ j, j < 8 → V 125 (8 * m + j) = q j) (hm : ∀ j, j < 4 → V 126 (4 * m + j) = mw j) (hv : ∀ j, j < 8 → V 131 j = w j) (hw : Wt w n) : Ex L (d + 4) 225 [.inr (.inr 120), .inl (m : Int), .inl (k : Int)] V b (fun v V' b' => v = some (.inl (rwA G q mw r w)) ∧ b' = b ∧ (∀ x, x ≠ 131 → x ≠ 132 → V' x = V x) ∧ (rwA G q mw r w = 1 → ∀ j, j < 8 → V' 131 j = rwW G q mw r w j)) := by
  obtain ⟨wn, hwn⟩ : ∃ wn : Nat, V 121 m = (wn : Int) := ⟨(V 121 m).toNat, by have := hB.w8 (i := (m : Int)) (by omega); rw [Int.toNat_natCast] at this; omega⟩
  have hn8 := hM.2.2.2.2
  refine Ev.blk 6 (B225_0 _ _ _ _ _ ⟨by omega, by omega⟩ (by rw [Int.toNat_natCast, hrk]; exact ⟨by omega, by omega⟩)) rfl ?_
  rw [Int.toNat_natCast, hrk]
  refine Ev.ite (fun z => ?_) (fun z => ?_)
  · have z : ¬ 2 ≤ r := by have := of_decide_eq_true z; omega
    have d1 : ∀ j, j < 8 → dF (fun a c => rGo V (m : Int) (a : Int) (c : Int)) (V 131) j = dF G w j := dF_congr (fun i j hi hj => hG i j hi hj) hv
    refine Ev.blk 6 (B225_28 _ _ _ _ _ ⟨by omega, by omega⟩ (by rw [Int.toNat_natCast, hrk]; exact ⟨by omega, by omega⟩)) rfl ?_
    rw [Int.toNat_natCast, hrk]
    refine Ev.ite (fun _ => ?_) (fun z2 => absurd (of_decide_eq_false z2) (by omega))
    refine Ev.blk 2 (B225_61 _ _ _ _ _) rfl ?_
    refine Ev.call rfl rfl rfl (x_tryDay (d := d) (m := m) (w := wn) hm3 hwn (by omega) (fun i j hi hj => by rw [hG i j hi hj]; exact hM.1 i j hi hj) (fun j hj => by rw [hv j hj]; exact hw.b j hj) (fun j hj hwj => by rw [d1 j hj]; exact dF_z2 hM hw.z j hj (by omega))) (by omega) ?_
    rintro v V1 b1 ⟨rfl, rfl, f1, f2⟩
    rw [sA_congr d1] at f2 ⊢
    have hs := sA_c (dF G w)
    refine Ev.blk 4 (B225_66 _ _ _ _ _ _ ⟨by omega, by omega⟩) rfl ?_
    refine Ev.ite (fun z2 => ?_) (fun z2 => ?_)
    · replace z2 := nd_t z2
      refine Ev.blk 1 (B225_95 _ _ _ _ _ _) rfl ?_
      refine Ev.ret rfl rfl rfl rfl ⟨by rw [rw_d0 z z2], rfl, f1, fun z3 => ?_⟩
      rw [rw_d0 z z2] at z3
      exact absurd z3 z2
    · replace z2 := nd_f z2
      have hw2 := day_wt hM hw z2
      have v1 : ∀ j, j < 8 → V1 131 j = nrm (dF G w) j := fun j hj => by rw [f2 z2 j hj]; exact nrm_congr d1 j hj
      have v2 : ∀ j, j < 8 → V1 125 (8 * m + j) = q j := fun j hj => by rw [f1 125 (by omega) (by omega)]; exact hq j hj
      have v3 : V1 145 k = r := by rw [f1 145 (by omega) (by omega)]; exact hrk
      have d3 : ∀ u : Int, ∀ j, j < 8 → kF (fun i => V1 125 (8 * m + i)) u (V1 131) j = kF q u (nrm (dF G w)) j := fun u => kF_congr v2 v1
      have last : ∀ u : Int, in32 u → u = r → ∀ x3, Ev L (d + 4) 225 89 [some (.inr (.inr 120)), some (.inl (m : Int)), some (.inl (k : Int)), some (.inl x3)] [.inl u, .inl (m : Int), .inr (.inr 120)] V1 b1 (fun v V' b' => v = some (.inl (rwA G q mw r w)) ∧ b' = b1 ∧ (∀ x, x ≠ 131 → x ≠ 132 → V' x = V x) ∧ (rwA G q mw r w = 1 → ∀ j, j < 8 → V' 131 j = rwW G q mw r w j)) := by
        intro u hu he x3
        subst he
        rw [rw_d1 z z2, rw_dW z]
        refine Ev.call rfl rfl rfl (x_tryKnock (d := d) (m := m) hm3 hu (fun j hj => by rw [v2 j hj]; exact hM.2.2.1 j hj) (fun j hj => by rw [v1 j hj]; exact hw2.b j hj)) (by omega) ?_
        rintro v V2 b2 ⟨rfl, rfl, g1, g2⟩
        rw [sA_congr (d3 u)] at g2 ⊢
        refine Ev.blk 1 (B225_92 _ _ _ _ _ _ _) rfl ?_
        refine Ev.ret rfl rfl rfl rfl ⟨rfl, rfl, fun x n1 n2 => by rw [g1 x n1, f1 x n1 n2], fun z3 j hj => ?_⟩
        rw [g2 z3 j hj]
        exact nrm_congr (d3 u) j hj
      refine Ev.blk 8 (B225_72 _ _ _ _ _ _ ⟨by omega, by omega⟩ (by rw [Int.toNat_natCast, v3]; exact ⟨by omega, by omega⟩)) rfl ?_
      rw [Int.toNat_natCast, v3]
      refine Ev.ite (fun z3 => ?_) (fun z3 => ?_)
      · replace z3 := nd_t z3
        refine Ev.blk 1 (B225_88 _ _ _ _ _ _ _) rfl ?_
        exact last 0 (by decide) (by omega) _
      · replace z3 := nd_f z3
        refine Ev.blk 2 (B225_84 _ _ _ _ _ _ _) rfl ?_
        exact last 1 (by decide) (by omega) _
  · have z : 2 ≤ r := by have := of_decide_eq_false z; omega
    have h3 := hM.2.2.2.1 (r - 2).toNat (by omega)
    have h4 := hm (r - 2).toNat (by omega)
    have e1 : (4 * (m : Int) + (r - 2)).toNat = 4 * m + (r - 2).toNat := by omega
    have e2 : (4 * (m : Int) + r - 2).toNat = 4 * m + (r - 2).toNat := by omega
    refine Ev.blk 8 (B225_10 _ _ _ _ _ ⟨by omega, by omega⟩) rfl ?_
    rw [Int.toNat_natCast, hrk]
    refine Ev.call rfl rfl rfl (x_isMendingR (d := d) (m := (m : Int)) (j := r - 2) hB ⟨by omega, by omega⟩ ⟨by omega, by omega⟩) (by omega) ?_
    rintro v V1 b1 ⟨rfl, rfl, rfl⟩
    rw [e1, h4]
    refine Ev.blk 1 (B225_23 _ _ _ _ _ _ (b01_in _)) rfl ?_
    refine Ev.ite (fun z2 => ?_) (fun z2 => ?_)
    · replace z2 := b01_1 (nd_t z2)
      refine Ev.blk 6 (B225_28 _ _ _ _ _ ⟨by omega, by omega⟩ (by rw [Int.toNat_natCast, hrk]; exact ⟨by omega, by omega⟩)) rfl ?_
      rw [Int.toNat_natCast, hrk]
      refine Ev.ite (fun z3 => absurd (of_decide_eq_true z3) (by omega)) (fun _ => ?_)
      refine Ev.blk 14 (B225_38 _ _ _ _ _ ⟨by omega, by omega⟩ (by rw [Int.toNat_natCast, hrk]; exact ⟨by omega, by omega⟩)) rfl ?_
      rw [Int.toNat_natCast, hrk, e2, h4]
      refine Ev.call rfl rfl rfl (x_seen (d := d) ⟨by omega, by omega⟩) (by omega) ?_
      rintro v V2 b2 ⟨rfl, rfl, rfl⟩
      refine Ev.blk 1 (B225_59 _ _ _ _ _) rfl ?_
      refine Ev.ret rfl rfl rfl rfl ⟨by rw [rw_m1 z z2.2.2], rfl, fun x n1 n2 => fil_ne n1, fun _ j hj => ?_⟩
      rw [fil_z hj, rw_mW z]
    · replace z2 := b01_0 (nd_f z2)
      have z3 : mw (r - 2).toNat = -9 := by omega
      refine Ev.blk 1 (B225_26 _ _ _ _ _) rfl ?_
      refine Ev.ret rfl rfl rfl rfl ⟨by rw [rw_m0 z z3], rfl, fun x n1 n2 => rfl, fun z4 => ?_⟩
      rw [rw_m0 z z3] at z4
      exact absurd z4 (by decide)
