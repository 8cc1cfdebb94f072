/-! the class obeys a rule (specs58.py) -/
theorem ob_33 {L d : Nat} {V W : Mv} {b : Bool} {Q : Option AV → Mv → Bool → Prop} {c n r : Nat} {G : Nat → Nat → Int} {co mw mc act : Nat → Int} (hc : isK c) (hr : TT L r = (1, 8)) (hr2 : r < 100) (hP : PK V c n G co mw mc) (hR : RB n G co mw mc act) (hA : ∀ a, a < n → V r a = act a) (w1 : (∀ y, y ≠ 101 → y ≠ 102 → W y = V y)) {k : Nat} (hk : k < n) (hm : act k = 0 ∨ ¬ mw (act k - 1).toNat = -9) (hQ : Ev L d 96 2 [some (.inr (.inr 100)), some (.inr (.inr c)), some (.inr (.inr r)), some (.inl ((k + 1 : Nat) : Int)), some (.inl (act k - 1))] [] (uV (uV W 101 k (stA act mw k : Int)) 102 k (prA co mc act mw k)) b Q) : Ev L d 96 33 [some (.inr (.inr 100)), some (.inr (.inr c)), some (.inr (.inr r)), some (.inl (k : Int)), some (.inl (act k - 1))] [] W b Q := by
  have c44 := isK_ne hc
  have h8 := hR.1.2.1
  have hb := hR.2.2.2 k (by omega)
  by_cases h0 : act k = 0
  · have e1 : stA act mw k = k := if_pos h0
    have e2 : prA co mc act mw k = co k + 0 := by
      unfold prA
      rw [e1, if_pos h0]
    rw [e1, e2] at hQ
    refine Ev.blk 5 (B96_33 _ _ _ _ _ _ _ _ hr ⟨by omega, by omega⟩) rfl ?_
    refine Ev.ite (fun z => absurd (of_decide_eq_true z) (by omega)) (fun _ => ?_)
    refine Ev.blk 2 (B96_43 _ _ _ _ _ _ _ _ _ _ _ hr rfl) rfl ?_
    refine Ev.blk 13 (B96_54 _ _ _ _ _ _ _ _ _ _ _ _ hr rfl ⟨by omega, by omega⟩ (by decide) hc ⟨by omega, by omega⟩ (by rw [Int.toNat_natCast, uV_at, if_pos rfl]; omega) ⟨by omega, by omega⟩) rfl ?_
    refine Ev.ite (fun z => absurd (of_decide_eq_true z) (by omega)) (fun _ => ?_)
    refine Ev.blk 2 (B96_76 _ _ _ _ _ _ _ _ _ _ _ _ hr rfl) rfl ?_
    refine Ev.blk 4 (B96_87 _ _ _ _ _ _ _ _ _ _ _ _ _ hr rfl ⟨by omega, by omega⟩ (by decide)) rfl ?_
    rw [Int.toNat_natCast, uV_at, if_pos rfl, Int.toNat_natCast, uV_ne (a' := c + 3) (by omega), w1 (c + 3) (by omega) (by omega), hP.2.2.1 k (by omega)]
    exact hQ
  · obtain ⟨j, hj⟩ : ∃ j : Nat, act k - 1 = (j : Int) := ⟨(act k - 1).toNat, by omega⟩
    have hj4 : j < 4 := by omega
    have hm2 : ¬ mw j = -9 := by
      rcases hm with q | q
      · exact absurd q h0
      · rw [hj, Int.toNat_natCast] at q
        exact q
    have mb := hR.1.2.2.2.2.1 j hj4
    have e1 : stA act mw k = (mw j).toNat := by
      unfold stA
      rw [if_neg h0, hj, Int.toNat_natCast]
    have e2 : prA co mc act mw k = co (mw j).toNat + mc j := by
      unfold prA
      rw [e1, if_neg h0, hj, Int.toNat_natCast]
    have e3 : ((mw j).toNat : Int) = mw j := by omega
    rw [e1, e2, e3, hj] at hQ
    rw [hj]
    refine Ev.blk 5 (B96_33 _ _ _ _ _ _ _ _ hr ⟨by omega, by omega⟩) rfl ?_
    refine Ev.ite (fun _ => ?_) (fun z => absurd (of_decide_eq_false z) (by omega))
    refine Ev.blk 4 (B96_47 _ _ _ _ _ _ _ _ _ _ _ hr rfl hc ⟨by omega, by omega⟩) rfl ?_
    rw [Int.toNat_natCast, w1 (c + 6) (by omega) (by omega), hP.2.2.2.1 j hj4]
    refine Ev.blk 13 (B96_54 _ _ _ _ _ _ _ _ _ _ _ _ hr rfl ⟨by omega, by omega⟩ (by decide) hc ⟨by omega, by omega⟩ (by rw [Int.toNat_natCast, uV_at, if_pos rfl]; omega) ⟨by omega, by omega⟩) rfl ?_
    refine Ev.ite (fun _ => ?_) (fun z => absurd (of_decide_eq_false z) (by omega))
    rw [Int.toNat_natCast, uV_at, if_pos rfl, uV_ne (a' := c + 3) (by omega), w1 (c + 3) (by omega) (by omega), hP.2.2.1 _ (by omega)]
    refine Ev.blk 4 (B96_80 _ _ _ _ _ _ _ _ _ _ _ _ hr rfl hc ⟨by omega, by omega⟩) rfl ?_
    refine Ev.blk 4 (B96_87 _ _ _ _ _ _ _ _ _ _ _ _ _ hr rfl ⟨by omega, by omega⟩ (by decide)) rfl ?_
    rw [Int.toNat_natCast, Int.toNat_natCast, uV_ne (a' := c + 5) (by omega), w1 (c + 5) (by omega) (by omega), hP.2.2.2.2 j hj4]
    exact hQ
theorem ob_lp {L d : Nat} {V : Mv} {b : Bool} {Q : Option AV → Mv → Bool → Prop} {c n r : Nat} {G : Nat → Nat → Int} {co mw mc act : Nat → Int} (hc : isK c) (hr : TT L r = (1, 8)) (hr2 : r < 100) (hP : PK V c n G co mw mc) (hR : RB n G co mw mc act) (hA : ∀ a, a < n → V r a = act a) (hQ1 : ∀ W, (∀ y, y ≠ 101 → y ≠ 102 → W y = V y) → hasM act mw n → (∀ a, a < n → W 101 a = (stA act mw a : Int)) → (∀ a, a < n → W 102 a = prA co mc act mw a) → Ev L (d + 1) 96 95 [some (.inr (.inr 100)), some (.inr (.inr c)), some (.inr (.inr r)), some (.inl (n : Int)), none] [] W b Q) (hQ0 : ∀ W, (∀ y, y ≠ 101 → y ≠ 102 → W y = V y) → ¬ hasM act mw n → Q (some (.inl 0)) W b) : ∀ (m k : Nat) (W : Mv), k + m = n → (∀ y, y ≠ 101 → y ≠ 102 → W y = V y) → (∀ a, a < k → act a = 0 ∨ ¬ mw (act a - 1).toNat = -9) → (∀ a, a < k → W 101 a = (stA act mw a : Int)) → (∀ a, a < k → W 102 a = prA co mc act mw a) → Ev L (d + 1) 96 2 [some (.inr (.inr 100)), some (.inr (.inr c)), some (.inr (.inr r)), some (.inl (k : Int)), none] [] W b Q
  | 0, k, W, h, w1, w2, w3, w4 => by
    obtain rfl : k = n := by omega
    have c44 := isK_ne hc
    have h8 := hR.1.2.1
    have e0 : W c 0 = (k : Int) := by rw [w1 c (by omega) (by omega)]; exact hP.1
    refine Ev.blk 4 (B96_2 _ _ _ _ _ _ _ hr hc ⟨by omega, by omega⟩ (by rw [e0]; exact ⟨by omega, by omega⟩)) rfl ?_
    rw [e0]
    refine Ev.ite (fun _ => ?_) (fun z => absurd (of_decide_eq_false z) (by omega))
    exact hQ1 W w1 w2 w3 w4
  | m + 1, k, W, h, w1, w2, w3, w4 => by
    have c44 := isK_ne hc
    have h8 := hR.1.2.1
    have hb := hR.2.2.2 k (by omega)
    have e0 : W c 0 = (n : Int) := by rw [w1 c (by omega) (by omega)]; exact hP.1
    have eA : W r ((k : Int)).toNat = act k := by rw [Int.toNat_natCast, w1 r (by omega) (by omega)]; exact hA k (by omega)
    have go : (act k = 0 ∨ ¬ mw (act k - 1).toNat = -9) → Ev L (d + 1) 96 33 [some (.inr (.inr 100)), some (.inr (.inr c)), some (.inr (.inr r)), some (.inl (k : Int)), some (.inl (act k - 1))] [] W b Q := fun hm => by
      refine ob_33 hc hr hr2 hP hR hA w1 (by omega) hm ?_
      refine Ev.kill [false, false, false, false, true] ?_
      dsimp only [mkl]
      refine ob_lp (L := L) (d := d) hc hr hr2 hP hR hA hQ1 hQ0 m (k + 1) _ (by omega) (fun y h1 h2 => by rw [uV_ne h2, uV_ne h1]; exact w1 y h1 h2) (fun a ha => ?_) (fun a ha => ?_) (fun a ha => ?_)
      · by_cases q : a = k
        · rw [q]
          exact hm
        · exact w2 a (by omega)
      · rw [uV_ne (by omega), uV_at]
        by_cases q : a = k
        · rw [if_pos q, q]
        · rw [if_neg q]
          exact w3 a (by omega)
      · rw [uV_at]
        by_cases q : a = k
        · rw [if_pos q, q]
        · rw [if_neg q, uV_ne (by omega)]
          exact w4 a (by omega)
    refine Ev.blk 4 (B96_2 _ _ _ _ _ _ _ hr hc ⟨by omega, by omega⟩ (by rw [e0]; exact ⟨by omega, by omega⟩)) rfl ?_
    rw [e0]
    refine Ev.ite (fun z => absurd (of_decide_eq_true z) (by omega)) (fun _ => ?_)
    refine Ev.blk 8 (B96_10 _ _ _ _ _ _ _ hr ⟨by omega, by omega⟩ (by rw [eA]; exact ⟨by omega, by omega⟩)) rfl ?_
    rw [eA]
    refine Ev.ite (fun z => ?_) (fun z => ?_)
    · replace z := of_decide_eq_true z
      exact go (Or.inl (by omega))
    · replace z := of_decide_eq_false z
      refine Ev.blk 2 (B96_22 _ _ _ _ _ _ _ _ hr) rfl ?_
      refine Ev.call rfl rfl (vg rfl rfl (isK_0 hc) (congrArg Prod.fst (isK_T hc)) rfl) (x_hasMending (d := d) hc (j := act k - 1) ⟨by omega, by omega⟩ (fun j hj => ?_)) (by omega) ?_
      · obtain ⟨i, rfl⟩ : ∃ i : Nat, j = (i : Int) := ⟨j.toNat, by omega⟩
        rw [Int.toNat_natCast, w1 (c + 6) (by omega) (by omega), hP.2.2.2.1 i (by omega)]
        have := hR.1.2.2.2.2.1 i (by omega)
        exact ⟨by omega, by omega⟩
      rintro v V' b' ⟨rfl, h_, g_⟩
      subst V' b'
      refine Ev.blk 1 (B96_28 _ _ _ _ _ _ _ _ _ hr (b01_in _)) rfl ?_
      refine Ev.ite (fun y => ?_) (fun y => ?_)
      · replace y := b01_1 (nd_t y)
        refine go (Or.inr ?_)
        have y3 := y.2.2
        rw [w1 (c + 6) (by omega) (by omega), hP.2.2.2.1 _ (by omega)] at y3
        exact y3
      · replace y := b01_0 (nd_f y)
        refine Ev.blk 1 (B96_31 _ _ _ _ _ _ _ _ hr) rfl ?_
        refine Ev.ret rfl rfl rfl rfl (hQ0 W w1 (fun hm => ?_))
        have := hm k (by omega)
        refine y ⟨by omega, by omega, ?_⟩
        rw [w1 (c + 6) (by omega) (by omega), hP.2.2.2.1 _ (by omega)]
        rcases this with q | q
        · omega
        · exact q
theorem x_obey {L d : Nat} {V : Mv} {b : Bool} {c n r : Nat} {G : Nat → Nat → Int} {co mw mc act : Nat → Int} (hc : isK c) (hr : TT L r = (1, 8)) (hr2 : r < 100) (hP : PK V c n G co mw mc) (hR : RB n G co mw mc act) (hA : ∀ a, a < n → V r a = act a) : Ex L (d + 1) 96 [.inr (.inr 100), .inr (.inr c), .inr (.inr r)] V b (fun v W b' => b' = b ∧ (∀ y, y ≠ 101 → y ≠ 102 → y ≠ 103 → W y = V y) ∧ ((v = some (.inl 1) ∧ hasM act mw n ∧ (∀ a, a < n → W 101 a = (stA act mw a : Int)) ∧ (∀ a, a < n → W 102 a = prA co mc act mw a) ∧ ∀ a, a < n → setb (W 103 a) (re (qA G act mw) n a)) ∨ (v = some (.inl 0) ∧ ¬ hasM act mw n))) := by
  have c44 := isK_ne hc
  refine Ev.blk 2 (B96_0 _ _ _ _ _ _ hr) rfl ?_
  refine ob_lp hc hr hr2 hP hR hA (fun W w1 hm w3 w4 => ?_) (fun W w1 hm => ⟨rfl, fun y h1 h2 _ => w1 y h1 h2, Or.inr ⟨rfl, hm⟩⟩) n 0 V (by omega) (fun _ _ _ => rfl) (fun a ha => absurd ha (by omega)) (fun a ha => absurd ha (by omega)) (fun a ha => absurd ha (by omega))
  refine Ev.blk 2 (B96_95 _ _ _ _ _ _ _ hr) rfl ?_
  refine Ev.call rfl rfl rfl (x_spread (d := d) (st := stA act mw) hc (hP.frame (fun x h1 h2 => w1 x (by omega) (by omega))) hR.1 hR.2.2.1 (fun a ha => hR.st hm ha) w3) (by omega) ?_
  rintro v W2 b2 ⟨rfl, rfl, s1, s2⟩
  refine Ev.blk 1 (B96_100 _ _ _ _ _ _ _ hr) rfl ?_
  refine Ev.ret rfl rfl rfl rfl ⟨rfl, fun y h1 h2 h3 => by rw [s1 y h3]; exact w1 y h1 h2, Or.inl ⟨rfl, hm, fun a ha => by rw [s1 101 (by omega)]; exact w3 a ha, fun a ha => by rw [s1 102 (by omega)]; exact w4 a ha, s2⟩⟩
