/-! what a rule costs, in the class (specs62.py) -/
noncomputable def rU (n : Nat) (G : Nat → Nat → Int) (co mw mc act : Nat → Int) : Nat := (upC (qA G act mw) n (prA co mc act mw)).toNat
noncomputable def rD (n : Nat) (G : Nat → Nat → Int) (mw act : Nat → Int) : Nat := (dnC (qA G act mw) n).toNat
noncomputable def rN (n : Nat) (G : Nat → Nat → Int) (co mw mc act : Nat → Int) : Nat := rU n G co mw mc act / Nat.gcd (rU n G co mw mc act) (rD n G mw act)
noncomputable def rE (n : Nat) (G : Nat → Nat → Int) (co mw mc act : Nat → Int) : Nat := rD n G mw act / Nat.gcd (rU n G co mw mc act) (rD n G mw act)
def rOk (n : Nat) (G : Nat → Nat → Int) (mw act : Nat → Int) : Prop := hasM act mw n ∧ 0 < kC (qA G act mw) n
theorem RB.ud {n : Nat} {G : Nat → Nat → Int} {co mw mc act : Nat → Int} (h : RB n G co mw mc act) (hm : hasM act mw n) (hk : 0 < kC (qA G act mw) n) : upC (qA G act mw) n (prA co mc act mw) = (rU n G co mw mc act : Int) ∧ dnC (qA G act mw) n = (rD n G mw act : Int) ∧ rU n G co mw mc act ≤ 15840000000 ∧ 0 < rD n G mw act ∧ rD n G mw act ≤ 80000000 := by
  have h8 := h.1.2.1
  have u := upC_b (pr := prA co mc act mw) (h.go hm) h8 (fun a ha => h.pr hm ha)
  have d := dnC_b (h.go hm) h8 hk
  unfold rU rD
  omega
theorem isF_ne {a : Nat} (h : isF a) : a < 100 ∨ a = 107 := by
  unfold isF at h
  omega
theorem sc_lp {L d : Nat} {V : Mv} {b : Bool} {Q : Option AV → Mv → Bool → Prop} {c a n : Nat} {q : Nat → Nat → Int} {pr : Nat → Int} (hn : n ≤ 8) (h6 : V 100 6 = (kC q n : Int)) (h4 : ∀ i, i < kC q n → V 104 i = (nth (comB q n) n i : Int)) (h2 : ∀ a, a < n → V 102 a = pr a) (hp : ∀ a, a < n → 0 ≤ pr a ∧ pr a ≤ 198) (hx : ∀ i, i < kC q n → V 106 i = xC q n i) (hQ : Ev L d 98 77 [some (.inr (.inr 100)), some (.inr (.inr c)), some (.inr (.inr a)), some (.inr (.inl (upC q n pr))), none, some (.inr (.inl (dnC q n))), none, some (.inl (kC q n : Int))] [] V b Q) : ∀ (m k : Nat), k + m = kC q n → Ev L d 98 26 [some (.inr (.inr 100)), some (.inr (.inr c)), some (.inr (.inr a)), some (.inr (.inl (sumN (fun i => xC q n i * pr (nth (comB q n) n i)) k))), none, some (.inr (.inl (sumN (xC q n) k))), none, some (.inl (k : Int))] [] V b Q
  | 0, k, h => by
    obtain rfl : k = kC q n := by omega
    have hk : kC q n ≤ n := cn_n _ _
    refine Ev.blk 4 (B98_26 _ _ _ _ _ _ _ _ ⟨by omega, by omega⟩ (by rw [h6]; exact ⟨by omega, by omega⟩)) rfl ?_
    rw [h6]
    refine Ev.ite (fun _ => ?_) (fun z => absurd (of_decide_eq_false z) (by omega))
    exact hQ
  | m + 1, k, h => by
    have hk : kC q n ≤ n := cn_n _ _
    have a1 := (nth_mem (comB q n) n).at_ k (show k < kC q n by omega)
    have e4 : V 104 ((k : Int)).toNat = (nth (comB q n) n k : Int) := by rw [Int.toNat_natCast]; exact h4 k (by omega)
    have e6 : V 106 ((k : Int)).toNat = xC q n k := by rw [Int.toNat_natCast]; exact hx k (by omega)
    have e2 : V 102 (nth (comB q n) n k) = pr (nth (comB q n) n k) := h2 _ a1.1
    have pb := hp _ a1.1
    have ih := sc_lp (L := L) (d := d) (c := c) (a := a) hn h6 h4 h2 hp hx hQ m (k + 1) (by omega)
    refine Ev.blk 4 (B98_26 _ _ _ _ _ _ _ _ ⟨by omega, by omega⟩ (by rw [h6]; exact ⟨by omega, by omega⟩)) rfl ?_
    rw [h6]
    refine Ev.ite (fun z => absurd (of_decide_eq_true z) (by omega)) (fun _ => ?_)
    refine Ev.blk 25 (B98_35 _ _ _ _ _ _ _ _ ⟨by omega, by omega⟩ (by rw [e4]; omega) (by rw [e4, Int.toNat_natCast, e2]; exact ⟨by omega, by omega⟩)) rfl ?_
    rw [e4, e6, Int.toNat_natCast, e2]
    exact ih
theorem x_settle {L d : Nat} {V : Mv} {b : Bool} {c n a : Nat} {G : Nat → Nat → Int} {co mw mc act : Nat → Int} (hc : isK c) (ha : isF a) (hP : PK V c n G co mw mc) (hR : RB n G co mw mc act) (hm : hasM act mw n) (h1 : ∀ a, a < n → V 101 a = (stA act mw a : Int)) (h2 : ∀ a, a < n → V 102 a = prA co mc act mw a) (h3 : ∀ a, a < n → setb (V 103 a) (re (qA G act mw) n a)) : Ex L (d + 2) 98 [.inr (.inr 100), .inr (.inr c), .inr (.inr a)] V b (fun v W b' => b' = b ∧ (∀ y, ¬ (100 ≤ y ∧ y ≤ 106) → y ≠ a → W y = V y) ∧ ((0 < kC (qA G act mw) n ∧ v = some (.inl 1) ∧ W a 0 = (rN n G co mw mc act : Int) ∧ W a 1 = (rE n G co mw mc act : Int)) ∨ (¬ 0 < kC (qA G act mw) n ∧ v = some (.inl 0)))) := by
  have c44 := isK_ne hc
  have f44 := isF_ne ha
  have h8 := hR.1.2.1
  have hn2 := hR.1.1
  refine Ev.blk 2 (B98_0 _ _ _ _ _) rfl ?_
  refine Ev.call rfl rfl rfl (x_findM (d := d) (q := qA G act mw) hc hP.1 h8 (by omega) h3) (by omega) ?_
  rintro v W1 b1 ⟨rfl, w1, w2, w3, rfl⟩
  by_cases hk : 0 < kC (qA G act mw) n
  · rw [if_pos hk]
    have hkn : kC (qA G act mw) n ≤ n := cn_n _ _
    obtain ⟨s, hs⟩ : ∃ s, kC (qA G act mw) n = s + 1 := ⟨kC (qA G act mw) n - 1, by omega⟩
    refine Ev.blk 1 (B98_5 _ _ _ _ _ _ (by decide)) rfl ?_
    refine Ev.ite (fun z => absurd z (by decide)) (fun _ => ?_)
    refine Ev.blk 2 (B98_8 _ _ _ _ _) rfl ?_
    refine Ev.call rfl rfl rfl (x_shares (d := d) (n := n) (s := s) (q := qA G act mw) (mem := nth (comB (qA G act mw) n) n) (st := stA act mw) hc h8 (by omega) (fun i j hi hj => by rw [w1 (c + 1) (by omega) (by omega)]; exact hP.2.1 i j hi hj) (fun x hx => hR.st hm hx) (fun i hi => ((nth_mem (comB (qA G act mw) n) n).at_ i (show i < kC (qA G act mw) n by omega)).1) (fun x hx => by rw [w1 101 (by omega) (by omega)]; exact h1 x hx) (fun i hi => w3 i (by omega)) (fun _ _ _ _ => rfl) (fun x y hx hy => hR.1.2.2.1 _ _ (by have := hR.st hm hx; omega) (by omega)) (by rw [← hs]; exact lamC (hR.go hm)) (by rw [w2, hs]; rfl)) (by omega) ?_
    rintro v W2 b2 ⟨rfl, rfl, v1, v2⟩
    refine Ev.blk 1 (B98_13 _ _ _ _ _ _ (by decide)) rfl ?_
    refine Ev.ite (fun _ => ?_) (fun z => absurd z (by decide))
    refine Ev.blk 6 (B98_18 _ _ _ _ _) rfl ?_
    have ud := hR.ud hm hk
    refine sc_lp (q := qA G act mw) (pr := prA co mc act mw) h8 (by rw [v1 100 (by omega) (by omega)]; exact w2) (fun i hi => by rw [v1 104 (by omega) (by omega)]; exact w3 i hi) (fun x hx => by rw [v1 102 (by omega) (by omega), w1 102 (by omega) (by omega)]; exact h2 x hx) (fun x hx => hR.pr hm hx) (fun i hi => ?_) ?_ (kC (qA G act mw) n) 0 (by omega)
    · rw [v2 i (by omega)]
      unfold xC
      rw [hs]
    · rw [ud.1, ud.2.1]
      refine Ev.blk 3 (B98_77 _ _ _ _ _ _ _ _) rfl ?_
      refine Ev.call rfl rfl (vg rfl rfl (isF_0 ha) (congrArg Prod.fst (isF_T ha)) rfl) (x_become (d := d) ha (by omega) (by omega) ud.2.2.2.1) (by omega) ?_
      rintro v W3 b3 ⟨rfl, e3, rfl⟩
      refine Ev.blk 1 (B98_84 _ _ _ _ _ _ _ _) rfl ?_
      refine Ev.ret rfl rfl rfl rfl ⟨rfl, fun y hy hya => ?_, Or.inl ⟨hk, rfl, ?_, ?_⟩⟩
      · rw [e3, uV_ne hya, uV_ne hya, v1 y (by omega) (by omega), w1 y (by omega) (by omega)]
      · rw [e3, uV_at, if_neg (by omega), uV_at, if_pos rfl]
        rfl
      · rw [e3, uV_at, if_pos rfl]
        rfl
  · rw [if_neg hk]
    refine Ev.blk 1 (B98_5 _ _ _ _ _ _ (by decide)) rfl ?_
    refine Ev.ite (fun _ => ?_) (fun z => absurd z (by decide))
    refine Ev.blk 1 (B98_16 _ _ _ _ _) rfl ?_
    exact Ev.ret rfl rfl rfl rfl ⟨rfl, fun y hy hya => w1 y (by omega) (by omega), Or.inr ⟨hk, rfl⟩⟩
theorem x_findCost {L d : Nat} {V : Mv} {b : Bool} {c n r a : Nat} {G : Nat → Nat → Int} {co mw mc act : Nat → Int} (hc : isK c) (ha : isF a) (hr : TT L r = (1, 8)) (hr2 : r < 100) (hP : PK V c n G co mw mc) (hR : RB n G co mw mc act) (hA : ∀ a, a < 8 → V r a = act a) : Ex L (d + 3) 95 [.inr (.inr 100), .inr (.inr c), .inr (.inr r), .inr (.inr a)] V b (fun v W b' => b' = b ∧ (∀ y, ¬ (100 ≤ y ∧ y ≤ 106) → y ≠ a → W y = V y) ∧ ((rOk n G mw act ∧ v = some (.inl 1) ∧ W a 0 = (rN n G co mw mc act : Int) ∧ W a 1 = (rE n G co mw mc act : Int)) ∨ (¬ rOk n G mw act ∧ v = some (.inl 0)))) := by
  have c44 := isK_ne hc
  have f44 := isF_ne ha
  refine Ev.blk 3 (B95_0 _ _ _ _ _ _ _ hr) rfl ?_
  refine Ev.call rfl rfl rfl (x_obey (d := d) hc hr hr2 hP hR (fun x hx => hA x (by have := hR.1.2.1; omega))) (by omega) ?_
  rintro v W1 b1 ⟨rfl, w1, w2⟩
  rcases w2 with ⟨rfl, hm, o1, o2, o3⟩ | ⟨rfl, hm⟩
  · refine Ev.blk 1 (B95_6 _ _ _ _ _ _ _ _ hr (by decide)) rfl ?_
    refine Ev.ite (fun z => absurd z (by decide)) (fun _ => ?_)
    refine Ev.blk 3 (B95_9 _ _ _ _ _ _ _ hr) rfl ?_
    refine Ev.call rfl rfl rfl (x_settle (d := d) hc ha (hP.frame (fun x h1 h2 => w1 x (by omega) (by omega) (by omega))) hR hm o1 o2 o3) (by omega) ?_
    rintro v W2 b2 ⟨rfl, v1, v2⟩
    rcases v2 with ⟨hk, rfl, e0, e1⟩ | ⟨hk, rfl⟩
    · refine Ev.blk 1 (B95_15 _ _ _ _ _ _ _ _ hr (by decide)) rfl ?_
      refine Ev.ite (fun z => absurd z (by decide)) (fun _ => ?_)
      refine Ev.blk 2 (B95_18 _ _ _ _ _ _ _ hr) rfl ?_
      exact Ev.ret rfl rfl rfl rfl ⟨rfl, fun y hy hya => by rw [v1 y hy hya, w1 y (by omega) (by omega) (by omega)], Or.inl ⟨⟨hm, hk⟩, rfl, e0, e1⟩⟩
    · refine Ev.blk 1 (B95_15 _ _ _ _ _ _ _ _ hr (by decide)) rfl ?_
      refine Ev.ite (fun _ => ?_) (fun z => absurd z (by decide))
      refine Ev.blk 1 (B95_22 _ _ _ _ _ _ _ hr) rfl ?_
      exact Ev.ret rfl rfl rfl rfl ⟨rfl, fun y hy hya => by rw [v1 y hy hya, w1 y (by omega) (by omega) (by omega)], Or.inr ⟨fun z => hk z.2, rfl⟩⟩
  · refine Ev.blk 1 (B95_6 _ _ _ _ _ _ _ _ hr (by decide)) rfl ?_
    refine Ev.ite (fun _ => ?_) (fun z => absurd z (by decide))
    refine Ev.blk 1 (B95_22 _ _ _ _ _ _ _ hr) rfl ?_
    exact Ev.ret rfl rfl rfl rfl ⟨rfl, fun y hy hya => w1 y (by omega) (by omega) (by omega), Or.inr ⟨fun z => hm z.1, rfl⟩⟩
