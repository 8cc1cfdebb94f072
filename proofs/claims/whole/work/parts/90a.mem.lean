/-! mornings that come for ever, in the class (specs59.py) -/
def mrB (q : Nat → Nat → Int) (n v : Nat) : Bool := decide (v = 0) || re q n 0 v
theorem mrB_t {q : Nat → Nat → Int} {n v : Nat} : mrB q n v = true ↔ mor q n v := by
  unfold mrB mor
  rw [Bool.or_eq_true, decide_eq_true_iff]
def cmK (q : Nat → Nat → Int) (n : Nat) : Nat → Nat → Bool
  | 0, v => mrB q n v
  | k + 1, v => cmK q n k v && (if mrB q n k = true then re q n k v else cmK q n k v)
theorem cmK_t {q : Nat → Nat → Int} {n v : Nat} : ∀ k, cmK q n k v = true ↔ mor q n v ∧ ∀ a, a < k → mor q n a → re q n a v = true
  | 0 => ⟨fun h => ⟨mrB_t.mp h, fun a ha => absurd ha (by omega)⟩, fun h => mrB_t.mpr h.1⟩
  | k + 1 => by
    have ih := cmK_t (q := q) (n := n) (v := v) k
    show (cmK q n k v && (if mrB q n k = true then re q n k v else cmK q n k v)) = true ↔ _
    rw [Bool.and_eq_true]
    by_cases m : mrB q n k = true
    · rw [if_pos m, ih]
      constructor
      · rintro ⟨⟨h1, h2⟩, h3⟩
        refine ⟨h1, fun a ha hm => ?_⟩
        by_cases e : a = k
        · rw [e]
          exact h3
        · exact h2 a (by omega) hm
      · rintro ⟨h1, h2⟩
        exact ⟨⟨h1, fun a ha => h2 a (by omega)⟩, h2 k (by omega) (mrB_t.mp m)⟩
    · rw [if_neg m, ih]
      constructor
      · rintro ⟨⟨h1, h2⟩, _⟩
        refine ⟨h1, fun a ha hm => ?_⟩
        by_cases e : a = k
        · rw [e] at hm
          exact absurd (mrB_t.mpr hm) m
        · exact h2 a (by omega) hm
      · rintro ⟨h1, h2⟩
        exact ⟨⟨h1, fun a ha => h2 a (by omega)⟩, ⟨h1, fun a ha => h2 a (by omega)⟩⟩
theorem cm_com (q : Nat → Nat → Int) (n : Nat) : cmK q n n = comB q n := funext (fun v => by
  rw [Bool.eq_iff_iff, cmK_t, comB_t]
  exact Iff.rfl)
theorem setb_1 : setb 1 (fun v => decide (v = 0)) := ⟨by decide, by decide⟩
theorem mor_set {q : Nat → Nat → Int} {n : Nat} {x : Int} (h : setb x (re q n 0)) : setb (oOr x 1) (mrB q n) := setb_c (setb_or h setb_1) (fun v _ => Bool.or_comm _ _)
theorem x_mornings {L d : Nat} {V : Mv} {b : Bool} : Ex L d 100 [.inr (.inr 100)] V b (Ans (some (.inl (oOr (V 103 0) 1))) V b) := by
  refine Ev.blk 6 (B100_0 _ _ _) rfl ?_
  exact Ev.ret rfl rfl rfl rfl ⟨rfl, rfl, rfl⟩
theorem fm1_lp {L d : Nat} {V : Mv} {b : Bool} {Q : Option AV → Mv → Bool → Prop} {c n : Nat} {q : Nat → Nat → Int} (hc : isK c) (h0 : V c 0 = (n : Int)) (h8 : n ≤ 8) (hn : 0 < n) (hs : ∀ a, a < n → setb (V 103 a) (re q n a)) (hQ : ∀ x : Int, setb x (cmK q n n) → Ev L (d + 1) 99 45 [some (.inr (.inr 100)), some (.inr (.inr c)), some (.inl x), some (.inl (n : Int))] [] V b Q) : ∀ (m k : Nat) (x : Int), k + m = n → setb x (cmK q n k) → Ev L (d + 1) 99 7 [some (.inr (.inr 100)), some (.inr (.inr c)), some (.inl x), some (.inl (k : Int))] [] V b Q
  | 0, k, x, h, hx => by
    obtain rfl : k = n := by omega
    refine Ev.blk 4 (B99_7 _ _ _ _ _ _ hc ⟨by omega, by omega⟩ (by rw [h0]; exact ⟨by omega, by omega⟩)) rfl ?_
    rw [h0]
    refine Ev.ite (fun _ => ?_) (fun z => absurd (of_decide_eq_false z) (by omega))
    exact hQ x hx
  | m + 1, k, x, h, hx => by
    have ht := setb_t (mor_set (hs 0 hn)) (v := k) (by omega)
    refine Ev.blk 4 (B99_7 _ _ _ _ _ _ hc ⟨by omega, by omega⟩ (by rw [h0]; exact ⟨by omega, by omega⟩)) rfl ?_
    rw [h0]
    refine Ev.ite (fun z => absurd (of_decide_eq_true z) (by omega)) (fun _ => ?_)
    refine Ev.blk 2 (B99_15 _ _ _ _ _ _) rfl ?_
    refine Ev.call rfl rfl rfl (x_mornings (d := d)) (by omega) ?_
    rintro v V' b' ⟨rfl, h_, g_⟩
    subst V' b'
    refine Ev.blk 5 (B99_20 _ _ _ _ _ _ _ _ (oAnd_in _ _)) rfl ?_
    refine Ev.ite (fun z => ?_) (fun z => ?_)
    · replace z := of_decide_eq_true z
      refine Ev.blk 1 (B99_36 _ _ _ _ _ _ _) rfl ?_
      refine Ev.blk 4 (B99_37 _ _ _ _ _ _ _ _) rfl ?_
      refine fm1_lp (L := L) (d := d) hc h0 h8 hn hs hQ m (k + 1) _ (by omega) (setb_c (setb_and hx hx) (fun v hv => ?_))
      show (cmK q n k v && cmK q n k v) = (cmK q n k v && (if mrB q n k = true then re q n k v else cmK q n k v))
      rw [if_neg (fun w => absurd z (ht.mpr w))]
    · replace z := of_decide_eq_false z
      refine Ev.blk 5 (B99_27 _ _ _ _ _ _ _ ⟨by omega, by omega⟩) rfl ?_
      rw [Int.toNat_natCast]
      refine Ev.blk 4 (B99_37 _ _ _ _ _ _ _ _) rfl ?_
      refine fm1_lp (L := L) (d := d) hc h0 h8 hn hs hQ m (k + 1) _ (by omega) (setb_c (setb_and hx (hs k (by omega))) (fun v hv => ?_))
      show (cmK q n k v && re q n k v) = (cmK q n k v && (if mrB q n k = true then re q n k v else cmK q n k v))
      rw [if_pos (ht.mp z)]
theorem fm2_lp {L d : Nat} {V : Mv} {b : Bool} {Q : Option AV → Mv → Bool → Prop} {c n : Nat} {P : Nat → Bool} {x : Int} (hc : isK c) (h0 : V c 0 = (n : Int)) (h8 : n ≤ 8) (hx : setb x P) (hQ : ∀ W, (∀ y, y ≠ 100 → y ≠ 104 → W y = V y) → W 100 6 = (cn P n : Int) → (∀ w, w < n → P w = true → W 104 (cn P w) = (w : Int)) → Ev L d 99 94 [some (.inr (.inr 100)), some (.inr (.inr c)), some (.inl x), some (.inl (n : Int))] [] W b Q) : ∀ (m k : Nat) (W : Mv), k + m = n → (∀ y, y ≠ 100 → y ≠ 104 → W y = V y) → W 100 6 = (cn P k : Int) → (∀ w, w < k → P w = true → W 104 (cn P w) = (w : Int)) → Ev L d 99 52 [some (.inr (.inr 100)), some (.inr (.inr c)), some (.inl x), some (.inl (k : Int))] [] W b Q
  | 0, k, W, h, w1, w2, w3 => by
    obtain rfl : k = n := by omega
    have c44 := isK_ne hc
    have e0 : W c 0 = (k : Int) := by rw [w1 c (by omega) (by omega)]; exact h0
    refine Ev.blk 4 (B99_52 _ _ _ _ _ _ hc ⟨by omega, by omega⟩ (by rw [e0]; exact ⟨by omega, by omega⟩)) rfl ?_
    rw [e0]
    refine Ev.ite (fun _ => ?_) (fun z => absurd (of_decide_eq_false z) (by omega))
    exact hQ W w1 w2 w3
  | m + 1, k, W, h, w1, w2, w3 => by
    have c44 := isK_ne hc
    have e0 : W c 0 = (n : Int) := by rw [w1 c (by omega) (by omega)]; exact h0
    have ht := setb_t hx (v := k) (by omega)
    have hk8 := cn_n P k
    refine Ev.blk 4 (B99_52 _ _ _ _ _ _ hc ⟨by omega, by omega⟩ (by rw [e0]; exact ⟨by omega, by omega⟩)) rfl ?_
    rw [e0]
    refine Ev.ite (fun z => absurd (of_decide_eq_true z) (by omega)) (fun _ => ?_)
    refine Ev.blk 6 (B99_60 _ _ _ _ _ _ (oAnd_in _ _)) rfl ?_
    refine Ev.ite (fun z => ?_) (fun z => ?_)
    · replace z := of_decide_eq_true z
      have p : ¬ P k = true := fun w => absurd z (ht.mpr w)
      refine Ev.blk 2 (B99_88 _ _ _ _ _ _) rfl ?_
      refine fm2_lp (L := L) (d := d) hc h0 h8 hx hQ m (k + 1) W (by omega) w1 (by rw [cn_f p]; exact w2) (fun w hw hp => ?_)
      by_cases e : w = k
      · rw [e] at hp
        exact absurd hp p
      · exact w3 w (by omega) hp
    · replace z := of_decide_eq_false z
      have p := ht.mp z
      refine Ev.blk 12 (B99_68 _ _ _ _ _ _ (by rw [w2]; omega)) rfl ?_
      refine Ev.blk 2 (B99_88 _ _ _ _ _ _) rfl ?_
      refine fm2_lp (L := L) (d := d) hc h0 h8 hx hQ m (k + 1) _ (by omega) (fun y h1 h2 => by rw [uV_ne h1, uV_ne h2]; exact w1 y h1 h2) ?_ (fun w hw hp => ?_)
      · rw [uV_at, if_pos rfl, uV_ne (by omega), w2, cn_t p]
        omega
      · rw [uV_ne (by omega), uV_at, w2, Int.toNat_natCast]
        by_cases e : w = k
        · rw [e, if_pos rfl]
        · have := cn_lt_of (P := P) (n := k) (w := w) (by omega) hp
          rw [if_neg (by omega)]
          exact w3 w (by omega) hp
theorem x_findM {L d : Nat} {V : Mv} {b : Bool} {c n : Nat} {q : Nat → Nat → Int} (hc : isK c) (h0 : V c 0 = (n : Int)) (h8 : n ≤ 8) (hn : 0 < n) (hs : ∀ a, a < n → setb (V 103 a) (re q n a)) : Ex L (d + 1) 99 [.inr (.inr 100), .inr (.inr c)] V b (fun v W b' => b' = b ∧ (∀ y, y ≠ 100 → y ≠ 104 → W y = V y) ∧ W 100 6 = (kC q n : Int) ∧ (∀ i, i < kC q n → W 104 i = (nth (comB q n) n i : Int)) ∧ v = some (.inl (if 0 < kC q n then 1 else 0))) := by
  refine Ev.blk 1 (B99_0 _ _ _ _) rfl ?_
  refine Ev.call rfl rfl rfl (x_mornings (d := d)) (by omega) ?_
  rintro v V' b' ⟨rfl, h_, g_⟩
  subst V' b'
  refine Ev.blk 3 (B99_4 _ _ _ _ _) rfl ?_
  refine fm1_lp hc h0 h8 hn hs (fun x hx => ?_) n 0 _ (by omega) (mor_set (hs 0 hn))
  rw [cm_com] at hx
  refine Ev.blk 5 (B99_45 _ _ _ _ _ _) rfl ?_
  refine fm2_lp (V := V) hc h0 h8 hx (fun W w1 w2 w3 => ?_) n 0 _ (by omega) (fun y h1 h2 => by rw [uV_ne h1]) (by rw [uV_at, if_pos rfl]; rfl) (fun w hw => absurd hw (by omega))
  have hk := cn_n (comB q n) n
  have e2 : W 100 6 = (kC q n : Int) := w2
  have hk2 : kC q n ≤ n := hk
  have mm : ∀ i, i < kC q n → W 104 i = (nth (comB q n) n i : Int) := fun i hi => by
    have a := (nth_mem (comB q n) n).at_ i hi
    have := w3 _ a.1 a.2.1
    rw [a.2.2] at this
    exact this
  refine Ev.blk 3 (B99_94 _ _ _ _ _ _ (by rw [e2]; exact ⟨by omega, by omega⟩)) rfl ?_
  rw [e2]
  refine Ev.ite (fun z => ?_) (fun z => ?_)
  · replace z := of_decide_eq_true z
    refine Ev.blk 1 (B99_105 _ _ _ _ _ _) rfl ?_
    exact Ev.ret rfl rfl rfl rfl ⟨rfl, w1, e2, mm, by rw [if_neg (by omega)]⟩
  · replace z := of_decide_eq_false z
    refine Ev.blk 2 (B99_101 _ _ _ _ _ _) rfl ?_
    exact Ev.ret rfl rfl rfl rfl ⟨rfl, w1, e2, mm, by rw [if_pos (by omega)]⟩
