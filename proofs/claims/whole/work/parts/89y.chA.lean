/-! rules, where mornings lead (specs57.py) -/
theorem isK_ne {c : Nat} (h : isK c) : c ≤ 44 := by
  unfold isK at h
  omega
theorem sp1_lp {L d : Nat} {V W : Mv} {b : Bool} {Q : Option AV → Mv → Bool → Prop} {c n : Nat} {G : Nat → Nat → Int} {co mw mc : Nat → Int} {st : Nat → Nat} (hc : isK c) (hP : PK V c n G co mw mc) (hB : PB n G co mw mc) (hG : ∀ i j, j < i → i < 8 → G i j = 0) (hs : ∀ a, a < n → st a < n) (h1 : ∀ a, a < n → V 101 a = (st a : Int)) (hW : ∀ y, y ≠ 103 → W y = V y) {k : Nat} (hk : k < n) (hQ : ∀ x : Int, setb x (ed (fun a b => G (st a) b) n k) → Ev L d 97 66 [some (.inr (.inr 100)), some (.inr (.inr c)), some (.inl (k : Int)), some (.inl x), some (.inl (n : Int))] [] W b Q) : ∀ (m to : Nat) (x : Int), to + m = n → setb x (fun v => decide (v < to) && ed (fun a b => G (st a) b) n k v) → Ev L d 97 20 [some (.inr (.inr 100)), some (.inr (.inr c)), some (.inl (k : Int)), some (.inl x), some (.inl (to : Int))] [] W b Q
  | 0, to, x, h, hx => by
    obtain rfl : to = n := by omega
    have c103 := isK_ne hc
    have e0 : W c 0 = (to : Int) := by rw [hW c (by omega)]; exact hP.1
    have h8 := hB.2.1
    refine Ev.blk 4 (B97_20 _ _ _ _ _ _ _ hc ⟨by omega, by omega⟩ (by rw [e0]; exact ⟨by omega, by omega⟩)) rfl ?_
    rw [e0]
    refine Ev.ite (fun _ => ?_) (fun z => absurd (of_decide_eq_false z) (by omega))
    refine hQ x (setb_c hx (fun v hv => ?_))
    by_cases q : v < to
    · rw [decide_eq_true q, Bool.true_and]
    · rw [decide_eq_false q, Bool.false_and]
      symm
      exact decide_eq_false (fun z => q z.2.1)
  | m + 1, to, x, h, hx => by
    have c103 := isK_ne hc
    have e0 : W c 0 = (n : Int) := by rw [hW c (by omega)]; exact hP.1
    have h8 := hB.2.1
    have hsk := hs k hk
    have e1 : W 101 ((k : Int)).toNat = (st k : Int) := by rw [Int.toNat_natCast, hW 101 (by omega)]; exact h1 k hk
    have e2 : W (c + 1) ((W 101 ((k : Int)).toNat) * 8 + (to : Int)).toNat = G (st k) to := by
      rw [e1, show ((st k : Int) * 8 + (to : Int)).toNat = 8 * st k + to by omega, hW (c + 1) (by omega)]
      exact hP.2.1 (st k) to (by omega) (by omega)
    have gb := hB.2.2.1 (st k) to (by omega) (by omega)
    have stp1 : ∀ y : Int, setb y (fun v => decide (v = to) && decide (0 < G (st k) to)) → setb (oOr x y) (fun v => decide (v < to + 1) && ed (fun a b => G (st a) b) n k v) := fun y hy => by
      refine setb_c (setb_or hx hy) (fun v hv => ?_)
      show ((decide (v < to) && ed (fun a b => G (st a) b) n k v) || (decide (v = to) && decide (0 < G (st k) to))) = (decide (v < to + 1) && ed (fun a b => G (st a) b) n k v)
      by_cases q : v = to
      · subst q
        rw [decide_eq_false (Nat.lt_irrefl v), decide_eq_true (show v < v + 1 by omega), decide_eq_true (show v = v from rfl), Bool.false_and, Bool.false_or, Bool.true_and, Bool.true_and]
        unfold ed
        rw [decide_eq_decide]
        exact ⟨fun z => ⟨hk, by omega, z⟩, fun z => z.2.2⟩
      · rw [decide_eq_false q, Bool.false_and, Bool.or_false]
        by_cases p : v < to
        · rw [decide_eq_true p, decide_eq_true (show v < to + 1 by omega)]
        · rw [decide_eq_false p, decide_eq_false (show ¬ v < to + 1 by omega), Bool.false_and]
    refine Ev.blk 4 (B97_20 _ _ _ _ _ _ _ hc ⟨by omega, by omega⟩ (by rw [e0]; exact ⟨by omega, by omega⟩)) rfl ?_
    rw [e0]
    refine Ev.ite (fun z => absurd (of_decide_eq_true z) (by omega)) (fun _ => ?_)
    refine Ev.blk 13 (B97_29 _ _ _ _ _ _ _ hc ⟨by omega, by omega⟩ (by rw [e1]; omega) (by rw [e2]; exact ⟨by omega, by omega⟩)) rfl ?_
    rw [e2]
    refine Ev.ite (fun z => ?_) (fun z => ?_)
    · replace z := of_decide_eq_true z
      refine Ev.blk 1 (B97_57 _ _ _ _ _ _ _ _) rfl ?_
      refine Ev.blk 4 (B97_58 _ _ _ _ _ _ _ _ _) rfl ?_
      exact sp1_lp (L := L) (d := d) hc hP hB hG hs h1 hW hk hQ m (to + 1) _ (by omega) (stp1 0 (setb_c setb_0 (fun v hv => by rw [decide_eq_false (show ¬ 0 < G (st k) to by omega), Bool.and_false])))
    · replace z := of_decide_eq_false z
      refine Ev.blk 4 (B97_50 _ _ _ _ _ _ _ _) rfl ?_
      refine Ev.blk 4 (B97_58 _ _ _ _ _ _ _ _ _) rfl ?_
      exact sp1_lp (L := L) (d := d) hc hP hB hG hs h1 hW hk hQ m (to + 1) _ (by omega) (stp1 _ (setb_c (setb_shl (k := to) (by omega)) (fun v hv => by rw [decide_eq_true (show 0 < G (st k) to by omega), Bool.and_true])))
theorem pk_kk (e : Nat → Nat → Bool) (k v : Nat) : pk e (k + 1) k v = pk e k k v := by
  show (pk e k k v || (pk e k k k && pk e k k v)) = _
  cases pk e k k v <;> cases pk e k k k <;> rfl
theorem sp3_lp {L d : Nat} {V : Mv} {b : Bool} {Q : Option AV → Mv → Bool → Prop} {c n : Nat} {e : Nat → Nat → Bool} (hc : isK c) (h0 : V c 0 = (n : Int)) (h8 : n ≤ 8) {k : Nat} (hk : k < n) (hQ : ∀ W, (∀ y, y ≠ 103 → W y = V y) → (∀ a, a < n → setb (W 103 a) (pk e (k + 1) a)) → Ev L d 97 133 [some (.inr (.inr 100)), some (.inr (.inr c)), some (.inl (k : Int)), some (.inl (n : Int)), none] [] W b Q) : ∀ (m w : Nat) (W : Mv), w + m = n → (∀ y, y ≠ 103 → W y = V y) → (∀ a, a < n → setb (W 103 a) (if a < w then pk e (k + 1) a else pk e k a)) → Ev L d 97 91 [some (.inr (.inr 100)), some (.inr (.inr c)), some (.inl (k : Int)), some (.inl (w : Int)), none] [] W b Q
  | 0, w, W, h, w1, w2 => by
    obtain rfl : w = n := by omega
    have c103 := isK_ne hc
    have e0 : W c 0 = (w : Int) := by rw [w1 c (by omega)]; exact h0
    refine Ev.blk 4 (B97_91 _ _ _ _ _ _ hc ⟨by omega, by omega⟩ (by rw [e0]; exact ⟨by omega, by omega⟩)) rfl ?_
    rw [e0]
    refine Ev.ite (fun _ => ?_) (fun z => absurd (of_decide_eq_false z) (by omega))
    refine hQ W w1 (fun a ha => ?_)
    have := w2 a ha
    rw [if_pos ha] at this
    exact this
  | m + 1, w, W, h, w1, w2 => by
    have c103 := isK_ne hc
    have e0 : W c 0 = (n : Int) := by rw [w1 c (by omega)]; exact h0
    have sw_ := w2 w (by omega)
    rw [if_neg (Nat.lt_irrefl w)] at sw_
    have sk_ := w2 k hk
    have skk : setb (W 103 k) (pk e k k) := setb_c sk_ (fun v _ => by
      by_cases q : k < w
      · rw [if_pos q]
        exact pk_kk e k v
      · rw [if_neg q])
    have ht := setb_t sw_ (v := k) (by omega)
    refine Ev.blk 4 (B97_91 _ _ _ _ _ _ hc ⟨by omega, by omega⟩ (by rw [e0]; exact ⟨by omega, by omega⟩)) rfl ?_
    rw [e0]
    refine Ev.ite (fun z => absurd (of_decide_eq_true z) (by omega)) (fun _ => ?_)
    refine Ev.blk 9 (B97_99 _ _ _ _ _ _ ⟨by omega, by omega⟩ (oAnd_in _ _)) rfl ?_
    rw [Int.toNat_natCast]
    refine Ev.ite (fun z => ?_) (fun z => ?_)
    · replace z := of_decide_eq_true z
      refine Ev.blk 2 (B97_127 _ _ _ _ _ _) rfl ?_
      refine sp3_lp (L := L) (d := d) hc h0 h8 hk hQ m (w + 1) W (by omega) w1 (fun a ha => ?_)
      by_cases q : a = w
      · subst q
        rw [if_pos (by omega)]
        refine setb_c sw_ (fun v _ => ?_)
        show pk e k a v = (pk e k a v || (pk e k a k && pk e k k v))
        have : pk e k a k = false := by
          cases p : pk e k a k with
          | true => exact absurd z (ht.mpr p)
          | false => rfl
        rw [this, Bool.false_and, Bool.or_false]
      · have := w2 a ha
        by_cases p : a < w
        · rw [if_pos p] at this
          rw [if_pos (by omega)]
          exact this
        · rw [if_neg p] at this
          rw [if_neg (by omega)]
          exact this
    · replace z := of_decide_eq_false z
      refine Ev.blk 11 (B97_112 _ _ _ _ _ _ ⟨by omega, by omega⟩ ⟨by omega, by omega⟩) rfl ?_
      rw [Int.toNat_natCast, Int.toNat_natCast]
      refine Ev.blk 2 (B97_127 _ _ _ _ _ _) rfl ?_
      refine sp3_lp (L := L) (d := d) hc h0 h8 hk hQ m (w + 1) _ (by omega) (fun y hy => by rw [uV_ne hy]; exact w1 y hy) (fun a ha => ?_)
      rw [uV_at]
      by_cases q : a = w
      · subst q
        rw [if_pos rfl, if_pos (by omega)]
        refine setb_c (setb_or sw_ skk) (fun v _ => ?_)
        show (pk e k a v || pk e k k v) = (pk e k a v || (pk e k a k && pk e k k v))
        rw [ht.mp z, Bool.true_and]
      · rw [if_neg q]
        have := w2 a ha
        by_cases p : a < w
        · rw [if_pos p] at this
          rw [if_pos (by omega)]
          exact this
        · rw [if_neg p] at this
          rw [if_neg (by omega)]
          exact this
theorem sp2_lp {L d : Nat} {V : Mv} {b : Bool} {Q : Option AV → Mv → Bool → Prop} {c n : Nat} {e : Nat → Nat → Bool} (hc : isK c) (h0 : V c 0 = (n : Int)) (h8 : n ≤ 8) (hQ : ∀ W, (∀ y, y ≠ 103 → W y = V y) → (∀ a, a < n → setb (W 103 a) (pk e n a)) → Q none W b) : ∀ (m k : Nat) (W : Mv), k + m = n → (∀ y, y ≠ 103 → W y = V y) → (∀ a, a < n → setb (W 103 a) (pk e k a)) → Ev L d 97 81 [some (.inr (.inr 100)), some (.inr (.inr c)), some (.inl (k : Int)), none, none] [] W b Q
  | 0, k, W, h, w1, w2 => by
    obtain rfl : k = n := by omega
    have c103 := isK_ne hc
    have e0 : W c 0 = (k : Int) := by rw [w1 c (by omega)]; exact h0
    refine Ev.blk 4 (B97_81 _ _ _ _ _ hc ⟨by omega, by omega⟩ (by rw [e0]; exact ⟨by omega, by omega⟩)) rfl ?_
    rw [e0]
    refine Ev.ite (fun _ => ?_) (fun z => absurd (of_decide_eq_false z) (by omega))
    exact Ev.ret rfl rfl rfl rfl (hQ W w1 w2)
  | m + 1, k, W, h, w1, w2 => by
    have c103 := isK_ne hc
    have e0 : W c 0 = (n : Int) := by rw [w1 c (by omega)]; exact h0
    refine Ev.blk 4 (B97_81 _ _ _ _ _ hc ⟨by omega, by omega⟩ (by rw [e0]; exact ⟨by omega, by omega⟩)) rfl ?_
    rw [e0]
    refine Ev.ite (fun z => absurd (of_decide_eq_true z) (by omega)) (fun _ => ?_)
    refine Ev.blk 2 (B97_89 _ _ _ _ _) rfl ?_
    refine sp3_lp (V := V) (e := e) hc h0 h8 (k := k) (by omega) (fun W2 v1 v2 => ?_) n 0 W (by omega) w1 (fun a ha => by rw [if_neg (by omega)]; exact w2 a ha)
    refine Ev.blk 2 (B97_133 _ _ _ _ _ _) rfl ?_
    refine Ev.kill [false, false, false, true, false] ?_
    dsimp only [mkl]
    exact sp2_lp (L := L) (d := d) hc h0 h8 hQ m (k + 1) W2 (by omega) v1 v2
theorem sp0_lp {L d : Nat} {V : Mv} {b : Bool} {Q : Option AV → Mv → Bool → Prop} {c n : Nat} {G : Nat → Nat → Int} {co mw mc : Nat → Int} {st : Nat → Nat} (hc : isK c) (hP : PK V c n G co mw mc) (hB : PB n G co mw mc) (hG : ∀ i j, j < i → i < 8 → G i j = 0) (hs : ∀ a, a < n → st a < n) (h1 : ∀ a, a < n → V 101 a = (st a : Int)) (hQ : ∀ W, (∀ y, y ≠ 103 → W y = V y) → (∀ a, a < n → setb (W 103 a) (re (fun a b => G (st a) b) n a)) → Q none W b) : ∀ (m k : Nat) (W : Mv), k + m = n → (∀ y, y ≠ 103 → W y = V y) → (∀ a, a < k → setb (W 103 a) (ed (fun a b => G (st a) b) n a)) → Ev L d 97 2 [some (.inr (.inr 100)), some (.inr (.inr c)), some (.inl (k : Int)), none, none] [] W b Q
  | 0, k, W, h, w1, w2 => by
    obtain rfl : k = n := by omega
    have c103 := isK_ne hc
    have h8 := hB.2.1
    have e0 : W c 0 = (k : Int) := by rw [w1 c (by omega)]; exact hP.1
    refine Ev.blk 4 (B97_2 _ _ _ _ _ hc ⟨by omega, by omega⟩ (by rw [e0]; exact ⟨by omega, by omega⟩)) rfl ?_
    rw [e0]
    refine Ev.ite (fun _ => ?_) (fun z => absurd (of_decide_eq_false z) (by omega))
    refine Ev.blk 2 (B97_79 _ _ _ _ _) rfl ?_
    exact sp2_lp (V := V) (e := ed (fun a b => G (st a) b) k) hc hP.1 h8 hQ k 0 W (by omega) w1 w2
  | m + 1, k, W, h, w1, w2 => by
    have c103 := isK_ne hc
    have h8 := hB.2.1
    have e0 : W c 0 = (n : Int) := by rw [w1 c (by omega)]; exact hP.1
    have hsk := hs k (by omega)
    have e1 : W 101 ((k : Int)).toNat = (st k : Int) := by rw [Int.toNat_natCast, w1 101 (by omega)]; exact h1 k (by omega)
    refine Ev.blk 4 (B97_2 _ _ _ _ _ hc ⟨by omega, by omega⟩ (by rw [e0]; exact ⟨by omega, by omega⟩)) rfl ?_
    rw [e0]
    refine Ev.ite (fun z => absurd (of_decide_eq_true z) (by omega)) (fun _ => ?_)
    refine Ev.blk 7 (B97_10 _ _ _ _ _ ⟨by omega, by omega⟩) rfl ?_
    rw [e1]
    refine sp1_lp (V := V) hc hP hB hG hs h1 w1 (k := k) (by omega) (fun x hx => ?_) (n - st k) (st k) 0 (by omega) (setb_c setb_0 (fun v hv => ?_))
    · refine Ev.blk 7 (B97_66 _ _ _ _ _ _ _ ⟨by omega, by omega⟩) rfl ?_
      rw [Int.toNat_natCast]
      refine Ev.kill [false, false, false, true, true] ?_
      dsimp only [mkl]
      refine sp0_lp (L := L) (d := d) hc hP hB hG hs h1 hQ m (k + 1) _ (by omega) (fun y hy => by rw [uV_ne hy]; exact w1 y hy) (fun a ha => ?_)
      rw [uV_at]
      by_cases q : a = k
      · rw [if_pos q, q]
        exact hx
      · rw [if_neg q]
        exact w2 a (by omega)
    · by_cases q : v < st k
      · rw [decide_eq_true q, Bool.true_and]
        symm
        refine decide_eq_false (fun z => ?_)
        have := hG (st k) v q (by omega)
        have z2 : 0 < G (st k) v := z.2.2
        omega
      · rw [decide_eq_false q, Bool.false_and]
theorem x_spread {L d : Nat} {V : Mv} {b : Bool} {c n : Nat} {G : Nat → Nat → Int} {co mw mc : Nat → Int} {st : Nat → Nat} (hc : isK c) (hP : PK V c n G co mw mc) (hB : PB n G co mw mc) (hG : ∀ i j, j < i → i < 8 → G i j = 0) (hs : ∀ a, a < n → st a < n) (h1 : ∀ a, a < n → V 101 a = (st a : Int)) : Ex L d 97 [.inr (.inr 100), .inr (.inr c)] V b (fun r W b' => r = none ∧ b' = b ∧ (∀ y, y ≠ 103 → W y = V y) ∧ ∀ a, a < n → setb (W 103 a) (re (fun a b => G (st a) b) n a)) := by
  refine Ev.blk 2 (B97_0 _ _ _ _) rfl ?_
  exact sp0_lp hc hP hB hG hs h1 (fun W w1 w2 => ⟨rfl, rfl, w1, w2⟩) n 0 V (by omega) (fun _ _ => rfl) (fun a ha => absurd ha (by omega))
