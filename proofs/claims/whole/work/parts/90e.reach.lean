/-! where mornings lead, in the reference (specs63.py) -/
theorem x_runsAt {L d : Nat} {V : Mv} {b : Bool} {m n r : Nat} {G : Nat → Nat → Int} {co mw mc act : Nat → Int} (hm3 : m < 3) (hr : r < 5) (hP : PR V m n G co mw mc) (hR : RB n G co mw mc act) (hA : ∀ a, a < 8 → V 135 (8 * r + a) = act a) {a : Nat} (ha : a < n) (h : act a = 0 ∨ ¬ mw (act a - 1).toNat = -9) : Ex L d 179 [.inr (.inr 120), .inl (m : Int), .inl (r : Int), .inl (a : Int)] V b (Ans (some (.inl (stA act mw a : Int))) V b) := by
  have h8 := hR.1.2.1
  have hb := hR.2.2.2 a (by omega)
  have eA : V 135 (8 * (r : Int) + (a : Int)).toNat = act a := by
    rw [show (8 * (r : Int) + (a : Int)).toNat = 8 * r + a by omega]
    exact hA a (by omega)
  refine Ev.blk 11 (B179_0 _ _ _ _ _ _ ⟨by omega, by omega⟩ (by rw [eA]; exact ⟨by omega, by omega⟩)) rfl ?_
  rw [eA]
  refine Ev.ite (fun z => ?_) (fun z => ?_)
  · replace z := nd_t z
    obtain ⟨j, hj⟩ : ∃ j : Nat, act a - 1 = (j : Int) := ⟨(act a - 1).toNat, by omega⟩
    have e : V 126 (4 * (m : Int) + act a - 1).toNat = mw j := by
      rw [show (4 * (m : Int) + act a - 1).toNat = 4 * m + j by omega]
      exact hP.2.2.2.1 j (by omega)
    have mb := hR.1.2.2.2.2.1 j (by omega)
    rw [hj, Int.toNat_natCast] at h
    refine Ev.blk 10 (B179_22 _ _ _ _ _ _ _ ⟨by omega, by omega⟩) rfl ?_
    refine Ev.ret rfl rfl rfl rfl ⟨?_, rfl, rfl⟩
    have e1 : (stA act mw a : Int) = mw j := by
      unfold stA
      rw [if_neg z, hj, Int.toNat_natCast]
      omega
    rw [e, e1]
  · replace z := nd_f z
    refine Ev.blk 2 (B179_18 _ _ _ _ _ _ _) rfl ?_
    refine Ev.ret rfl rfl rfl rfl ⟨?_, rfl, rfl⟩
    have e1 : stA act mw a = a := if_pos z
    rw [e1]
def hmB (act mw : Nat → Int) : Nat → Bool
  | 0 => true
  | k + 1 => hmB act mw k && (decide (act k = 0) || !decide (mw (act k - 1).toNat = -9))
theorem hmB_t {act mw : Nat → Int} : ∀ n, hmB act mw n = true ↔ hasM act mw n
  | 0 => ⟨fun _ a ha => absurd ha (by omega), fun _ => rfl⟩
  | k + 1 => by
    have ih := hmB_t (act := act) (mw := mw) k
    show (hmB act mw k && (decide (act k = 0) || !decide (mw (act k - 1).toNat = -9))) = true ↔ _
    rw [Bool.and_eq_true, ih, Bool.or_eq_true, decide_eq_true_iff]
    constructor
    · rintro ⟨h1, h2⟩ a ha
      by_cases e : a = k
      · subst e
        rcases h2 with h2 | h2
        · exact Or.inl h2
        · exact Or.inr (nd_t h2)
      · exact h1 a (by omega)
    · intro h
      refine ⟨fun a ha => h a (by omega), ?_⟩
      rcases h k (by omega) with h2 | h2
      · exact Or.inl h2
      · exact Or.inr (by rw [decide_eq_false h2]; rfl)
theorem hm_lp {L d : Nat} {V : Mv} {b : Bool} {Q : Option AV → Mv → Bool → Prop} {m n r : Nat} {G : Nat → Nat → Int} {co mw mc act : Nat → Int} (hm3 : m < 3) (hr : r < 5) (hP : PR V m n G co mw mc) (hR : RB n G co mw mc act) (hA : ∀ a, a < 8 → V 135 (8 * r + a) = act a) (hQ : Q (some (.inl (cond (hmB act mw n) 1 0))) V b) : ∀ (j k : Nat), k + j = n → Ev L d 176 5 [some (.inr (.inr 120)), some (.inl (m : Int)), some (.inl (r : Int)), some (.inl (cond (hmB act mw k) 1 0)), some (.inl (k : Int)), none] [] V b Q
  | 0, k, h => by
    obtain rfl : k = n := by omega
    have h8 := hR.1.2.1
    have e0 : V 121 ((m : Int)).toNat = (k : Int) := by rw [Int.toNat_natCast]; exact hP.1
    refine Ev.blk 6 (B176_5 _ _ _ _ _ _ _ ⟨by omega, by omega⟩ ⟨by omega, by omega⟩ (by rw [e0]; exact ⟨by omega, by omega⟩)) rfl ?_
    rw [e0]
    refine Ev.ite (fun _ => ?_) (fun z => absurd (of_decide_eq_false z) (by omega))
    refine Ev.blk 1 (B176_69 _ _ _ _ _ _ _) rfl ?_
    exact Ev.ret rfl rfl rfl (by cases hmB act mw k <;> rfl) hQ
  | j + 1, k, h => by
    have h8 := hR.1.2.1
    have hb := hR.2.2.2 k (by omega)
    have e0 : V 121 ((m : Int)).toNat = (n : Int) := by rw [Int.toNat_natCast]; exact hP.1
    have eA : V 135 (8 * (r : Int) + (k : Int)).toNat = act k := by
      rw [show (8 * (r : Int) + (k : Int)).toNat = 8 * r + k by omega]
      exact hA k (by omega)
    have ih := hm_lp (L := L) (d := d) hm3 hr hP hR hA hQ j (k + 1) (by omega)
    have fin : ∀ z : Int, z = cond (hmB act mw (k + 1)) 1 0 → Ev L d 176 62 [some (.inr (.inr 120)), some (.inl (m : Int)), some (.inl (r : Int)), some (.inl (cond (hmB act mw k) 1 0)), some (.inl (k : Int)), some (.inl (act k))] [.inl z] V b Q := fun z hz => by
      subst hz
      refine Ev.blk 3 (B176_62 _ _ _ _ _ _ _ _ _) rfl ?_
      refine Ev.kill [false, false, false, false, false, true] ?_
      dsimp only [mkl]
      exact ih
    have nx : hmB act mw (k + 1) = (hmB act mw k && (decide (act k = 0) || !decide (mw (act k - 1).toNat = -9))) := rfl
    refine Ev.blk 6 (B176_5 _ _ _ _ _ _ _ ⟨by omega, by omega⟩ ⟨by omega, by omega⟩ (by rw [e0]; exact ⟨by omega, by omega⟩)) rfl ?_
    rw [e0]
    refine Ev.ite (fun z => absurd (of_decide_eq_true z) (by omega)) (fun _ => ?_)
    cases hh : hmB act mw k with
    | false =>
      rw [hh] at fin nx
      refine Ev.blk 11 (B176_16 _ _ _ _ _ _ _ ⟨by omega, by omega⟩ (by decide)) rfl ?_
      rw [eA]
      refine Ev.ite (fun _ => ?_) (fun z => absurd z (by decide))
      refine Ev.blk 1 (B176_61 _ _ _ _ _ _ _ _) rfl ?_
      exact fin 0 (by rw [nx]; rfl)
    | true =>
      rw [hh, Bool.true_and] at nx
      rw [hh] at fin
      refine Ev.blk 11 (B176_16 _ _ _ _ _ _ _ ⟨by omega, by omega⟩ (by decide)) rfl ?_
      rw [eA]
      refine Ev.ite (fun z => absurd z (by decide)) (fun _ => ?_)
      refine Ev.blk 2 (B176_34 _ _ _ _ _ _ _ _ ⟨by omega, by omega⟩) rfl ?_
      refine Ev.ite (fun z => ?_) (fun z => ?_)
      · replace z := of_decide_eq_true z
        refine Ev.blk 2 (B176_57 _ _ _ _ _ _ _ _) rfl ?_
        exact fin 1 (by rw [nx, decide_eq_true z]; rfl)
      · replace z := of_decide_eq_false z
        obtain ⟨i, hi⟩ : ∃ i : Nat, act k - 1 = (i : Int) := ⟨(act k - 1).toNat, by omega⟩
        have e : V 126 (4 * (m : Int) + act k - 1).toNat = mw i := by
          rw [show (4 * (m : Int) + act k - 1).toNat = 4 * m + i by omega]
          exact hP.2.2.2.1 i (by omega)
        have mb := hR.1.2.2.2.2.1 i (by omega)
        rw [decide_eq_false z, hi, Int.toNat_natCast, Bool.false_or] at nx
        refine Ev.blk 12 (B176_39 _ _ _ _ _ _ _ _ ⟨by omega, by omega⟩ (by rw [e]; exact ⟨by omega, by omega⟩)) rfl ?_
        rw [e]
        refine Ev.ite (fun y => ?_) (fun y => ?_)
        · replace y := of_decide_eq_true y
          refine Ev.blk 1 (B176_61 _ _ _ _ _ _ _ _) rfl ?_
          exact fin 0 (by rw [nx, decide_eq_true y]; rfl)
        · replace y := of_decide_eq_false y
          refine Ev.blk 2 (B176_57 _ _ _ _ _ _ _ _) rfl ?_
          exact fin 1 (by rw [nx, decide_eq_false y]; rfl)
theorem x_hasMs {L d : Nat} {V : Mv} {b : Bool} {m n r : Nat} {G : Nat → Nat → Int} {co mw mc act : Nat → Int} (hm3 : m < 3) (hr : r < 5) (hP : PR V m n G co mw mc) (hR : RB n G co mw mc act) (hA : ∀ a, a < 8 → V 135 (8 * r + a) = act a) : Ex L d 176 [.inr (.inr 120), .inl (m : Int), .inl (r : Int)] V b (Ans (some (.inl (cond (hmB act mw n) 1 0))) V b) := by
  refine Ev.blk 4 (B176_0 _ _ _ _ _) rfl ?_
  exact hm_lp hm3 hr hP hR hA ⟨rfl, rfl, rfl⟩ n 0 (by omega)
theorem lr1_lp {L d : Nat} {V U : Mv} {b : Bool} {Q : Option AV → Mv → Bool → Prop} {m n r : Nat} {G : Nat → Nat → Int} {co mw mc act : Nat → Int} (hm3 : m < 3) (hr : r < 5) (hP : PR V m n G co mw mc) (hR : RB n G co mw mc act) (hA : ∀ a, a < 8 → V 135 (8 * r + a) = act a) (hm : hasM act mw n) (hU : ∀ y, 121 ≤ y → y ≤ 135 → U y = V y) {k : Nat} (hk : k < n) (hQ : ∀ W, (∀ y, y ≠ 136 → W y = U y) → (∀ i, i ≠ k → W 136 i = U 136 i) → setb (W 136 k) (ed (qA G act mw) n k) → Ev L (d + 2) 178 80 [some (.inr (.inr 120)), some (.inl (m : Int)), some (.inl (r : Int)), some (.inl (n : Int)), some (.inl (k : Int)), some (.inl (stA act mw k : Int)), some (.inl (n : Int))] [] W b Q) : ∀ (j to : Nat) (W : Mv), to + j = n → (∀ y, y ≠ 136 → W y = U y) → (∀ i, i ≠ k → W 136 i = U 136 i) → setb (W 136 k) (fun v => decide (v < to) && ed (qA G act mw) n k v) → Ev L (d + 2) 178 38 [some (.inr (.inr 120)), some (.inl (m : Int)), some (.inl (r : Int)), some (.inl (n : Int)), some (.inl (k : Int)), some (.inl (stA act mw k : Int)), some (.inl (to : Int))] [] W b Q
  | 0, to, W, h, w1, w2, w3 => by
    obtain rfl : to = n := by omega
    have h8 := hR.1.2.1
    refine Ev.blk 3 (B178_38 _ _ _ _ _ _ _ _ _ ⟨by omega, by omega⟩ ⟨by omega, by omega⟩) rfl ?_
    refine Ev.ite (fun _ => ?_) (fun z => absurd (of_decide_eq_false z) (by omega))
    refine hQ W w1 w2 (setb_c w3 (fun v hv => ?_))
    by_cases q : v < to
    · rw [decide_eq_true q, Bool.true_and]
    · rw [decide_eq_false q, Bool.false_and]
      symm
      exact decide_eq_false (fun z => q z.2.1)
  | j + 1, to, W, h, w1, w2, w3 => by
    have h8 := hR.1.2.1
    have hsk := hR.st hm hk
    have hPW : PR W m n G co mw mc := hP.frame (fun x h1 h2 => by rw [w1 x (by omega), hU x h1 (by omega)])
    have gb := hR.1.2.2.1 (stA act mw k) to (by omega) (by omega)
    have stp1 : ∀ y : Int, setb y (fun v => decide (v = to) && decide (0 < G (stA act mw k) to)) → Ev L (d + 2) 178 38 [some (.inr (.inr 120)), some (.inl (m : Int)), some (.inl (r : Int)), some (.inl (n : Int)), some (.inl (k : Int)), some (.inl (stA act mw k : Int)), some (.inl ((to + 1 : Nat) : Int))] [] (uV W 136 k (oOr (W 136 k) y)) b Q := fun y hy => by
      refine lr1_lp (L := L) (d := d) hm3 hr hP hR hA hm hU hk hQ j (to + 1) _ (by omega) (fun y hy => by rw [uV_ne hy]; exact w1 y hy) (fun i hi => by rw [uV_at, if_neg hi]; exact w2 i hi) ?_
      rw [uV_at, if_pos rfl]
      refine setb_c (setb_or w3 hy) (fun v hv => ?_)
      show ((decide (v < to) && ed (qA G act mw) n k v) || (decide (v = to) && decide (0 < G (stA act mw k) to))) = (decide (v < to + 1) && ed (qA G act mw) n k v)
      by_cases q : v = to
      · subst q
        rw [decide_eq_false (Nat.lt_irrefl v), decide_eq_true (show v < v + 1 by omega), decide_eq_true (show v = v from rfl), Bool.false_and, Bool.false_or, Bool.true_and, Bool.true_and]
        unfold ed
        rw [decide_eq_decide]
        exact ⟨fun z => ⟨hk, by omega, z⟩, fun z => z.2.2⟩
      · rw [decide_eq_false q, Bool.false_and, Bool.or_false]
        by_cases p : v < to
        · rw [decide_eq_true p, decide_eq_true (show v < to + 1 by omega)]
        · rw [decide_eq_false p, decide_eq_false (show ¬ v < to + 1 by omega), Bool.false_and]
    refine Ev.blk 3 (B178_38 _ _ _ _ _ _ _ _ _ ⟨by omega, by omega⟩ ⟨by omega, by omega⟩) rfl ?_
    refine Ev.ite (fun z => absurd (of_decide_eq_true z) (by omega)) (fun _ => ?_)
    refine Ev.blk 9 (B178_44 _ _ _ _ _ _ _ _ _ ⟨by omega, by omega⟩) rfl ?_
    refine Ev.call rfl rfl rfl (x_goesOf (d := d) (m := (m : Int)) (a := (stA act mw k : Int)) (c := (to : Int)) (by omega) (by omega) (by omega)) (by omega) ?_
    rintro v V' b' ⟨rfl, h_, g_⟩
    subst V' b'
    rw [hPW.2.1 (stA act mw k) to (by omega) (by omega)]
    refine Ev.blk 1 (B178_61 _ _ _ _ _ _ _ _ _ _ _ _ _ _ rfl ⟨by omega, by omega⟩) rfl ?_
    refine Ev.ite (fun z => ?_) (fun z => ?_)
    · replace z := of_decide_eq_true z
      refine Ev.blk 1 (B178_71 _ _ _ _ _ _ _ _ _ _ _ _ _ rfl) rfl ?_
      refine Ev.blk 4 (B178_72 _ _ _ _ _ _ _ _ _ _ _ _ _ _ rfl ⟨by omega, by omega⟩ (by decide)) rfl ?_
      rw [Int.toNat_natCast]
      exact stp1 0 (setb_c setb_0 (fun v hv => by rw [decide_eq_false (show ¬ 0 < G (stA act mw k) to by omega), Bool.and_false]))
    · replace z := of_decide_eq_false z
      refine Ev.blk 4 (B178_64 _ _ _ _ _ _ _ _ _ _ _ _ _ rfl) rfl ?_
      refine Ev.blk 4 (B178_72 _ _ _ _ _ _ _ _ _ _ _ _ _ _ rfl ⟨by omega, by omega⟩ (by decide)) rfl ?_
      rw [Int.toNat_natCast]
      exact stp1 _ (setb_c (setb_shl (k := to) (by omega)) (fun v hv => by rw [decide_eq_true (show 0 < G (stA act mw k) to by omega), Bool.and_true]))
theorem lr0_lp {L d : Nat} {V : Mv} {b : Bool} {Q : Option AV → Mv → Bool → Prop} {m n r : Nat} {G : Nat → Nat → Int} {co mw mc act : Nat → Int} (hm3 : m < 3) (hr : r < 5) (hP : PR V m n G co mw mc) (hR : RB n G co mw mc act) (hA : ∀ a, a < 8 → V 135 (8 * r + a) = act a) (hm : hasM act mw n) (hQ : ∀ W, (∀ y, y ≠ 136 → y ≠ 137 → W y = V y) → (∀ a, a < n → setb (W 137 a) (ed (qA G act mw) n a)) → Ev L (d + 2) 178 100 [some (.inr (.inr 120)), some (.inl (m : Int)), some (.inl (r : Int)), some (.inl (n : Int)), some (.inl (n : Int)), none, none] [] W b Q) : ∀ (j k : Nat) (W : Mv), k + j = n → (∀ y, y ≠ 136 → y ≠ 137 → W y = V y) → (∀ a, a < k → setb (W 137 a) (ed (qA G act mw) n a)) → Ev L (d + 2) 178 10 [some (.inr (.inr 120)), some (.inl (m : Int)), some (.inl (r : Int)), some (.inl (n : Int)), some (.inl (k : Int)), none, none] [] W b Q
  | 0, k, W, h, w1, w2 => by
    obtain rfl : k = n := by omega
    have h8 := hR.1.2.1
    refine Ev.blk 3 (B178_10 _ _ _ _ _ _ _ ⟨by omega, by omega⟩ ⟨by omega, by omega⟩) rfl ?_
    refine Ev.ite (fun _ => ?_) (fun z => absurd (of_decide_eq_false z) (by omega))
    exact hQ W w1 w2
  | j + 1, k, W, h, w1, w2 => by
    have h8 := hR.1.2.1
    have hsk := hR.st hm (show k < n by omega)
    refine Ev.blk 3 (B178_10 _ _ _ _ _ _ _ ⟨by omega, by omega⟩ ⟨by omega, by omega⟩) rfl ?_
    refine Ev.ite (fun z => absurd (of_decide_eq_true z) (by omega)) (fun _ => ?_)
    refine Ev.blk 4 (B178_16 _ _ _ _ _ _ _) rfl ?_
    refine Ev.call rfl rfl rfl (x_runsAt (d := d) hm3 hr (hP.frame (fun x h1 h2 => w1 x (by omega) (by omega))) hR (fun a ha => by rw [w1 135 (by omega) (by omega)]; exact hA a ha) (a := k) (by omega) (hm k (by omega))) (by omega) ?_
    rintro v V' b' ⟨rfl, h_, g_⟩
    subst V' b'
    refine Ev.blk 8 (B178_24 _ _ _ _ _ _ _ _ ⟨by omega, by omega⟩) rfl ?_
    rw [Int.toNat_natCast]
    refine lr1_lp (V := V) (U := uV W 136 k 0) hm3 hr hP hR hA hm (fun y h1 h2 => by rw [uV_ne (by omega)]; exact w1 y (by omega) (by omega)) (k := k) (by omega) (fun W2 v1 v2 v3 => ?_) (n - stA act mw k) (stA act mw k) _ (by omega) (fun _ _ => rfl) (fun _ _ => rfl) ?_
    · refine Ev.blk 10 (B178_80 _ _ _ _ _ _ _ _ _ ⟨by omega, by omega⟩) rfl ?_
      rw [Int.toNat_natCast]
      refine Ev.kill [false, false, false, false, false, true, true] ?_
      dsimp only [mkl]
      refine lr0_lp (L := L) (d := d) hm3 hr hP hR hA hm hQ j (k + 1) _ (by omega) (fun y h1 h2 => by rw [uV_ne h2, v1 y h1, uV_ne h1]; exact w1 y h1 h2) (fun a ha => ?_)
      rw [uV_at]
      by_cases q : a = k
      · rw [if_pos q, q]
        exact v3
      · rw [if_neg q, v1 137 (by omega), uV_ne (by omega)]
        exact w2 a (by omega)
    · rw [uV_at, if_pos rfl]
      refine setb_c setb_0 (fun v hv => ?_)
      by_cases q : v < stA act mw k
      · rw [decide_eq_true q, Bool.true_and]
        symm
        refine decide_eq_false (fun z => ?_)
        have := hR.2.2.1 (stA act mw k) v q (by omega)
        have z2 : 0 < G (stA act mw k) v := z.2.2
        omega
      · rw [decide_eq_false q, Bool.false_and]
def lrS (q : Nat → Nat → Int) (n t a b : Nat) (W : Mv) : Prop := (∀ x, x < n → in32 (W 137 x)) ∧ (∀ x v, x < n → v < 32 → (pk (ed q n) t x v = true → bit (W 137 x) v = true) ∧ (bit (W 137 x) v = true → re q n x v = true)) ∧ (∀ x v, x < n → v < 32 → (x < a ∨ (x = a ∧ t < b)) → pk (ed q n) (t + 1) x v = true → bit (W 137 x) v = true)
theorem lrS_step {q : Nat → Nat → Int} {n t a b : Nat} {W : Mv} {y : Int} (h : lrS q n t a b W) (h1 : ∀ v, v < 32 → bit y v = true → re q n a v = true) (h2 : b = t → pk (ed q n) t a t = true → ∀ v, v < 32 → pk (ed q n) t t v = true → bit y v = true) : lrS q n t a (b + 1) (uV W 137 a (oOr (W 137 a) y)) := by
  refine ⟨fun x hx => ?_, fun x v hx hv => ?_, fun x v hx hv hc hp => ?_⟩
  · rw [uV_at]
    by_cases e : x = a
    · rw [if_pos e]
      exact oOr_in _ _
    · rw [if_neg e]
      exact h.1 x hx
  · rw [uV_at]
    by_cases e : x = a
    · subst e
      rw [if_pos rfl, bit_or, Bool.or_eq_true]
      refine ⟨fun p => Or.inl ((h.2.1 x v hx hv).1 p), fun p => ?_⟩
      rcases p with p | p
      · exact (h.2.1 x v hx hv).2 p
      · exact h1 v hv p
    · rw [if_neg e]
      exact h.2.1 x v hx hv
  · rw [uV_at]
    by_cases e : x = a
    · subst e
      rw [if_pos rfl, bit_or, Bool.or_eq_true]
      by_cases tb : t < b
      · exact Or.inl (h.2.2 x v hx hv (Or.inr ⟨rfl, tb⟩) hp)
      · rcases pk_s.mp hp with p | p
        · exact Or.inl ((h.2.1 x v hx hv).1 p)
        · exact Or.inr (h2 (by omega) p.1 v hv p.2)
    · rw [if_neg e]
      exact h.2.2 x v hx hv (by omega) hp
theorem lr4_lp {L d : Nat} {V : Mv} {b : Bool} {Q : Option AV → Mv → Bool → Prop} {m n r t a : Nat} {q : Nat → Nat → Int} (h8 : n ≤ 8) (ht : t < n) (ha : a < n) (hQ : ∀ W, (∀ y, y ≠ 137 → W y = V y) → lrS q n t a n W → Ev L d 178 170 [some (.inr (.inr 120)), some (.inl (m : Int)), some (.inl (r : Int)), some (.inl (n : Int)), some (.inl (t : Int)), some (.inl (a : Int)), some (.inl (n : Int))] [] W b Q) : ∀ (j k : Nat) (W : Mv), k + j = n → (∀ y, y ≠ 137 → W y = V y) → lrS q n t a k W → Ev L d 178 121 [some (.inr (.inr 120)), some (.inl (m : Int)), some (.inl (r : Int)), some (.inl (n : Int)), some (.inl (t : Int)), some (.inl (a : Int)), some (.inl (k : Int))] [] W b Q
  | 0, k, W, h, w1, w2 => by
    obtain rfl : k = n := by omega
    refine Ev.blk 3 (B178_121 _ _ _ _ _ _ _ _ _ ⟨by omega, by omega⟩ ⟨by omega, by omega⟩) rfl ?_
    refine Ev.ite (fun _ => ?_) (fun z => absurd (of_decide_eq_false z) (by omega))
    exact hQ W w1 w2
  | j + 1, k, W, h, w1, w2 => by
    have tt := tst1 (m := W 137 a) (v := (k : Int)) (by omega)
    rw [Int.toNat_natCast] at tt
    refine Ev.blk 3 (B178_121 _ _ _ _ _ _ _ _ _ ⟨by omega, by omega⟩ ⟨by omega, by omega⟩) rfl ?_
    refine Ev.ite (fun z => absurd (of_decide_eq_true z) (by omega)) (fun _ => ?_)
    refine Ev.blk 15 (B178_127 _ _ _ _ _ _ _ _ _ ⟨by omega, by omega⟩ (oAnd_in _ _)) rfl ?_
    rw [Int.toNat_natCast]
    refine Ev.ite (fun z => ?_) (fun z => ?_)
    · replace z := nd_t z
      have nb : ¬ bit (W 137 a) k = true := fun w => z (tt.mpr w)
      refine Ev.blk 1 (B178_161 _ _ _ _ _ _ _ _ _ _ _ _ _ rfl) rfl ?_
      refine Ev.blk 4 (B178_162 _ _ _ _ _ _ _ _ _ _ _ _ _ _ rfl ⟨by omega, by omega⟩ (by decide)) rfl ?_
      rw [Int.toNat_natCast]
      refine lr4_lp (L := L) (d := d) h8 ht ha hQ j (k + 1) _ (by omega) (fun y hy => by rw [uV_ne hy]; exact w1 y hy) (lrS_step w2 (fun v hv p => ?_) (fun e p => ?_))
      · rw [bit_0] at p
        exact absurd p (by decide)
      · subst e
        exact absurd ((w2.2.1 a k ha (by omega)).1 p) nb
    · replace z := nd_f z
      have hb := tt.mp z
      have rab := (w2.2.1 a k ha (by omega)).2 hb
      refine Ev.blk 5 (B178_151 _ _ _ _ _ _ _ _ _ _ _ _ _ rfl ⟨by omega, by omega⟩) rfl ?_
      rw [Int.toNat_natCast]
      refine Ev.blk 4 (B178_162 _ _ _ _ _ _ _ _ _ _ _ _ _ _ rfl ⟨by omega, by omega⟩ (by decide)) rfl ?_
      rw [Int.toNat_natCast]
      refine lr4_lp (L := L) (d := d) h8 ht ha hQ j (k + 1) _ (by omega) (fun y hy => by rw [uV_ne hy]; exact w1 y hy) (lrS_step w2 (fun v hv p => ?_) (fun e p v hv p2 => ?_))
      · exact re_tr rab ((w2.2.1 k v (by omega) hv).2 p)
      · subst e
        exact (w2.2.1 k v (by omega) hv).1 p2
theorem lr3_lp {L d : Nat} {V : Mv} {b : Bool} {Q : Option AV → Mv → Bool → Prop} {m n r t : Nat} {q : Nat → Nat → Int} (h8 : n ≤ 8) (ht : t < n) (hQ : ∀ W, (∀ y, y ≠ 137 → W y = V y) → lrS q n t n 0 W → Ev L d 178 176 [some (.inr (.inr 120)), some (.inl (m : Int)), some (.inl (r : Int)), some (.inl (n : Int)), some (.inl (t : Int)), some (.inl (n : Int)), none] [] W b Q) : ∀ (j k : Nat) (W : Mv), k + j = n → (∀ y, y ≠ 137 → W y = V y) → lrS q n t k 0 W → Ev L d 178 112 [some (.inr (.inr 120)), some (.inl (m : Int)), some (.inl (r : Int)), some (.inl (n : Int)), some (.inl (t : Int)), some (.inl (k : Int)), none] [] W b Q
  | 0, k, W, h, w1, w2 => by
    obtain rfl : k = n := by omega
    refine Ev.blk 3 (B178_112 _ _ _ _ _ _ _ _ ⟨by omega, by omega⟩ ⟨by omega, by omega⟩) rfl ?_
    refine Ev.ite (fun _ => ?_) (fun z => absurd (of_decide_eq_false z) (by omega))
    exact hQ W w1 w2
  | j + 1, k, W, h, w1, w2 => by
    refine Ev.blk 3 (B178_112 _ _ _ _ _ _ _ _ ⟨by omega, by omega⟩ ⟨by omega, by omega⟩) rfl ?_
    refine Ev.ite (fun z => absurd (of_decide_eq_true z) (by omega)) (fun _ => ?_)
    refine Ev.blk 2 (B178_118 _ _ _ _ _ _ _ _) rfl ?_
    refine lr4_lp (V := V) (q := q) h8 ht (a := k) (by omega) (fun W2 v1 v2 => ?_) n 0 W (by omega) w1 w2
    refine Ev.blk 2 (B178_170 _ _ _ _ _ _ _ _ _) rfl ?_
    refine Ev.kill [false, false, false, false, false, false, true] ?_
    dsimp only [mkl]
    refine lr3_lp (L := L) (d := d) h8 ht hQ j (k + 1) W2 (by omega) v1 ⟨v2.1, v2.2.1, fun x v hx hv hc hp => v2.2.2 x v hx hv (by omega) hp⟩
theorem lr2_lp {L d : Nat} {V : Mv} {b : Bool} {Q : Option AV → Mv → Bool → Prop} {m n r : Nat} {q : Nat → Nat → Int} (h8 : n ≤ 8) (hQ : ∀ W, (∀ y, y ≠ 137 → W y = V y) → lrS q n n 0 0 W → Q none W b) : ∀ (j t : Nat) (W : Mv), t + j = n → (∀ y, y ≠ 137 → W y = V y) → lrS q n t 0 0 W → Ev L d 178 103 [some (.inr (.inr 120)), some (.inl (m : Int)), some (.inl (r : Int)), some (.inl (n : Int)), some (.inl (t : Int)), none, none] [] W b Q
  | 0, t, W, h, w1, w2 => by
    obtain rfl : t = n := by omega
    refine Ev.blk 3 (B178_103 _ _ _ _ _ _ _ ⟨by omega, by omega⟩ ⟨by omega, by omega⟩) rfl ?_
    refine Ev.ite (fun _ => ?_) (fun z => absurd (of_decide_eq_false z) (by omega))
    exact Ev.ret rfl rfl rfl rfl (hQ W w1 w2)
  | j + 1, t, W, h, w1, w2 => by
    refine Ev.blk 3 (B178_103 _ _ _ _ _ _ _ ⟨by omega, by omega⟩ ⟨by omega, by omega⟩) rfl ?_
    refine Ev.ite (fun z => absurd (of_decide_eq_true z) (by omega)) (fun _ => ?_)
    refine Ev.blk 2 (B178_109 _ _ _ _ _ _ _) rfl ?_
    refine lr3_lp (V := V) (q := q) h8 (t := t) (by omega) (fun W2 v1 v2 => ?_) n 0 W (by omega) w1 w2
    refine Ev.blk 2 (B178_176 _ _ _ _ _ _ _ _) rfl ?_
    refine Ev.kill [false, false, false, false, false, true] ?_
    dsimp only [mkl]
    refine lr2_lp (L := L) (d := d) h8 hQ j (t + 1) W2 (by omega) v1 ⟨v2.1, fun x v hx hv => ⟨fun p => v2.2.2 x v hx hv (Or.inl hx) p, (v2.2.1 x v hx hv).2⟩, fun x v hx hv hc => absurd hc (by omega)⟩
theorem x_layReach {L d : Nat} {V : Mv} {b : Bool} {m n r : Nat} {G : Nat → Nat → Int} {co mw mc act : Nat → Int} (hm3 : m < 3) (hr : r < 5) (hP : PR V m n G co mw mc) (hR : RB n G co mw mc act) (hA : ∀ a, a < 8 → V 135 (8 * r + a) = act a) (hm : hasM act mw n) : Ex L (d + 2) 178 [.inr (.inr 120), .inl (m : Int), .inl (r : Int)] V b (fun v W b' => v = none ∧ b' = b ∧ (∀ y, y ≠ 136 → y ≠ 137 → W y = V y) ∧ ∀ a, a < n → setb (W 137 a) (re (qA G act mw) n a)) := by
  have h8 := hR.1.2.1
  have e0 : V 121 ((m : Int)).toNat = (n : Int) := by rw [Int.toNat_natCast]; exact hP.1
  refine Ev.blk 7 (B178_0 _ _ _ _ _ ⟨by omega, by omega⟩) rfl ?_
  rw [e0]
  refine lr0_lp hm3 hr hP hR hA hm (fun W w1 w2 => ?_) n 0 V (by omega) (fun _ _ _ => rfl) (fun a ha => absurd ha (by omega))
  refine Ev.blk 2 (B178_100 _ _ _ _ _ _ _) rfl ?_
  refine lr2_lp (V := W) (q := qA G act mw) h8 (fun W2 v1 v2 => ⟨rfl, rfl, fun y h1 h2 => by rw [v1 y h2]; exact w1 y h1 h2, fun a ha => ⟨v2.1 a ha, fun v hv => ?_⟩⟩) n 0 W (by omega) (fun _ _ => rfl) ⟨fun x hx => (w2 x hx).1, fun x v hx hv => ?_, fun x v hx hv hc => absurd hc (by omega)⟩
  · rw [(w2 x hx).2 v hv]
    refine ⟨fun p => p, fun p => ?_⟩
    have e := ed_t.mp p
    exact re_e e.1 e.2.1 e.2.2
  · rw [Bool.eq_iff_iff]
    exact ⟨(v2.2.1 a v ha hv).2, (v2.2.1 a v ha hv).1⟩
