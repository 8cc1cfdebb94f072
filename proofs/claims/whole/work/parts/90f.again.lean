/-! mornings that come for ever, in the reference (specs64.py) -/
def stB (q : Nat → Nat → Int) (n a : Nat) : Nat → Bool
  | 0 => true
  | k + 1 => stB q n a k && (!re q n a k || re q n k a)
theorem stB_t {q : Nat → Nat → Int} {n a : Nat} : ∀ k, stB q n a k = true ↔ ∀ b, b < k → re q n a b = true → re q n b a = true
  | 0 => ⟨fun _ b hb => absurd hb (by omega), fun _ => rfl⟩
  | k + 1 => by
    have ih := stB_t (q := q) (n := n) (a := a) k
    show (stB q n a k && (!re q n a k || re q n k a)) = true ↔ _
    rw [Bool.and_eq_true, ih, Bool.or_eq_true]
    constructor
    · rintro ⟨h1, h2⟩ b hb p
      by_cases e : b = k
      · subst e
        rcases h2 with h2 | h2
        · rw [p] at h2
          exact absurd h2 (by decide)
        · exact h2
      · exact h1 b (by omega) p
    · intro h
      refine ⟨fun b hb => h b (by omega), ?_⟩
      cases p : re q n a k with
      | false => exact Or.inl rfl
      | true => exact Or.inr (h k (by omega) p)
def evB (q : Nat → Nat → Int) (n a : Nat) : Bool := (mrB q n a && stB q n a n) && re q n a a
theorem evB_t {q : Nat → Nat → Int} {n a : Nat} : evB q n a = true ↔ evr q n a := by
  unfold evB evr rec_
  rw [Bool.and_eq_true, Bool.and_eq_true, mrB_t, stB_t, and_assoc]
def oneB (q : Nat → Nat → Int) (n : Nat) (e : Nat → Nat) : Nat → Bool
  | 0 => true
  | k + 1 => oneB q n e k && re q n (e 0) (e k)
theorem oneB_t {q : Nat → Nat → Int} {n : Nat} {e : Nat → Nat} : ∀ k, oneB q n e k = true ↔ ∀ i, i < k → re q n (e 0) (e i) = true
  | 0 => ⟨fun _ b hb => absurd hb (by omega), fun _ => rfl⟩
  | k + 1 => by
    have ih := oneB_t (q := q) (n := n) (e := e) k
    show (oneB q n e k && re q n (e 0) (e k)) = true ↔ _
    rw [Bool.and_eq_true, ih]
    constructor
    · rintro ⟨h1, h2⟩ i hi
      by_cases p : i = k
      · rw [p]
        exact h2
      · exact h1 i (by omega)
    · intro h
      exact ⟨fun i hi => h i (by omega), h k (by omega)⟩
theorem kC_com {q : Nat → Nat → Int} {n c : Nat} (hc : c < n) (h : com q n c) : 0 < kC q n := by
  have := cn_lt_of (P := comB q n) hc (comB_t.mpr h)
  unfold kC
  omega
theorem ev_com {q : Nat → Nat → Int} {n : Nat} (h : 0 < kC q n) {c : Nat} (hc : c < n) : evB q n c = comB q n c := by
  have a := (nth_mem (comB q n) n).at_ 0 h
  have c0 := comB_t.mp a.2.1
  rw [Bool.eq_iff_iff, evB_t, comB_t]
  exact ⟨fun he => evr_com a.1 c0 hc he, fun z => com_evr hc z⟩
theorem one_t {q : Nat → Nat → Int} {n : Nat} (h : GO q n) : oneB q n (nth (evB q n) n) (cn (evB q n) n) = true ↔ 0 < kC q n := by
  obtain ⟨y, hy, he⟩ := evr_ex h
  have p0 := cn_lt_of (P := evB q n) hy (evB_t.mpr he)
  have a0 := (nth_mem (evB q n) n).at_ 0 (by omega)
  rw [oneB_t]
  constructor
  · intro ho
    refine kC_com a0.1 (one_com h a0.1 (evB_t.mp a0.2.1) (fun x hx hex => ?_))
    have ex := evB_t.mpr hex
    have := ho _ (cn_lt_of hx ex)
    rw [nth_mem (evB q n) n x hx ex] at this
    exact this
  · intro hk i hi
    have ai := (nth_mem (evB q n) n).at_ i hi
    have ci := ai.2.1
    rw [ev_com hk ai.1] at ci
    exact (comB_t.mp ci).2 _ a0.1 (evB_t.mp a0.2.1).1
theorem lag2_lp {L d : Nat} {V : Mv} {b : Bool} {Q : Option AV → Mv → Bool → Prop} {m n r a : Nat} {x5 : Int} {q : Nat → Nat → Int} (h8 : n ≤ 8) (ha : a < n) (hs : ∀ a, a < n → setb (V 137 a) (re q n a)) (hQ : Ev L d 177 115 [some (.inr (.inr 120)), some (.inl (m : Int)), some (.inl (r : Int)), some (.inl (n : Int)), some (.inl (a : Int)), some (.inl x5), some (.inl (cond (stB q n a n) 1 0)), some (.inl (n : Int))] [] V b Q) : ∀ (j k : Nat), k + j = n → Ev L d 177 60 [some (.inr (.inr 120)), some (.inl (m : Int)), some (.inl (r : Int)), some (.inl (n : Int)), some (.inl (a : Int)), some (.inl x5), some (.inl (cond (stB q n a k) 1 0)), some (.inl (k : Int))] [] V b Q
  | 0, k, h => by
    obtain rfl : k = n := by omega
    refine Ev.blk 3 (B177_60 _ _ _ _ _ _ _ _ _ _ ⟨by omega, by omega⟩ ⟨by omega, by omega⟩) rfl ?_
    refine Ev.ite (fun _ => ?_) (fun z => absurd (of_decide_eq_false z) (by omega))
    exact hQ
  | j + 1, k, h => by
    have ih := lag2_lp (L := L) (d := d) (m := m) (r := r) h8 ha hs hQ j (k + 1) (by omega)
    have t1 := setb_t (hs a ha) (v := k) (by omega)
    have t2 := setb_t1 (hs k (by omega)) (v := a) (by omega)
    have fin : ∀ z : Int, z = cond (stB q n a (k + 1)) 1 0 → Ev L d 177 107 [some (.inr (.inr 120)), some (.inl (m : Int)), some (.inl (r : Int)), some (.inl (n : Int)), some (.inl (a : Int)), some (.inl x5), some (.inl (cond (stB q n a k) 1 0)), some (.inl (k : Int))] [.inl z] V b Q := fun z hz => by
      subst hz
      refine Ev.blk 3 (B177_107 _ _ _ _ _ _ _ _ _ _ _) rfl ?_
      exact ih
    have nx : stB q n a (k + 1) = (stB q n a k && (!re q n a k || re q n k a)) := rfl
    refine Ev.blk 3 (B177_60 _ _ _ _ _ _ _ _ _ _ ⟨by omega, by omega⟩ ⟨by omega, by omega⟩) rfl ?_
    refine Ev.ite (fun z => absurd (of_decide_eq_true z) (by omega)) (fun _ => ?_)
    cases hh : stB q n a k with
    | false =>
      rw [hh] at fin nx
      refine Ev.blk 2 (B177_66 _ _ _ _ _ _ _ _ _ _ (by decide)) rfl ?_
      refine Ev.ite (fun _ => ?_) (fun z => absurd z (by decide))
      refine Ev.blk 1 (B177_106 _ _ _ _ _ _ _ _ _ _) rfl ?_
      exact fin 0 (by rw [nx]; rfl)
    | true =>
      rw [hh, Bool.true_and] at nx
      rw [hh] at fin
      refine Ev.blk 2 (B177_66 _ _ _ _ _ _ _ _ _ _ (by decide)) rfl ?_
      refine Ev.ite (fun z => absurd z (by decide)) (fun _ => ?_)
      refine Ev.blk 9 (B177_71 _ _ _ _ _ _ _ _ _ _ ⟨by omega, by omega⟩ (oAnd_in _ _)) rfl ?_
      rw [Int.toNat_natCast]
      refine Ev.ite (fun z => ?_) (fun z => ?_)
      · replace z := of_decide_eq_true z
        have p : re q n a k = false := by
          cases p : re q n a k with
          | false => rfl
          | true => exact absurd z (t1.mpr p)
        refine Ev.blk 2 (B177_102 _ _ _ _ _ _ _ _ _ _) rfl ?_
        exact fin 1 (by rw [nx, p]; rfl)
      · replace z := of_decide_eq_false z
        have p := t1.mp z
        rw [p] at nx
        refine Ev.blk 10 (B177_86 _ _ _ _ _ _ _ _ _ _ ⟨by omega, by omega⟩ (oAnd_in _ _)) rfl ?_
        rw [Int.toNat_natCast]
        refine Ev.ite (fun y => ?_) (fun y => ?_)
        · replace y := nd_t y
          have p2 : re q n k a = false := by
            cases p2 : re q n k a with
            | false => rfl
            | true => exact absurd (t2.mpr p2) y
          refine Ev.blk 1 (B177_106 _ _ _ _ _ _ _ _ _ _) rfl ?_
          exact fin 0 (by rw [nx, p2]; rfl)
        · replace y := nd_f y
          refine Ev.blk 2 (B177_102 _ _ _ _ _ _ _ _ _ _) rfl ?_
          exact fin 1 (by rw [nx, t2.mp y]; rfl)
def laF (V W : Mv) : Prop := ∀ y k, y ≠ 138 → ¬ (y = 120 ∧ k = 23) → W y k = V y k
theorem laF.row {V W : Mv} (h : laF V W) {y : Nat} (h1 : y ≠ 138) (h2 : y ≠ 120) : W y = V y := funext (fun k => h y k h1 (by omega))
theorem lag1_lp {L d : Nat} {V : Mv} {b : Bool} {Q : Option AV → Mv → Bool → Prop} {m n r : Nat} {q : Nat → Nat → Int} (h8 : n ≤ 8) (hs : ∀ a, a < n → setb (V 137 a) (re q n a)) (hQ : ∀ W, laF V W → W 120 23 = (cn (evB q n) n : Int) → (∀ w, w < n → evB q n w = true → W 138 (cn (evB q n) w) = (w : Int)) → Ev L d 177 168 [some (.inr (.inr 120)), some (.inl (m : Int)), some (.inl (r : Int)), some (.inl (n : Int)), some (.inl (n : Int)), none, none, none] [] W b Q) : ∀ (j k : Nat) (W : Mv), k + j = n → laF V W → W 120 23 = (cn (evB q n) k : Int) → (∀ w, w < k → evB q n w = true → W 138 (cn (evB q n) w) = (w : Int)) → Ev L d 177 21 [some (.inr (.inr 120)), some (.inl (m : Int)), some (.inl (r : Int)), some (.inl (n : Int)), some (.inl (k : Int)), none, none, none] [] W b Q
  | 0, k, W, h, w1, w2, w3 => by
    obtain rfl : k = n := by omega
    refine Ev.blk 3 (B177_21 _ _ _ _ _ _ _ ⟨by omega, by omega⟩ ⟨by omega, by omega⟩) rfl ?_
    refine Ev.ite (fun _ => ?_) (fun z => absurd (of_decide_eq_false z) (by omega))
    exact hQ W w1 w2 w3
  | j + 1, k, W, h, w1, w2, w3 => by
    have e137 : W 137 = V 137 := w1.row (by omega) (by omega)
    have hsW : ∀ a, a < n → setb (W 137 a) (re q n a) := fun a ha => by rw [e137]; exact hs a ha
    have hck := cn_n (evB q n) k
    have no : ¬ evB q n k = true → ∀ x5 x6 : Int, Ev L d 177 162 [some (.inr (.inr 120)), some (.inl (m : Int)), some (.inl (r : Int)), some (.inl (n : Int)), some (.inl (k : Int)), some (.inl x5), some (.inl x6), some (.inl (n : Int))] [] W b Q := fun p x5 x6 => by
      refine Ev.blk 2 (B177_162 _ _ _ _ _ _ _ _ _ _) rfl ?_
      refine Ev.kill [false, false, false, false, false, true, true, true] ?_
      dsimp only [mkl]
      refine lag1_lp (L := L) (d := d) h8 hs hQ j (k + 1) W (by omega) w1 (by rw [cn_f p]; exact w2) (fun w hw hp => ?_)
      by_cases e : w = k
      · rw [e] at hp
        exact absurd hp p
      · exact w3 w (by omega) hp
    have ev : evB q n k = ((mrB q n k && stB q n k n) && re q n k k) := rfl
    have body : ∀ z : Int, z = cond (mrB q n k) 1 0 → Ev L d 177 52 [some (.inr (.inr 120)), some (.inl (m : Int)), some (.inl (r : Int)), some (.inl (n : Int)), some (.inl (k : Int)), none, none, none] [.inl z] W b Q := fun z hz => by
      subst hz
      refine Ev.blk 5 (B177_52 _ _ _ _ _ _ _ _) rfl ?_
      refine lag2_lp (V := W) (q := q) h8 (a := k) (by omega) hsW ?_ n 0 (by omega)
      cases hm : mrB q n k with
      | false =>
        rw [hm] at ev
        refine Ev.blk 2 (B177_115 _ _ _ _ _ _ _ _ _ _ (by decide)) rfl ?_
        refine Ev.ite (fun _ => ?_) (fun z => absurd z (by decide))
        exact no (by rw [ev]; exact (fun z : false = true => absurd z (by decide))) _ _
      | true =>
        refine Ev.blk 2 (B177_115 _ _ _ _ _ _ _ _ _ _ (by decide)) rfl ?_
        refine Ev.ite (fun z => absurd z (by decide)) (fun _ => ?_)
        cases hst : stB q n k n with
        | false =>
          rw [hm, hst] at ev
          refine Ev.blk 2 (B177_120 _ _ _ _ _ _ _ _ _ _ (by decide)) rfl ?_
          refine Ev.ite (fun _ => ?_) (fun z => absurd z (by decide))
          exact no (by rw [ev]; exact (fun z : false = true => absurd z (by decide))) _ _
        | true =>
          rw [hm, hst] at ev
          refine Ev.blk 2 (B177_120 _ _ _ _ _ _ _ _ _ _ (by decide)) rfl ?_
          refine Ev.ite (fun z => absurd z (by decide)) (fun _ => ?_)
          have t1 := setb_t1 (hsW k (by omega)) (v := k) (by omega)
          refine Ev.blk 10 (B177_125 _ _ _ _ _ _ _ _ _ _ ⟨by omega, by omega⟩ (oAnd_in _ _)) rfl ?_
          rw [Int.toNat_natCast]
          refine Ev.ite (fun y => ?_) (fun y => ?_)
          · replace y := nd_t y
            refine no (fun p => ?_) _ _
            rw [ev] at p
            exact y (t1.mpr p)
          · replace y := nd_f y
            have p : evB q n k = true := by
              rw [ev]
              exact t1.mp y
            refine Ev.blk 12 (B177_141 _ _ _ _ _ _ _ _ _ _ (by rw [w2]; omega)) rfl ?_
            refine Ev.blk 2 (B177_162 _ _ _ _ _ _ _ _ _ _) rfl ?_
            refine Ev.kill [false, false, false, false, false, true, true, true] ?_
            dsimp only [mkl]
            refine lag1_lp (L := L) (d := d) h8 hs hQ j (k + 1) _ (by omega) (fun y i h1 h2 => ?_) ?_ (fun w hw hp => ?_)
            · rw [uV_cell, if_neg (by omega), uV_cell, if_neg (by omega)]
              exact w1 y i h1 h2
            · rw [uV_at, if_pos rfl, uV_ne (by omega), w2, cn_t p]
              omega
            · rw [uV_ne (by omega), uV_at, w2, Int.toNat_natCast]
              by_cases e : w = k
              · rw [e, if_pos rfl]
              · have := cn_lt_of (P := evB q n) (n := k) (w := w) (by omega) hp
                rw [if_neg (by omega)]
                exact w3 w (by omega) hp
    refine Ev.blk 3 (B177_21 _ _ _ _ _ _ _ ⟨by omega, by omega⟩ ⟨by omega, by omega⟩) rfl ?_
    refine Ev.ite (fun z => absurd (of_decide_eq_true z) (by omega)) (fun _ => ?_)
    refine Ev.blk 2 (B177_27 _ _ _ _ _ _ _ ⟨by omega, by omega⟩) rfl ?_
    refine Ev.ite (fun z => ?_) (fun z => ?_)
    · replace z := of_decide_eq_true z
      refine Ev.blk 2 (B177_47 _ _ _ _ _ _ _) rfl ?_
      refine body 1 ?_
      have : mrB q n k = true := mrB_t.mpr (Or.inl (by omega))
      rw [this]
      rfl
    · replace z := of_decide_eq_false z
      have t0 := setb_t1 (hsW 0 (by omega)) (v := k) (by omega)
      refine Ev.blk 10 (B177_32 _ _ _ _ _ _ _ (oAnd_in _ _)) rfl ?_
      refine Ev.ite (fun y => ?_) (fun y => ?_)
      · replace y := nd_t y
        refine Ev.blk 1 (B177_51 _ _ _ _ _ _ _) rfl ?_
        refine body 0 ?_
        have : mrB q n k = false := by
          cases p : mrB q n k with
          | false => rfl
          | true =>
            rcases mrB_t.mp p with e | e
            · omega
            · exact absurd (t0.mpr e) y
        rw [this]
        rfl
      · replace y := nd_f y
        refine Ev.blk 2 (B177_47 _ _ _ _ _ _ _) rfl ?_
        refine body 1 ?_
        have : mrB q n k = true := mrB_t.mpr (Or.inr (t0.mp y))
        rw [this]
        rfl
theorem lag3_lp {L d : Nat} {W : Mv} {b : Bool} {Q : Option AV → Mv → Bool → Prop} {m n r K : Nat} {q : Nat → Nat → Int} {e : Nat → Nat} (h8 : n ≤ 8) (hK : K ≤ n) (hs : ∀ a, a < n → setb (W 137 a) (re q n a)) (h23 : W 120 23 = (K : Int)) (he : ∀ i, i < K → W 138 i = (e i : Int) ∧ e i < n) (hQ : Q (some (.inl (cond (oneB q n e K) 1 0))) W b) : ∀ (j k : Nat), k + j = K → Ev L d 177 174 [some (.inr (.inr 120)), some (.inl (m : Int)), some (.inl (r : Int)), some (.inl (n : Int)), some (.inl (cond (oneB q n e k) 1 0)), some (.inl (k : Int)), none, none] [] W b Q
  | 0, k, h => by
    obtain rfl : k = K := by omega
    refine Ev.blk 4 (B177_174 _ _ _ _ _ _ _ _ ⟨by omega, by omega⟩ (by rw [h23]; exact ⟨by omega, by omega⟩)) rfl ?_
    rw [h23]
    refine Ev.ite (fun _ => ?_) (fun z => absurd (of_decide_eq_false z) (by omega))
    refine Ev.blk 1 (B177_226 _ _ _ _ _ _ _ _) rfl ?_
    exact Ev.ret rfl rfl rfl (by cases oneB q n e k <;> rfl) hQ
  | j + 1, k, h => by
    have ih := lag3_lp (L := L) (d := d) (m := m) (r := r) h8 hK hs h23 he hQ j (k + 1) (by omega)
    have fin : ∀ z : Int, z = cond (oneB q n e (k + 1)) 1 0 → Ev L d 177 218 [some (.inr (.inr 120)), some (.inl (m : Int)), some (.inl (r : Int)), some (.inl (n : Int)), some (.inl (cond (oneB q n e k) 1 0)), some (.inl (k : Int)), none, none] [.inl z] W b Q := fun z hz => by
      subst hz
      refine Ev.blk 3 (B177_218 _ _ _ _ _ _ _ _ _) rfl ?_
      exact ih
    have nx : oneB q n e (k + 1) = (oneB q n e k && re q n (e 0) (e k)) := rfl
    have e0 := he 0 (by omega)
    have ek := he k (by omega)
    have f0 : W 138 (0 : Int).toNat = (e 0 : Int) := e0.1
    have fk : W 138 ((k : Int)).toNat = (e k : Int) := by rw [Int.toNat_natCast]; exact ek.1
    have t1 := setb_t1 (hs (e 0) e0.2) (v := e k) (by omega)
    refine Ev.blk 4 (B177_174 _ _ _ _ _ _ _ _ ⟨by omega, by omega⟩ (by rw [h23]; exact ⟨by omega, by omega⟩)) rfl ?_
    rw [h23]
    refine Ev.ite (fun z => absurd (of_decide_eq_true z) (by omega)) (fun _ => ?_)
    cases hh : oneB q n e k with
    | false =>
      rw [hh] at fin nx
      refine Ev.blk 2 (B177_183 _ _ _ _ _ _ _ _ (by decide)) rfl ?_
      refine Ev.ite (fun _ => ?_) (fun z => absurd z (by decide))
      refine Ev.blk 1 (B177_217 _ _ _ _ _ _ _ _) rfl ?_
      exact fin 0 (by rw [nx]; rfl)
    | true =>
      rw [hh, Bool.true_and] at nx
      rw [hh] at fin
      refine Ev.blk 2 (B177_183 _ _ _ _ _ _ _ _ (by decide)) rfl ?_
      refine Ev.ite (fun z => absurd z (by decide)) (fun _ => ?_)
      refine Ev.blk 16 (B177_188 _ _ _ _ _ _ _ _ (by rw [f0]; omega) ⟨by omega, by omega⟩ (oAnd_in _ _)) rfl ?_
      rw [f0, fk, Int.toNat_natCast]
      refine Ev.ite (fun y => ?_) (fun y => ?_)
      · replace y := nd_t y
        have p : re q n (e 0) (e k) = false := by
          cases p : re q n (e 0) (e k) with
          | false => rfl
          | true => exact absurd (t1.mpr p) y
        refine Ev.blk 1 (B177_217 _ _ _ _ _ _ _ _) rfl ?_
        exact fin 0 (by rw [nx, p]; rfl)
      · replace y := nd_f y
        refine Ev.blk 2 (B177_213 _ _ _ _ _ _ _ _) rfl ?_
        exact fin 1 (by rw [nx, t1.mp y]; rfl)
theorem x_layAgain {L d : Nat} {V : Mv} {b : Bool} {m n r : Nat} {G : Nat → Nat → Int} {co mw mc act : Nat → Int} (hm3 : m < 3) (hr : r < 5) (hP : PR V m n G co mw mc) (hR : RB n G co mw mc act) (hA : ∀ a, a < 8 → V 135 (8 * r + a) = act a) (hm : hasM act mw n) : Ex L (d + 3) 177 [.inr (.inr 120), .inl (m : Int), .inl (r : Int)] V b (fun v W b' => b' = b ∧ (∀ y k, ¬ (136 ≤ y ∧ y ≤ 138) → ¬ (y = 120 ∧ k = 23) → W y k = V y k) ∧ ((0 < kC (qA G act mw) n ∧ v = some (.inl 1) ∧ W 120 23 = (kC (qA G act mw) n : Int) ∧ ∀ i, i < kC (qA G act mw) n → W 138 i = (nth (comB (qA G act mw) n) n i : Int)) ∨ (¬ 0 < kC (qA G act mw) n ∧ v = some (.inl 0)))) := by
  have h8 := hR.1.2.1
  refine Ev.blk 3 (B177_0 _ _ _ _ _) rfl ?_
  refine Ev.call rfl rfl rfl (x_layReach (d := d) hm3 hr hP hR hA hm) (by omega) ?_
  rintro v W b1 ⟨rfl, rfl, w1, w2⟩
  have e0 : W 121 ((m : Int)).toNat = (n : Int) := by rw [Int.toNat_natCast, w1 121 (by omega) (by omega)]; exact hP.1
  refine Ev.blk 10 (B177_6 _ _ _ _ _ ⟨by omega, by omega⟩) rfl ?_
  rw [e0]
  refine lag1_lp (V := W) (q := qA G act mw) h8 w2 (fun W2 v1 v2 v3 => ?_) n 0 _ (by omega) (fun y k h1 h2 => by rw [uV_cell, if_neg h2]) (by rw [uV_at, if_pos rfl]; rfl) (fun w hw => absurd hw (by omega))
  have e137 : W2 137 = W 137 := v1.row (by omega) (by omega)
  have fr : ∀ y k, ¬ (136 ≤ y ∧ y ≤ 138) → ¬ (y = 120 ∧ k = 23) → W2 y k = V y k := fun y k h1 h2 => by
    rw [v1 y k (by omega) h2, w1 y (by omega) (by omega)]
  have go := hR.go hm
  have o1 := one_t go
  refine Ev.blk 4 (B177_168 _ _ _ _ _ _ _) rfl ?_
  refine lag3_lp (W := W2) (q := qA G act mw) (e := nth (evB (qA G act mw) n) n) h8 (cn_n _ _) (fun a ha => by rw [e137]; exact w2 a ha) v2 (fun i hi => ?_) ?_ (cn (evB (qA G act mw) n) n) 0 (by omega)
  · have a := (nth_mem (evB (qA G act mw) n) n).at_ i hi
    have := v3 _ a.1 a.2.1
    rw [a.2.2] at this
    exact ⟨this, a.1⟩
  · by_cases hk : 0 < kC (qA G act mw) n
    · have ce : ∀ w, w ≤ n → cn (evB (qA G act mw) n) w = cn (comB (qA G act mw) n) w := fun w hw => cn_congr (fun i hi => ev_com hk (by omega))
      refine ⟨rfl, fr, Or.inl ⟨hk, by rw [o1.mpr hk]; rfl, by rw [v2, ce n (by omega)]; rfl, fun i hi => ?_⟩⟩
      have a := (nth_mem (comB (qA G act mw) n) n).at_ i hi
      have := v3 _ a.1 (by rw [ev_com hk a.1]; exact a.2.1)
      rw [ce _ (by omega), a.2.2] at this
      exact this
    · refine ⟨rfl, fr, Or.inr ⟨hk, ?_⟩⟩
      cases p : oneB (qA G act mw) n (nth (evB (qA G act mw) n) n) (cn (evB (qA G act mw) n) n) with
      | false => rfl
      | true => exact absurd (o1.mp p) hk
