/-! how often each morning comes -/
def IRR (a : Nat → Nat → Int) (k : Nat) : Prop :=
  (∀ i j, i < k → j < k → i ≠ j → a i j ≤ 0) ∧ (∀ i, i < k → sumN (a i) k = 0) ∧ (∀ i, i < k → a i i ≤ 10) ∧ (∀ S : Nat → Prop, (∃ i, S i ∧ i < k) → (∃ j, ¬ S j ∧ j < k) → ∃ i j, S i ∧ i < k ∧ ¬ S j ∧ j < k ∧ a i j < 0)
theorem IRR.lj {a : Nat → Nat → Int} {k : Nat} (h : IRR a k) : LJ a k 0 := by
  have e0 : bd a 0 = 1 := rfl
  refine ⟨fun s hs => ?_, fun i j _ h1 _ h2 hne => ?_, fun i hi => ?_, fun i _ hi => ?_, fun S hS hb => ?_⟩
  · obtain rfl : s = 0 := by omega
    rw [e0]
    decide
  · rw [bm_0]
    exact h.1 i j h1 h2 hne
  · rw [sumN_congr k (g := a i) (fun l _ => bm_0 a i l)]
    exact h.2.1 i hi
  · rw [bm_0, e0]
    have := h.2.2.1 i hi
    omega
  · obtain ⟨i, hi⟩ := hS
    have b := hb i hi
    obtain ⟨i', j', g1, g2, g3, g4, g5⟩ := h.2.2.2 S ⟨i, hi, by omega⟩ ⟨k - 1, fun z => by have := hb _ z; omega, by omega⟩
    exact ⟨i', j', g1, g3, by omega, g4, by rw [bm_0]; exact g5⟩
def sw (s x : Nat) : Nat := if x = s then s + 1 else if x = s + 1 then s else x
theorem sw_0 (s : Nat) : sw s s = s + 1 := if_pos rfl
theorem sw_1 (s : Nat) : sw s (s + 1) = s := by
  unfold sw
  rw [if_neg (by omega), if_pos rfl]
theorem sw_lt {s x : Nat} (h : x < s) : sw s x = x := by
  unfold sw
  rw [if_neg (by omega), if_neg (by omega)]
theorem sw_gt {s x : Nat} (h : s + 2 ≤ x) : sw s x = x := by
  unfold sw
  rw [if_neg (by omega), if_neg (by omega)]
theorem sw_sw (s x : Nat) : sw s (sw s x) = x := by
  by_cases h0 : x = s
  · subst h0
    rw [sw_0, sw_1]
  · by_cases h1 : x = s + 1
    · subst h1
      rw [sw_1, sw_0]
    · by_cases h2 : x < s
      · rw [sw_lt h2, sw_lt h2]
      · rw [sw_gt (x := x) (by omega), sw_gt (by omega)]
theorem sw_b {s x k : Nat} (hs : s + 1 < k) (h : x < k) : sw s x < k := by
  unfold sw
  split
  · omega
  · split <;> omega
theorem sum_sw (f : Nat → Int) {s : Nat} : ∀ n, s + 2 ≤ n → sumN (fun l => f (sw s l)) n = sumN f n
  | 0, h => absurd h (by omega)
  | n + 1, h => by
    by_cases q : n = s + 1
    · subst q
      show sumN (fun l => f (sw s l)) s + f (sw s s) + f (sw s (s + 1)) = sumN f s + f s + f (s + 1)
      rw [sw_0, sw_1, sumN_congr s (g := f) (fun l hl => by rw [sw_lt hl])]
      omega
    · have ih := sum_sw f (s := s) n (by omega)
      show sumN (fun l => f (sw s l)) n + f (sw s n) = sumN f n + f n
      rw [ih, sw_gt (s := s) (x := n) (by omega)]
def swm (a : Nat → Nat → Int) (s : Nat) : Nat → Nat → Int := fun i j => a (sw s i) (sw s j)
theorem IRR.swp {a : Nat → Nat → Int} {k s : Nat} (h : IRR a k) (hs : s + 1 < k) : IRR (swm a s) k := by
  refine ⟨fun i j h1 h2 hne => h.1 _ _ (sw_b hs h1) (sw_b hs h2) (fun e => hne (by rw [← sw_sw s i, e, sw_sw])), fun i hi => ?_, fun i hi => h.2.2.1 _ (sw_b hs hi), fun S hS hT => ?_⟩
  · have := sum_sw (fun l => a (sw s i) l) (s := s) k (by omega)
    exact this.trans (h.2.1 _ (sw_b hs hi))
  · obtain ⟨i, hi, h1⟩ := hS
    obtain ⟨j, hj, h2⟩ := hT
    obtain ⟨x, y, g1, g2, g3, g4, g5⟩ := h.2.2.2 (fun x => S (sw s x)) ⟨sw s i, by rw [sw_sw]; exact hi, sw_b hs h1⟩ ⟨sw s j, by rw [sw_sw]; exact hj, sw_b hs h2⟩
    exact ⟨sw s x, sw s y, g1, sw_b hs g2, g3, sw_b hs g4, by unfold swm; rw [sw_sw, sw_sw]; exact g5⟩
theorem bm_swl (a : Nat → Nat → Int) {s t : Nat} (h : t ≤ s) (i j : Nat) : bm (swm a s) t i j = bm a t (sw s i) (sw s j) := dt_congr (t + 1) (fun r l hr hl => by
  show a (sw s (if r < t then r else i)) (sw s (if l < t then l else j)) = a (if r < t then r else sw s i) (if l < t then l else sw s j)
  by_cases q : r < t
  · rw [if_pos q, if_pos q, sw_lt (s := s) (x := r) (by omega)]
    by_cases z : l < t
    · rw [if_pos z, if_pos z, sw_lt (s := s) (x := l) (by omega)]
    · rw [if_neg z, if_neg z]
  · rw [if_neg q, if_neg q]
    by_cases z : l < t
    · rw [if_pos z, if_pos z, sw_lt (s := s) (x := l) (by omega)]
    · rw [if_neg z, if_neg z])
theorem bd_swl (a : Nat → Nat → Int) {s t : Nat} (h : t ≤ s) : bd (swm a s) t = bd a t := dt_congr t (fun r l hr hl => by
  show a (sw s r) (sw s l) = a r l
  rw [sw_lt (s := s) (x := r) (by omega), sw_lt (s := s) (x := l) (by omega)])
theorem cancel {d x y : Int} (hd : d ≠ 0) (h : d * x = d * y) : x = y := Int.eq_of_mul_eq_mul_left hd h
theorem bd_sw {a : Nat → Nat → Int} {k s : Nat} (ha : IRR a k) (hs : s + 1 < k) : ∀ t, s + 2 ≤ t → t < k → bd (swm a s) t = bd a t ∧ ∀ i j, s + 2 ≤ i → s + 2 ≤ j → bm (swm a s) t i j = bm a t i j
  | 0, h, _ => absurd h (by omega)
  | t + 1, h, ht => by
    have la := ha.lj
    have lb := (ha.swp hs).lj
    by_cases q : t = s + 1
    · subst q
      have d0 := la.pos (t := s) (by omega)
      have eb : bd (swm a s) s = bd a s := bd_swl a (Nat.le_refl s)
      have ra := la.RR (t := s) (by omega)
      have rb := lb.RR (t := s) (by omega)
      have B : ∀ i j, bm (swm a s) s i j = bm a s (sw s i) (sw s j) := bm_swl a (Nat.le_refl s)
      have e1 : bm (swm a s) (s + 1) (s + 1) (s + 1) = bm a (s + 1) (s + 1) (s + 1) := by
        refine cancel (d := bd a s) (by omega) ?_
        rw [ra (s + 1) (s + 1), ← eb, rb (s + 1) (s + 1), B, B, B, B, sw_0, sw_1]
        grind
      refine ⟨by rw [bd_s, bd_s, e1], fun i j hi hj => ?_⟩
      have qa := la.RR (t := s + 1) (by omega) i j
      have qb := lb.RR (t := s + 1) (by omega) i j
      have pa := la.pos (t := s + 1) (by omega)
      have pb := lb.pos (t := s + 1) (by omega)
      have a1 := ra (s + 1) (s + 1)
      have a2 := ra i j
      have a3 := ra i (s + 1)
      have a4 := ra (s + 1) j
      have b1 := rb (s + 1) (s + 1)
      have b2 := rb i j
      have b3 := rb i (s + 1)
      have b4 := rb (s + 1) j
      rw [eb, B, B, B, B] at b1 b2 b3 b4
      rw [bd_s] at qa qb pa pb
      rw [B] at qb pb
      rw [sw_0] at b1 b2 b3 b4 qb pb
      rw [sw_1] at b1 b3 b4
      rw [sw_gt hi] at b2 b3
      rw [sw_gt hj] at b2 b4
      generalize bm (swm a s) (s + 1 + 1) i j = X at *
      generalize bm a (s + 1 + 1) i j = Y at *
      generalize bm (swm a s) (s + 1) (s + 1) (s + 1) = x1 at *
      generalize bm (swm a s) (s + 1) i j = x2 at *
      generalize bm (swm a s) (s + 1) i (s + 1) = x3 at *
      generalize bm (swm a s) (s + 1) (s + 1) j = x4 at *
      generalize bm a (s + 1) (s + 1) (s + 1) = y1 at *
      generalize bm a (s + 1) i j = y2 at *
      generalize bm a (s + 1) i (s + 1) = y3 at *
      generalize bm a (s + 1) (s + 1) j = y4 at *
      generalize bd a s = d at *
      generalize bm a s s s = pp at *
      generalize bm a s (s + 1) (s + 1) = qq at *
      generalize bm a s s (s + 1) = pq at *
      generalize bm a s (s + 1) s = qp at *
      generalize bm a s i j = ij at *
      generalize bm a s i s = ip at *
      generalize bm a s i (s + 1) = iq at *
      generalize bm a s s j = pj at *
      generalize bm a s (s + 1) j = qj at *
      have f1 : qq * (d * d * X) = qq * (pp * qq * ij - pp * iq * qj - qp * pq * ij + qp * pj * iq + ip * pq * qj - ip * qq * pj) := by
        have : qq * (d * d * X) = (d * x1) * (d * x2) - (d * x3) * (d * x4) := by
          rw [show qq * (d * d * X) = d * d * (qq * X) by grind, qb]
          grind
        rw [this, b1, b2, b3, b4]
        grind
      have f2 : pp * (d * d * Y) = pp * (pp * qq * ij - pp * iq * qj - qp * pq * ij + qp * pj * iq + ip * pq * qj - ip * qq * pj) := by
        have : pp * (d * d * Y) = (d * y1) * (d * y2) - (d * y3) * (d * y4) := by
          rw [show pp * (d * d * Y) = d * d * (pp * Y) by grind, qa]
          grind
        rw [this, a1, a2, a3, a4]
        grind
      have g1 := cancel (by omega) f1
      have g2 := cancel (by omega) f2
      have dd : d * d ≠ 0 := by
        have := Int.mul_pos d0 d0
        omega
      exact cancel dd (g1.trans g2.symm)
    · obtain ⟨i1, i2⟩ := bd_sw ha hs t (by omega) (by omega)
      refine ⟨by rw [bd_s, bd_s, i2 t t (by omega) (by omega)], fun i j hi hj => ?_⟩
      have d0 := la.pos (t := t) (by omega)
      refine cancel (d := bd a t) (by omega) ?_
      have rb := lb.RR (t := t) (by omega) i j
      rw [la.RR (t := t) (by omega) i j, ← i1, rb, i2 t t (by omega) (by omega), i2 i j hi hj, i2 i t hi (by omega), i2 t j (by omega) hj]
/-- rows and columns changed -/
def trp (a : Nat → Nat → Int) : Nat → Nat → Int := fun i j => a j i
theorem bm_tr {a : Nat → Nat → Int} {n : Nat} (hd : ∀ x, x ≤ n → bd a x ≠ 0) : ∀ t, t ≤ n → (∀ x, x ≤ t → bd (trp a) x = bd a x) ∧ ∀ i j, bm (trp a) t i j = bm a t j i
  | 0, _ => ⟨fun x hx => by
      obtain rfl : x = 0 := by omega
      rfl, fun i j => by rw [bm_0, bm_0]; rfl⟩
  | t + 1, ht => by
    obtain ⟨i1, i2⟩ := bm_tr hd t (by omega)
    have r1 : bR (trp a) t := bm_R t (fun x hx => by rw [i1 x hx]; exact hd x (by omega))
    have r2 : bR a t := bm_R t (fun x hx => hd x (by omega))
    refine ⟨fun x hx => ?_, fun i j => ?_⟩
    · by_cases q : x = t + 1
      · rw [q, bd_s, bd_s, i2]
      · exact i1 x (by omega)
    · refine cancel (hd t (by omega)) ?_
      rw [r2 j i, ← i1 t (Nat.le_refl t), r1 i j, i2, i2, i2, i2]
      grind
/-- how often, in whole numbers -/
def ANN (a : Nat → Nat → Int) (x : Nat → Int) (k : Nat) : Prop := ∀ j, j < k → sumN (fun l => x l * a l j) k = 0
theorem ANN.swp {a : Nat → Nat → Int} {x : Nat → Int} {k s : Nat} (h : ANN a x k) (hs : s + 1 < k) : ANN (swm a s) (fun l => x (sw s l)) k := fun j hj => (sum_sw (fun l => x l * a l (sw s j)) k (by omega)).trans (h _ (sw_b hs hj))
theorem ANN.bmm {a : Nat → Nat → Int} {x : Nat → Int} {k : Nat} (h : ANN a x k) (hl : LJ a k 0) : ∀ t, t < k → ∀ j, j < k → sumN (fun l => x l * bm a t l j) k = 0
  | 0, _, j, hj => by
    rw [sumN_congr k (g := fun l => x l * a l j) (fun l _ => by rw [bm_0])]
    exact h j hj
  | t + 1, ht, j, hj => by
    have h1 := ANN.bmm h hl t (by omega) j hj
    have h2 := ANN.bmm h hl t (by omega) t (by omega)
    have r := hl.RR (t := t) (by omega)
    have d0 := hl.pos (t := t) (by omega)
    have e : bd a t * sumN (fun l => x l * bm a (t + 1) l j) k = 0 := by
      rw [← sumN_mul, sumN_congr k (g := fun l => bm a t t t * (x l * bm a t l j) - bm a t t j * (x l * bm a t l t)) (fun l _ => by
        have := r l j
        grind), sumN_lin, h1, h2, Int.mul_zero, Int.mul_zero]
      rfl
    rcases Int.mul_eq_zero.mp e with z | z
    · omega
    · exact z
theorem sum_swap (f : Nat → Nat → Int) (n : Nat) : ∀ m, sumN (fun i => sumN (fun j => f i j) n) m = sumN (fun j => sumN (fun i => f i j) m) n
  | 0 => (sumN_00 _ n (fun _ _ => rfl)).symm
  | m + 1 => by
    show sumN (fun i => sumN (fun j => f i j) n) m + sumN (fun j => f m j) n = _
    rw [sum_swap f n m, ← sumN_add]
    rfl
def xs (a : Nat → Nat → Int) (k l : Nat) : Int := if l + 1 = k then bd (trp a) (k - 1) else - bc (trp a) (k - 1) l (k - 1)
theorem xs_ann {a : Nat → Nat → Int} {k : Nat} (hk : 0 < k) (h : ∀ i, i < k → sumN (a i) k = 0) : ANN a (xs a k) k := by
  obtain ⟨n, rfl⟩ : ∃ n, k = n + 1 := ⟨k - 1, by omega⟩
  have c : ∀ j, j < n → sumN (fun l => xs a (n + 1) l * a l j) (n + 1) = 0 := fun j hj => by
    have e := bm_1 (trp a) n j n
    rw [bm_2 n hj] at e
    show sumN (fun l => xs a (n + 1) l * a l j) n + xs a (n + 1) n * a n j = 0
    have e1 : sumN (fun l => xs a (n + 1) l * a l j) n = - sumN (fun l => trp a j l * bc (trp a) n l n) n := by
      rw [← Int.neg_one_mul, ← sumN_mul]
      refine sumN_congr n (fun l hl => ?_)
      show xs a (n + 1) l * a l j = -1 * (a l j * bc (trp a) n l n)
      have : xs a (n + 1) l = - bc (trp a) n l n := if_neg (by omega)
      rw [this]
      grind
    have e2 : xs a (n + 1) n = bd (trp a) n := if_pos rfl
    have e3 : trp a j n = a n j := rfl
    rw [e1, e2]
    rw [e3] at e
    omega
  intro j hj
  by_cases q : j < n
  · exact c j q
  · obtain rfl : j = n := by omega
    have s := sum_swap (fun l i => xs a (j + 1) l * a l i) (j + 1) (j + 1)
    have z : sumN (fun l => sumN (fun i => xs a (j + 1) l * a l i) (j + 1)) (j + 1) = 0 := sumN_00 _ _ (fun l hl => by
      show sumN (fun i => xs a (j + 1) l * a l i) (j + 1) = 0
      rw [sumN_mul]
      have := h l hl
      rw [show sumN (fun i => a l i) (j + 1) = 0 from this, Int.mul_zero])
    rw [z] at s
    have s2 : sumN (fun i => sumN (fun l => xs a (j + 1) l * a l i) (j + 1)) (j + 1) = sumN (fun i => sumN (fun l => xs a (j + 1) l * a l i) (j + 1)) j + sumN (fun l => xs a (j + 1) l * a l j) (j + 1) := rfl
    rw [s2, sumN_00 _ j (fun i hi => c i hi)] at s
    omega
def msw (a : Nat → Nat → Int) (i : Nat) : Nat → Nat → Nat → Int
  | 0 => a
  | m + 1 => swm (msw a i m) (i + m)
def mvs (i : Nat) : Nat → Nat → Nat
  | 0 => fun x => x
  | m + 1 => fun x => mvs i m (sw (i + m) x)
theorem msw_eq (a : Nat → Nat → Int) (i : Nat) : ∀ m x y, msw a i m x y = a (mvs i m x) (mvs i m y)
  | 0, _, _ => rfl
  | m + 1, x, y => msw_eq a i m (sw (i + m) x) (sw (i + m) y)
theorem mvs_eq (i : Nat) : ∀ m x, mvs i m x = if x < i then x else if x < i + m then x + 1 else if x = i + m then i else x
  | 0, x => by
    show x = _
    by_cases h : x < i
    · rw [if_pos h]
    · rw [if_neg h, if_neg (by omega)]
      split <;> omega
  | m + 1, x => by
    show mvs i m (sw (i + m) x) = _
    rw [mvs_eq i m]
    by_cases h0 : x = i + m
    · subst h0
      rw [sw_0, if_neg (by omega), if_neg (by omega), if_neg (by omega), if_neg (by omega), if_pos (by omega)]
    · by_cases h1 : x = i + m + 1
      · subst h1
        rw [sw_1, if_neg (by omega), if_neg (by omega), if_pos rfl, if_neg (by omega), if_neg (by omega), if_pos (by omega)]
      · by_cases h2 : x < i + m
        · rw [sw_lt h2]
          by_cases h3 : x < i
          · rw [if_pos h3, if_pos h3]
          · rw [if_neg h3, if_neg h3, if_pos h2, if_pos (by omega)]
        · rw [sw_gt (s := i + m) (x := x) (by omega), if_neg (by omega), if_neg (by omega), if_neg (by omega), if_neg (by omega), if_neg (by omega), if_neg (by omega)]
theorem msw_irr {a : Nat → Nat → Int} {k i : Nat} (h : IRR a k) : ∀ m, i + m < k → IRR (msw a i m) k
  | 0, _ => h
  | m + 1, hm => (msw_irr h m (by omega)).swp (by omega)
theorem msw_ann {a : Nat → Nat → Int} {x : Nat → Int} {k i : Nat} (h : ANN a x k) : ∀ m, i + m < k → ANN (msw a i m) (fun l => x (mvs i m l)) k
  | 0, _ => h
  | m + 1, hm => (msw_ann h m (by omega)).swp (by omega)
theorem msw_bd {a : Nat → Nat → Int} {k i : Nat} (h : IRR a k) : ∀ m, i + m + 1 < k → bd (msw a i m) (k - 1) = bd a (k - 1)
  | 0, _ => rfl
  | m + 1, hm => by
    rw [← msw_bd h (i := i) m (by omega)]
    exact (bd_sw (msw_irr h (i := i) m (by omega)) (s := i + m) (by omega) (k - 1) (by omega) (by omega)).1
/-- what is left of a square without one morning is how often that one comes -/
theorem share_eq {a : Nat → Nat → Int} {k : Nat} (h : IRR a k) (i : Nat) (hi : i < k) : xs a k i = bd (msw a i (k - 1 - i)) (k - 1) ∧ 0 < xs a k i := by
  have hl := h.lj
  have hx := xs_ann (a := a) (k := k) (by omega) h.2.1
  have dd : ∀ x, x ≤ k - 1 → bd a x ≠ 0 := fun x hx => by have := hl.pos (t := x) (by omega); omega
  have ht := ((bm_tr dd (k - 1) (Nat.le_refl _)).1 (k - 1) (Nat.le_refl _))
  have el : xs a k (k - 1) = bd a (k - 1) := by
    rw [← ht]
    exact if_pos (by omega)
  have pl := hl.pos (t := k - 1) (by omega)
  by_cases q : i + 1 = k
  · have e : i = k - 1 := by omega
    subst e
    rw [show k - 1 - (k - 1) = 0 by omega, el]
    exact ⟨rfl, pl⟩
  · obtain ⟨m, hm⟩ : ∃ m, k = i + m + 2 := ⟨k - 2 - i, by omega⟩
    have e1 : k - 1 - i = m + 1 := by omega
    have e2 : k - 1 = i + m + 1 := by omega
    rw [e1]
    have ib := msw_irr h (i := i) m (by omega)
    have ic := msw_irr h (i := i) (m + 1) (by omega)
    have lb := ib.lj
    have hb := lb.all (i + m) (by omega)
    have an := ANN.bmm (msw_ann hx (i := i) m (by omega)) lb (i + m) (by omega) (i + m) (by omega)
    have eb := msw_bd h (i := i) m (by omega)
    rw [e2, bd_s] at eb
    have ew : bd (msw a i (m + 1)) (i + m + 1) = bm (msw a i m) (i + m) (i + m + 1) (i + m + 1) := by
      rw [bd_s]
      show bm (swm (msw a i m) (i + m)) (i + m) (i + m) (i + m) = _
      rw [bm_swl _ (Nat.le_refl _), sw_0]
    rw [e2, ew]
    rw [e2] at el pl
    have rs := hb.2.2.1 (i + m + 1) (by omega)
    rw [hm] at rs an
    have rs2 : sumN (bm (msw a i m) (i + m) (i + m + 1)) (i + m) + bm (msw a i m) (i + m) (i + m + 1) (i + m) + bm (msw a i m) (i + m) (i + m + 1) (i + m + 1) = 0 := rs
    rw [sumN_00 _ (i + m) (fun l hl => hb.col _ hl)] at rs2
    have an2 : sumN (fun l => xs a (i + m + 2) (mvs i m l) * bm (msw a i m) (i + m) l (i + m)) (i + m) + xs a (i + m + 2) (mvs i m (i + m)) * bm (msw a i m) (i + m) (i + m) (i + m) + xs a (i + m + 2) (mvs i m (i + m + 1)) * bm (msw a i m) (i + m) (i + m + 1) (i + m) = 0 := an
    rw [sumN_00 _ (i + m) (fun l hl => by rw [bm_2 _ hl, Int.mul_zero])] at an2
    rw [mvs_eq i m (i + m), mvs_eq i m (i + m + 1), if_neg (by omega), if_neg (by omega), if_pos rfl, if_neg (by omega), if_neg (by omega), if_neg (by omega)] at an2
    rw [hm] at el ⊢
    rw [el, eb] at an2
    have rs3 : bm (msw a i m) (i + m) (i + m + 1) (i + m) = - bm (msw a i m) (i + m) (i + m + 1) (i + m + 1) := by omega
    rw [rs3, Int.mul_neg] at an2
    have fin : xs a (i + m + 2) i = bm (msw a i m) (i + m) (i + m + 1) (i + m + 1) := by
      refine cancel (d := bd a (i + m + 1)) (by omega) ?_
      rw [Int.mul_comm]
      omega
    refine ⟨fin, ?_⟩
    rw [fin, ← ew]
    exact ic.lj.pos (t := i + m + 1) (by omega)
