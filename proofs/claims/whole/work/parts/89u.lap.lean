/-! what leads from one to another morning -/
theorem mul_le0 {d x : Int} (hd : 0 < d) (h : d * x ≤ 0) : x ≤ 0 := by
  rcases Int.lt_or_le 0 x with q | q
  · have := Int.mul_pos hd q
    omega
  · exact q
theorem mul_lt0 {d x : Int} (hd : 0 < d) (h : d * x < 0) : x < 0 := by
  rcases Int.lt_or_le x 0 with q | q
  · exact q
  · have := Int.mul_nonneg (Int.le_of_lt hd) q
    omega
theorem nn_mul {x y : Int} (hx : x ≤ 0) (hy : y ≤ 0) : 0 ≤ x * y := by
  have := Int.mul_nonneg (show 0 ≤ -x by omega) (show 0 ≤ -y by omega)
  rw [Int.neg_mul_neg] at this
  exact this
theorem np_mul {x y : Int} (hx : x < 0) (hy : y < 0) : 0 < x * y := by
  have := Int.mul_pos (show 0 < -x by omega) (show 0 < -y by omega)
  rw [Int.neg_mul_neg] at this
  exact this
theorem sumN_le0 {f : Nat → Int} : ∀ n, (∀ i, i < n → f i ≤ 0) → sumN f n ≤ 0
  | 0, _ => Int.le_refl 0
  | n + 1, h => by
    have h1 := sumN_le0 n (fun i hi => h i (by omega))
    have h2 := h n (by omega)
    show sumN f n + f n ≤ 0
    omega
theorem sumN_le1 {f : Nat → Int} {k : Nat} : ∀ n, k < n → (∀ i, i < n → f i ≤ 0) → sumN f n ≤ f k
  | 0, h, _ => absurd h (by omega)
  | n + 1, hk, h => by
    have h2 := h n (by omega)
    show sumN f n + f n ≤ f k
    by_cases q : k = n
    · subst q
      have h1 := sumN_le0 k (fun i hi => h i (by omega))
      omega
    · have h1 := sumN_le1 (k := k) n (by omega) (fun i hi => h i (by omega))
      omega
/-- what a row with sum 0 has in one place -/
theorem row_at {f : Nat → Int} {t k : Nat} (ht : t < k) (h0 : sumN f k = 0) (h : ∀ j, j < k → j ≠ t → f j ≤ 0) : (∀ j, j < k → j ≠ t → - f j ≤ f t) ∧ 0 ≤ f t := by
  have e := sumN_up f t 0 k
  rw [if_pos ht, h0] at e
  have g0 : ∀ j, j < k → (if j = t then (0 : Int) else f j) ≤ 0 := fun j hj => by
    split
    · exact Int.le_refl 0
    · exact h j hj (by assumption)
  refine ⟨fun j hj hne => ?_, ?_⟩
  · have := sumN_le1 (f := fun o => if o = t then 0 else f o) (k := j) k hj g0
    rw [e] at this
    simp only [if_neg hne] at this
    omega
  · have := sumN_le0 (f := fun o => if o = t then 0 else f o) k g0
    rw [e] at this
    omega
def LJ (a : Nat → Nat → Int) (k t : Nat) : Prop :=
  (∀ s, s ≤ t → 0 < bd a s) ∧ (∀ i j, t ≤ i → i < k → t ≤ j → j < k → i ≠ j → bm a t i j ≤ 0) ∧ (∀ i, i < k → sumN (bm a t i) k = 0) ∧ (∀ i, t ≤ i → i < k → bm a t i i ≤ 10 * bd a t) ∧ (∀ S : Nat → Prop, (∃ i, S i) → (∀ i, S i → t ≤ i ∧ i + 1 < k) → ∃ i j, S i ∧ ¬ S j ∧ t ≤ j ∧ j < k ∧ bm a t i j < 0)
theorem LJ.R {a : Nat → Nat → Int} {k t : Nat} (h : LJ a k t) : ∀ x, x ≤ t → bR a x := fun x hx => bm_R x (fun y hy => by have := h.1 y (by omega); omega)
theorem LJ.col {a : Nat → Nat → Int} {k t : Nat} (h : LJ a k t) (i : Nat) {l : Nat} (hl : l < t) : bm a t i l = 0 := bm_col t i l (fun x hx => ⟨h.R x (by omega), by have := h.1 x (by omega); omega⟩) hl
theorem LJ.row {a : Nat → Nat → Int} {k t : Nat} (h : LJ a k t) {i : Nat} (h1 : t ≤ i) (h2 : i < k) : (∀ j, j < k → j ≠ i → - bm a t i j ≤ bm a t i i) ∧ 0 ≤ bm a t i i := row_at h2 (h.2.2.1 i h2) (fun j hj hne => by
  by_cases q : j < t
  · rw [h.col i q]
    exact Int.le_refl 0
  · exact h.2.1 i j h1 h2 (by omega) hj (fun e => hne e.symm))
theorem LJ.piv {a : Nat → Nat → Int} {k t : Nat} (h : LJ a k t) (ht : t + 1 < k) : 0 < bm a t t t := by
  obtain ⟨i, j, hi, hj, h1, h2, h3⟩ := h.2.2.2.2 (fun x => x = t) ⟨t, rfl⟩ (fun i hi => by subst hi; exact ⟨Nat.le_refl _, ht⟩)
  subst hi
  have := (h.row (Nat.le_refl i) (by omega)).1 j h2 hj
  omega
theorem LJ.s {a : Nat → Nat → Int} {k t : Nat} (h : LJ a k t) (ht : t + 1 < k) : LJ a k (t + 1) := by
  have hp := h.piv ht
  have hd := h.1 t (Nat.le_refl t)
  have hR := h.R t (Nat.le_refl t)
  have off := h.2.1
  have sub : ∀ i j, t + 1 ≤ i → i < k → t + 1 ≤ j → j < k → i ≠ j → bd a t * bm a (t + 1) i j ≤ bm a t t t * bm a t i j ∧ bm a t t t * bm a t i j ≤ 0 ∧ bd a t * bm a (t + 1) i j ≤ - (bm a t i t * bm a t t j) := fun i j h1 h2 h3 h4 hne => by
    have q1 := off i j (by omega) h2 (by omega) h4 hne
    have q2 := nn_mul (off i t (by omega) h2 (Nat.le_refl t) (by omega) (by omega)) (off t j (Nat.le_refl t) (by omega) (by omega) h4 (by omega))
    have q3 : bm a t t t * bm a t i j ≤ 0 := by
      have := Int.mul_nonneg (Int.le_of_lt hp) (show 0 ≤ - bm a t i j by omega)
      rw [Int.mul_neg] at this
      omega
    rw [hR i j]
    omega
  refine ⟨fun s hs => ?_, fun i j h1 h2 h3 h4 hne => ?_, fun i hi => ?_, fun i h1 h2 => ?_, fun S hS hb => ?_⟩
  · by_cases q : s = t + 1
    · rw [q, bd_s]
      exact hp
    · exact h.1 s (by omega)
  · have := sub i j h1 h2 h3 h4 hne
    exact mul_le0 hd (by omega)
  · have e : sumN (bm a 0 i) k = sumN (bm a 0 i) k := rfl
    have r : bd a t * sumN (bm a (t + 1) i) k = 0 := by
      rw [← sumN_mul, sumN_congr k (g := fun l => bm a t t t * bm a t i l - bm a t i t * bm a t t l) (fun l _ => hR i l), sumN_lin]
      have s1 := h.2.2.1 i hi
      have s2 := h.2.2.1 t (by omega)
      rw [show sumN (fun l => bm a t i l) k = 0 from s1, show sumN (fun l => bm a t t l) k = 0 from s2, Int.mul_zero, Int.mul_zero]
      rfl
    rcases Int.mul_eq_zero.mp r with z | z
    · omega
    · exact z
  · have q2 := nn_mul (off i t (by omega) h2 (Nat.le_refl t) (by omega) (by omega)) (off t i (Nat.le_refl t) (by omega) (by omega) h2 (by omega))
    have q4 := Int.mul_le_mul_of_nonneg_left (h.2.2.2.1 i (by omega) h2) (Int.le_of_lt hp)
    have r := hR i i
    rw [bd_s]
    refine Int.le_of_mul_le_mul_left (a := bd a t) ?_ hd
    have e : bm a t t t * (10 * bd a t) = bd a t * (10 * bm a t t t) := by
      rw [Int.mul_left_comm, Int.mul_comm (bm a t t t) (bd a t), Int.mul_left_comm]
    omega
  · have st : ∀ i j, S i → t + 1 ≤ j → j < k → ¬ S j → bm a t i j < 0 → ∃ i j, S i ∧ ¬ S j ∧ t + 1 ≤ j ∧ j < k ∧ bm a (t + 1) i j < 0 := fun i j h1 h2 h3 h4 h5 => by
      have hb1 := hb i h1
      refine ⟨i, j, h1, h4, h2, h3, ?_⟩
      have := sub i j hb1.1 (by omega) h2 h3 (fun e => h4 (e ▸ h1))
      have q : bm a t t t * bm a t i j < 0 := by
        have := Int.mul_pos hp (show 0 < - bm a t i j by omega)
        rw [Int.mul_neg] at this
        omega
      exact mul_lt0 hd (by omega)
    obtain ⟨i, j, hi, hj, h1, h2, h3⟩ := h.2.2.2.2 S hS (fun i hi => by have := hb i hi; omega)
    by_cases q : j = t
    · subst q
      obtain ⟨i', j', hi', hj', g1, g2, g3⟩ := h.2.2.2.2 (fun x => S x ∨ x = j) ⟨j, Or.inr rfl⟩ (fun x hx => by
        rcases hx with hx | hx
        · have := hb x hx
          omega
        · omega)
      have nS : ¬ S j' := fun z => hj' (Or.inl z)
      have nj : j' ≠ j := fun z => hj' (Or.inr z)
      rcases hi' with hi' | hi'
      · exact st i' j' hi' (by omega) g2 nS g3
      · subst hi'
        have hb1 := hb i hi
        refine ⟨i, j', hi, nS, by omega, g2, ?_⟩
        have := sub i j' hb1.1 (by omega) (by omega) g2 (fun e => nS (e ▸ hi))
        have q2 := np_mul h3 g3
        exact mul_lt0 hd (by omega)
    · exact st i j hi (by omega) h2 hj h3
/-- all levels -/
theorem LJ.all {a : Nat → Nat → Int} {k : Nat} (h : LJ a k 0) : ∀ t, t < k → LJ a k t
  | 0, _ => h
  | t + 1, ht => (LJ.all h t (by omega)).s ht
theorem LJ.pos {a : Nat → Nat → Int} {k : Nat} (h : LJ a k 0) {t : Nat} (ht : t < k) : 0 < bd a t := (h.all t ht).1 t (Nat.le_refl t)
theorem LJ.RR {a : Nat → Nat → Int} {k : Nat} (h : LJ a k 0) {t : Nat} (ht : t < k) : bR a t := (h.all t ht).R t (Nat.le_refl t)
def ten : Nat → Int
  | 0 => 1
  | n + 1 => 10 * ten n
theorem LJ.bd10 {a : Nat → Nat → Int} {k : Nat} (h : LJ a k 0) : ∀ t, t < k → bd a t ≤ ten t
  | 0, _ => Int.le_refl 1
  | t + 1, ht => by
    have ih := h.bd10 t (by omega)
    have := (h.all t (by omega)).2.2.2.1 t (Nat.le_refl t) (by omega)
    rw [bd_s]
    show _ ≤ 10 * ten t
    omega
theorem LJ.bnd {a : Nat → Nat → Int} {k t i j : Nat} (h : LJ a k 0) (ht : t < k) (h1 : t ≤ i) (h2 : i < k) (h3 : j < k) : - (10 * ten t) ≤ bm a t i j ∧ bm a t i j ≤ 10 * ten t := by
  have hl := h.all t ht
  have b1 := hl.2.2.2.1 i h1 h2
  have b2 := h.bd10 t ht
  have r := hl.row h1 h2
  by_cases q : j = i
  · subst q
    omega
  · have r1 := r.1 j h3 q
    by_cases z : j < t
    · rw [hl.col i z]
      omega
    · have := hl.2.1 i j h1 h2 (by omega) h3 (fun e => q e.symm)
      omega
