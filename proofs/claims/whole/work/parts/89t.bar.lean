/-! dividing that comes out even -/
def bd (a : Nat → Nat → Int) (t : Nat) : Int := dt a t (fun l => l)
def bm (a : Nat → Nat → Int) (t i j : Nat) : Int := dt (fun s => a (if s < t then s else i)) (t + 1) (fun l => if l < t then l else j)
def bc (a : Nat → Nat → Int) (t l j : Nat) : Int := - sgn (t + l) * dt a t (fun i => if skp l i < t then skp l i else j)
theorem sgn_2 (n : Nat) : sgn (n + n) = 1 := if_pos (by omega)
theorem bm_1 (a : Nat → Nat → Int) (t i j : Nat) : bm a t i j = bd a t * a i j - sumN (fun l => a i l * bc a t l j) t := by
  have e : bm a t i j = sumN (fun l => sgn (t + l) * a i (if l < t then l else j) * dt a t (fun x => if skp l x < t then skp l x else j)) (t + 1) := by
    show sumN _ (t + 1) = sumN _ (t + 1)
    refine sumN_congr (t + 1) (fun l hl => ?_)
    show sgn (t + l) * a (if t < t then t else i) (if l < t then l else j) * dt (fun s => a (if s < t then s else i)) t (fun x => if skp l x < t then skp l x else j) = _
    rw [if_neg (Nat.lt_irrefl t), dt_congr t (R := fun s => a (if s < t then s else i)) (S := a) (s := fun x => if skp l x < t then skp l x else j) (t := fun x => if skp l x < t then skp l x else j) (fun r l hr _ => by rw [if_pos hr])]
  rw [e]
  show sumN _ t + sgn (t + t) * a i (if t < t then t else j) * dt a t (fun x => if skp t x < t then skp t x else j) = _
  rw [sgn_2, if_neg (Nat.lt_irrefl t), dt_congr t (R := a) (S := a) (s := fun x => if skp t x < t then skp t x else j) (t := fun l => l) (fun r l hr hl => by rw [skp_lt hl, if_pos hl])]
  have e2 : sumN (fun l => sgn (t + l) * a i (if l < t then l else j) * dt a t (fun x => if skp l x < t then skp l x else j)) t = - sumN (fun l => a i l * bc a t l j) t := by
    rw [← Int.neg_one_mul, ← sumN_mul]
    refine sumN_congr t (fun l hl => ?_)
    show sgn (t + l) * a i (if l < t then l else j) * dt a t (fun x => if skp l x < t then skp l x else j) = -1 * (a i l * (- sgn (t + l) * dt a t (fun x => if skp l x < t then skp l x else j)))
    rw [if_pos hl]
    grind
  rw [e2, Int.one_mul]
  show _ = bd a t * a i j - _
  unfold bd
  rw [Int.mul_comm (a i j)]
  omega
theorem bm_2 {a : Nat → Nat → Int} {t r : Nat} (j : Nat) (h : r < t) : bm a t r j = 0 := dt_rows t _ r _ h (by show a (if t < t then t else r) = a (if r < t then r else r); rw [if_neg (Nat.lt_irrefl t), if_pos h])
theorem bd_s (a : Nat → Nat → Int) (t : Nat) : bd a (t + 1) = bm a t t t := dt_congr (t + 1) (fun r l hr hl => by
  have e1 : (if r < t then r else t) = r := by split <;> omega
  have e2 : (if l < t then l else t) = l := by split <;> omega
  rw [e1, e2])
theorem bc_s (a : Nat → Nat → Int) (t j : Nat) : bc a (t + 1) t j = bm a t t j := by
  unfold bc
  rw [show t + 1 + t = t + t + 1 by omega, sgn_s, sgn_2, Int.neg_neg, Int.one_mul]
  refine dt_congr (t + 1) (fun r l hr hl => ?_)
  have e1 : (if r < t then r else t) = r := by split <;> omega
  rw [e1]
  by_cases q : l < t
  · rw [skp_lt q, if_pos (by omega), if_pos q]
  · rw [skp_ge (by omega), if_neg (by omega), if_neg q]
theorem bm_0 (a : Nat → Nat → Int) (i j : Nat) : bm a 0 i j = a i j := by
  rw [bm_1]
  show bd a 0 * a i j - 0 = _
  show 1 * a i j - 0 = _
  omega
/-- the step -/
def bR (a : Nat → Nat → Int) (t : Nat) : Prop := ∀ i j, bd a t * bm a (t + 1) i j = bm a t t t * bm a t i j - bm a t i t * bm a t t j
theorem bm_col {a : Nat → Nat → Int} : ∀ (s i l : Nat), (∀ x, x < s → bR a x ∧ bd a x ≠ 0) → l < s → bm a s i l = 0
  | 0, _, _, _, h => absurd h (by omega)
  | s + 1, i, l, hr, h => by
    have r := (hr s (by omega)).1 i l
    have e : bm a s s s * bm a s i l - bm a s i s * bm a s s l = 0 := by
      by_cases q : l = s
      · subst q
        rw [Int.mul_comm (bm a l l l)]
        omega
      · rw [bm_col s i l (fun x hx => hr x (by omega)) (by omega), bm_col s s l (fun x hx => hr x (by omega)) (by omega), Int.mul_zero, Int.mul_zero]
        rfl
    rw [e] at r
    rcases Int.mul_eq_zero.mp r with z | z
    · exact absurd z (hr s (by omega)).2
    · exact z
theorem sumN_lin (f g : Nat → Int) (p q : Int) (n : Nat) : sumN (fun l => p * f l - q * g l) n = p * sumN f n - q * sumN g n := by
  have e : sumN (fun l => p * f l - q * g l) n = sumN (fun l => p * f l + (-q) * g l) n := sumN_congr n (fun l _ => by rw [Int.neg_mul]; omega)
  rw [e, sumN_add, sumN_mul, sumN_mul, Int.neg_mul]
  omega
theorem bm_row {a : Nat → Nat → Int} {z : Nat → Int} {n t : Nat} : ∀ s, s ≤ t → (∀ x, x < s → bR a x ∧ bd a x ≠ 0) → (∀ i, i < t → sumN (fun l => a i l * z l) n = 0) → ∀ i, i < t → sumN (fun l => bm a s i l * z l) n = 0
  | 0, _, _, h, i, hi => by
    rw [sumN_congr n (g := fun l => a i l * z l) (fun l _ => by rw [bm_0])]
    exact h i hi
  | s + 1, hs, hr, h, i, hi => by
    have h1 := bm_row s (by omega) (fun x hx => hr x (by omega)) h i hi
    have h2 := bm_row s (by omega) (fun x hx => hr x (by omega)) h s (by omega)
    have r := (hr s (by omega)).1
    have e : bd a s * sumN (fun l => bm a (s + 1) i l * z l) n = 0 := by
      rw [← sumN_mul, sumN_congr n (g := fun l => bm a s s s * (bm a s i l * z l) - bm a s i s * (bm a s s l * z l)) (fun l _ => by
        have := r i l
        grind), sumN_lin, h1, h2, Int.mul_zero, Int.mul_zero]
      rfl
    rcases Int.mul_eq_zero.mp e with z | z
    · exact absurd z (hr s (by omega)).2
    · exact z
theorem sumN_one (f : Nat → Int) {n k : Nat} (hk : k < n) (h : ∀ i, i < n → i ≠ k → f i = 0) : sumN f n = f k := by
  induction n with
  | zero => exact absurd hk (by omega)
  | succ n ih =>
    show sumN f n + f n = f k
    by_cases q : k = n
    · subst q
      rw [sumN_00 f k (fun i hi => h i (by omega) (by omega))]
      omega
    · rw [ih (by omega) (fun i hi hne => h i (by omega) hne), h n (by omega) (by omega)]
      omega
theorem bm_ker {a : Nat → Nat → Int} {z : Nat → Int} {t : Nat} (hr : ∀ x, x < t → bR a x) (hd : ∀ x, x ≤ t → bd a x ≠ 0) (h : ∀ i, i < t → sumN (fun l => a i l * z l) t = 0) : ∀ l, l < t → z l = 0 := by
  have key : ∀ k, ∀ l, l < t → t ≤ l + k → z l = 0 := by
    intro k
    induction k with
    | zero => intro l h1 h2; omega
    | succ k ih =>
      intro l h1 h2
      have s := bm_row (a := a) (z := z) (n := t) (t := t) l (by omega) (fun x hx => ⟨hr x (by omega), hd x (by omega)⟩) h l h1
      have e : sumN (fun m => bm a l l m * z m) t = bm a l l l * z l := sumN_one (fun m => bm a l l m * z m) h1 (fun m hm hne => by
        show bm a l l m * z m = 0
        by_cases q : m < l
        · rw [bm_col l l m (fun x hx => ⟨hr x (by omega), hd x (by omega)⟩) q, Int.zero_mul]
        · rw [ih m hm (by omega), Int.mul_zero])
      rw [e] at s
      rcases Int.mul_eq_zero.mp s with y | y
      · rw [← bd_s] at y
        exact absurd y (hd (l + 1) (by omega))
      · exact y
  exact fun l hl => key t l hl (by omega)
theorem bm_R {a : Nat → Nat → Int} : ∀ t, (∀ x, x ≤ t → bd a x ≠ 0) → bR a t := by
  intro t
  induction t using Nat.strongRecOn with
  | ind t ih =>
    intro hd i j
    have hr : ∀ x, x < t → bR a x := fun x hx => ih x hx (fun y hy => hd y (by omega))
    have main : ∀ i, bd a t * bm a (t + 1) i j - (bm a t t t * bm a t i j - bm a t i t * bm a t t j) = sumN (fun l => a i l * (bd a (t + 1) * bc a t l j - bm a t t j * bc a t l t - bd a t * bc a (t + 1) l j)) t := by
      intro i
      have e1 := bm_1 a (t + 1) i j
      have e2 := bm_1 a t i j
      have e3 := bm_1 a t i t
      have s1 : sumN (fun l => a i l * bc a (t + 1) l j) (t + 1) = sumN (fun l => a i l * bc a (t + 1) l j) t + a i t * bm a t t j := by
        show _ + a i t * bc a (t + 1) t j = _
        rw [bc_s]
      have s2 : sumN (fun l => a i l * (bd a (t + 1) * bc a t l j - bm a t t j * bc a t l t - bd a t * bc a (t + 1) l j)) t = bd a (t + 1) * sumN (fun l => a i l * bc a t l j) t - bm a t t j * sumN (fun l => a i l * bc a t l t) t - bd a t * sumN (fun l => a i l * bc a (t + 1) l j) t := by
        rw [← sumN_mul (bd a (t + 1)), ← sumN_mul (bm a t t j), ← sumN_mul (bd a t)]
        have q1 := sumN_lin (fun l => bd a (t + 1) * (a i l * bc a t l j)) (fun l => bm a t t j * (a i l * bc a t l t)) 1 1 t
        have q2 := sumN_lin (fun l => 1 * (bd a (t + 1) * (a i l * bc a t l j)) - 1 * (bm a t t j * (a i l * bc a t l t))) (fun l => bd a t * (a i l * bc a (t + 1) l j)) 1 1 t
        rw [q1] at q2
        rw [Int.one_mul, Int.one_mul, Int.one_mul, Int.one_mul] at q2
        rw [← q2]
        refine sumN_congr t (fun l _ => ?_)
        grind
      rw [s2, e1, e2, e3, s1, ← bd_s]
      generalize sumN (fun l => a i l * bc a t l j) t = A
      generalize sumN (fun l => a i l * bc a t l t) t = B
      generalize sumN (fun l => a i l * bc a (t + 1) l j) t = C
      grind
    have z0 : ∀ l, l < t → bd a (t + 1) * bc a t l j - bm a t t j * bc a t l t - bd a t * bc a (t + 1) l j = 0 := bm_ker hr hd (fun r hrt => by
      rw [← main r, bm_2 j (by omega : r < t + 1), bm_2 j hrt, bm_2 t hrt, Int.mul_zero, Int.mul_zero, Int.zero_mul]
      rfl)
    have := main i
    rw [sumN_00 _ t (fun l hl => by rw [z0 l hl, Int.mul_zero])] at this
    omega
