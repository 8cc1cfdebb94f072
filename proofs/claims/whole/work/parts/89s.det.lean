/-! determinants by the last row -/
theorem sumN_add (f g : Nat → Int) : ∀ n, sumN (fun a => f a + g a) n = sumN f n + sumN g n
  | 0 => rfl
  | n + 1 => by
    show sumN (fun a => f a + g a) n + (f n + g n) = (sumN f n + f n) + (sumN g n + g n)
    rw [sumN_add f g n]
    omega
theorem sumN_00 (f : Nat → Int) (n : Nat) (h : ∀ i, i < n → f i = 0) : sumN f n = 0 := by
  induction n with
  | zero => rfl
  | succ n ih =>
    show sumN f n + f n = 0
    rw [ih (fun i hi => h i (by omega)), h n (by omega)]
    rfl
def skp (l i : Nat) : Nat := if i < l then i else i + 1
theorem skp_lt {l i : Nat} (h : i < l) : skp l i = i := if_pos h
theorem skp_ge {l i : Nat} (h : l ≤ i) : skp l i = i + 1 := if_neg (by omega)
def sgn (n : Nat) : Int := if n % 2 = 0 then 1 else -1
theorem sgn_s (n : Nat) : sgn (n + 1) = - sgn n := by
  unfold sgn
  by_cases h : n % 2 = 0
  · rw [if_pos h, if_neg (by omega)]
  · rw [if_neg h, if_pos (by omega)]
    rfl
def dt (R : Nat → Nat → Int) : Nat → (Nat → Nat) → Int
  | 0, _ => 1
  | n + 1, s => sumN (fun l => sgn (n + l) * R n (s l) * dt R n (fun i => s (skp l i))) (n + 1)
theorem skp_b {l i n : Nat} (h : i < n) : skp l i < n + 1 := by
  unfold skp
  split <;> omega
theorem dt_congr : ∀ (n : Nat) {R S : Nat → Nat → Int} {s t : Nat → Nat}, (∀ r l, r < n → l < n → R r (s l) = S r (t l)) → dt R n s = dt S n t
  | 0, _, _, _, _, _ => rfl
  | n + 1, R, S, s, t, h => by
    show sumN _ (n + 1) = sumN _ (n + 1)
    refine sumN_congr (n + 1) (fun l hl => ?_)
    show sgn (n + l) * R n (s l) * dt R n (fun i => s (skp l i)) = sgn (n + l) * S n (t l) * dt S n (fun i => t (skp l i))
    rw [h n l (by omega) hl, dt_congr n (R := R) (S := S) (s := fun i => s (skp l i)) (t := fun i => t (skp l i)) (fun r i hr hi => h r _ (by omega) (skp_b hi))]
/-- a sum over pairs of different places -/
theorem sum_pairs (f : Nat → Nat → Int) : ∀ n, sumN (fun l => sumN (fun m => f l m) n) (n + 1) = sumN (fun m => sumN (fun l => f l m + f (m + 1) l) (m + 1)) n
  | 0 => rfl
  | n + 1 => by
    have ih := sum_pairs f n
    show sumN (fun l => sumN (fun m => f l m) (n + 1)) (n + 1) + sumN (fun m => f (n + 1) m) (n + 1) = sumN (fun m => sumN (fun l => f l m + f (m + 1) l) (m + 1)) n + sumN (fun l => f l n + f (n + 1) l) (n + 1)
    rw [← ih, sumN_add (fun l => f l n) (fun l => f (n + 1) l) (n + 1)]
    have e : sumN (fun l => sumN (fun m => f l m) (n + 1)) (n + 1) = sumN (fun l => sumN (fun m => f l m) n) (n + 1) + sumN (fun l => f l n) (n + 1) := by
      rw [← sumN_add]
      rfl
    rw [e]
    omega
/-- both last rows -/
def dE (R : Nat → Nat → Int) (n : Nat) (u v : Nat → Int) (s : Nat → Nat) : Int := sumN (fun l => sumN (fun m => sgn (n + 1 + l) * sgn (n + m) * (u (s l) * v (s (skp l m))) * dt R n (fun i => s (skp l (skp m i)))) (n + 1)) (n + 2)
theorem dt_dE (R : Nat → Nat → Int) (n : Nat) (s : Nat → Nat) : dt R (n + 2) s = dE R n (R (n + 1)) (R n) s := by
  show sumN _ (n + 2) = sumN _ (n + 2)
  refine sumN_congr (n + 2) (fun l hl => ?_)
  show sgn (n + 1 + l) * R (n + 1) (s l) * sumN (fun m => sgn (n + m) * R n (s (skp l m)) * dt R n (fun i => s (skp l (skp m i)))) (n + 1) = _
  rw [← sumN_mul]
  refine sumN_congr (n + 1) (fun m hm => ?_)
  simp only [Int.mul_assoc, Int.mul_left_comm, Int.mul_comm]
theorem skp_skp {l m : Nat} (h : l ≤ m) (i : Nat) : skp l (skp m i) = skp (m + 1) (skp l i) := by
  by_cases h1 : i < l
  · rw [skp_lt (l := m) (by omega), skp_lt h1, skp_lt (by omega)]
  · by_cases h2 : i < m
    · rw [skp_lt h2, skp_ge (by omega), skp_lt (by omega)]
    · rw [skp_ge (l := m) (by omega), skp_ge (l := l) (i := i) (by omega), skp_ge (by omega), skp_ge (by omega)]
theorem dE_anti (R : Nat → Nat → Int) (n : Nat) (u v : Nat → Int) (s : Nat → Nat) : dE R n u v s = - dE R n v u s := by
  have key : dE R n u v s + dE R n v u s = 0 := by
    unfold dE
    rw [sum_pairs, sum_pairs, ← sumN_add]
    refine sumN_00 _ _ (fun m hm => ?_)
    rw [← sumN_add]
    refine sumN_00 _ _ (fun l hl => ?_)
    have e1 : skp l m = m + 1 := skp_ge (by omega)
    have e2 : skp (m + 1) l = l := skp_lt (by omega)
    have e3 : (fun i => s (skp (m + 1) (skp l i))) = (fun i => s (skp l (skp m i))) := funext (fun i => congrArg s (skp_skp (l := l) (m := m) (by omega) i).symm)
    rw [e1, e2, e3, show n + 1 + (m + 1) = n + m + 1 + 1 by omega, show n + 1 + l = n + l + 1 by omega, sgn_s (n + m + 1), sgn_s (n + m), sgn_s (n + l)]
    rw [Int.neg_neg, Int.mul_comm (v (s l)) (u (s (m + 1))), Int.mul_comm (v (s (m + 1))) (u (s l)), Int.mul_comm (sgn (n + m)) (sgn (n + l))]
    simp only [Int.neg_mul]
    omega
  omega
theorem dt_rows : ∀ (n : Nat) (R : Nat → Nat → Int) (r : Nat) (s : Nat → Nat), r < n → R n = R r → dt R (n + 1) s = 0
  | 0, _, _, _, h, _ => absurd h (by omega)
  | n + 1, R, r, s, h, e => by
    rw [dt_dE]
    by_cases q : r = n
    · subst q
      have := dE_anti R r (R r) (R r) s
      rw [e]
      omega
    · rw [dE_anti]
      have : dE R n (R n) (R (n + 1)) s = 0 := by
        unfold dE
        refine sumN_00 _ _ (fun l hl => ?_)
        have ih := dt_rows n (fun x => if x = n then R (n + 1) else R x) r (fun i => s (skp l i)) (by omega) (by rw [if_pos rfl, if_neg q]; exact e)
        have e2 : sumN (fun m => sgn (n + 1 + l) * sgn (n + m) * (R n (s l) * R (n + 1) (s (skp l m))) * dt R n (fun i => s (skp l (skp m i)))) (n + 1) = sgn (n + 1 + l) * R n (s l) * dt (fun x => if x = n then R (n + 1) else R x) (n + 1) (fun i => s (skp l i)) := by
          show _ = sgn (n + 1 + l) * R n (s l) * sumN _ (n + 1)
          rw [← sumN_mul]
          refine sumN_congr (n + 1) (fun m hm => ?_)
          have e3 : dt (fun x => if x = n then R (n + 1) else R x) n (fun i => s (skp l (skp m i))) = dt R n (fun i => s (skp l (skp m i))) := dt_congr n (fun x y hx hy => by rw [if_neg (by omega)])
          show _ = sgn (n + 1 + l) * R n (s l) * (sgn (n + m) * (if n = n then R (n + 1) else R n) (s (skp l m)) * dt (fun x => if x = n then R (n + 1) else R x) n (fun i => s (skp l (skp m i))))
          rw [e3, if_pos rfl]
          simp only [Int.mul_assoc, Int.mul_left_comm, Int.mul_comm]
        rw [e2, ih, Int.mul_zero]
      rw [this]
      rfl
