/-! rows filled; greatest common divisors of rows; least terms (pure) -/
/-- a stretch of a row filled -/
def fil (V : Mv) (A base : Nat) (g : Nat → Int) (n : Nat) : Mv := fun a k => if a = A ∧ base ≤ k ∧ k < base + n then g (k - base) else V a k
theorem fil_0 (V : Mv) (A base : Nat) (g : Nat → Int) : fil V A base g 0 = V := by
  funext a k
  unfold fil
  rw [if_neg (by omega)]
theorem fil_ne {V : Mv} {A base : Nat} {g : Nat → Int} {n a : Nat} (h : a ≠ A) : fil V A base g n a = V a := by
  funext k
  unfold fil
  rw [if_neg (by omega)]
theorem fil_in {V : Mv} {A base : Nat} {g : Nat → Int} {n k : Nat} (h : base ≤ k ∧ k < base + n) : fil V A base g n A k = g (k - base) := by
  unfold fil
  rw [if_pos ⟨rfl, h⟩]
theorem fil_at {V : Mv} {A base : Nat} {g : Nat → Int} {n i : Nat} (h : i < n) : fil V A base g n A (base + i) = g i := by
  rw [fil_in (by omega), Nat.add_sub_cancel_left]
theorem fil_z {V : Mv} {A : Nat} {g : Nat → Int} {n i : Nat} (h : i < n) : fil V A 0 g n A i = g i := by
  rw [fil_in (by omega), Nat.sub_zero]
theorem fil_out {V : Mv} {A base : Nat} {g : Nat → Int} {n k : Nat} (h : ¬ (base ≤ k ∧ k < base + n)) : fil V A base g n A k = V A k := by
  unfold fil
  rw [if_neg (fun q => h q.2)]
theorem fil_st {V : Mv} {A base : Nat} {g : Nat → Int} {n x : Nat} {z : Int} (hx : x = base + n) (hz : z = g n) : uV (fil V A base g n) A x z = fil V A base g (n + 1) := by
  subst hx hz
  funext a k
  by_cases ha : a = A
  · subst ha
    rw [uV_at]
    by_cases hk : k = base + n
    · rw [if_pos hk, fil_in (by omega), hk, Nat.add_sub_cancel_left]
    · rw [if_neg hk]
      by_cases hi : base ≤ k ∧ k < base + n
      · rw [fil_in hi, fil_in (by omega)]
      · rw [fil_out hi, fil_out (by omega)]
  · rw [uV_ne ha, fil_ne ha, fil_ne ha]
theorem cV_fil (V : Mv) (s d n : Nat) : cV V s 0 d 0 n = fil V d 0 (V s) n := by
  funext a k
  unfold cV fil
  by_cases ha : a = d
  · subst ha
    rw [Nat.beq_refl]
    by_cases hk : k < 0 + n
    · rw [if_pos (by omega), show Nat.ble 0 k = true from Nat.ble_eq_true_of_le (by omega), show Nat.blt k (0 + n) = true from Nat.ble_eq_true_of_le hk]
      show V s (0 + (k - 0)) = V s (k - 0)
      rw [Nat.zero_add]
    · rw [if_neg (by omega)]
      cases h2 : Nat.blt k (0 + n) with
      | false => rw [Bool.and_false, Bool.and_false]; rfl
      | true => exact absurd (Nat.le_of_ble_eq_true h2) hk
  · rw [if_neg (by omega), beqF ha]
    rfl
/-- greatest common divisor of a row -/
def gN (f : Nat → Int) : Nat → Nat
  | 0 => 0
  | k + 1 => Nat.gcd (gN f k) (f k).toNat
theorem gN_congr {f g : Nat → Int} : ∀ n, (∀ i, i < n → f i = g i) → gN f n = gN g n
  | 0, _ => rfl
  | n + 1, h => by
    show Nat.gcd (gN f n) (f n).toNat = Nat.gcd (gN g n) (g n).toNat
    rw [gN_congr n (fun i hi => h i (by omega)), h n (by omega)]
theorem gN_dvd (f : Nat → Int) : ∀ n j, j < n → gN f n ∣ (f j).toNat
  | n + 1, j, h => by
    show Nat.gcd (gN f n) (f n).toNat ∣ _
    by_cases e : j = n
    · rw [e]
      exact Nat.gcd_dvd_right _ _
    · exact Nat.dvd_trans (Nat.gcd_dvd_left _ _) (gN_dvd f n j (by omega))
theorem gN_z (f : Nat → Int) : ∀ n, (∀ j, j < n → f j = 0) → gN f n = 0
  | 0, _ => rfl
  | n + 1, h => by
    show Nat.gcd (gN f n) (f n).toNat = 0
    rw [gN_z f n (fun j hj => h j (by omega)), h n (by omega)]
    rfl
theorem gN_bd {f : Nat → Int} {B : Nat} : ∀ n, (∀ j, j < n → 0 ≤ f j ∧ f j ≤ (B : Int)) → gN f n ≤ B
  | 0, _ => Nat.zero_le _
  | n + 1, h => by
    show Nat.gcd (gN f n) (f n).toNat ≤ B
    have h1 := gN_bd n (fun j hj => h j (by omega))
    have h2 := h n (by omega)
    by_cases e : (f n).toNat = 0
    · rw [e, Nat.gcd_zero_right]
      exact h1
    · exact Nat.le_trans (Nat.le_of_dvd (by omega) (Nat.gcd_dvd_right _ _)) (by omega)
/-- the greatest so far, as the class takes it -/
def mx (f : Nat → Int) : Nat → Int
  | 0 => 0
  | k + 1 => cond (decide (f k < mx f k)) (mx f k) (f k)
theorem mx_ge {f : Nat → Int} : ∀ n j, j < n → f j ≤ mx f n
  | n + 1, j, h => by
    show f j ≤ cond (decide (f n < mx f n)) (mx f n) (f n)
    by_cases e : j = n
    · subst e
      by_cases q : f j < mx f j
      · rw [decide_eq_true q]; show f j ≤ mx f j; omega
      · rw [decide_eq_false q]; exact Int.le_refl _
    · have h1 := mx_ge (f := f) n j (by omega)
      by_cases q : f n < mx f n
      · rw [decide_eq_true q]; exact h1
      · rw [decide_eq_false q]; show f j ≤ f n; omega
theorem mx_is {f : Nat → Int} (h0 : 0 ≤ f 0) : ∀ n, 0 < n → ∃ j, j < n ∧ mx f n = f j
  | 1, _ => ⟨0, by omega, by
    show cond (decide (f 0 < 0)) 0 (f 0) = f 0
    rw [decide_eq_false (by omega)]
    rfl⟩
  | n + 2, _ => by
    obtain ⟨j, hj, e⟩ := mx_is h0 (n + 1) (by omega)
    by_cases q : f (n + 1) < mx f (n + 1)
    · refine ⟨j, by omega, ?_⟩
      show cond (decide (f (n + 1) < mx f (n + 1))) (mx f (n + 1)) (f (n + 1)) = f j
      rw [decide_eq_true q]
      exact e
    · refine ⟨n + 1, by omega, ?_⟩
      show cond (decide (f (n + 1) < mx f (n + 1))) (mx f (n + 1)) (f (n + 1)) = f (n + 1)
      rw [decide_eq_false q]
      rfl
theorem mx_bd {f : Nat → Int} {B : Int} (hB : 0 ≤ B) : ∀ n, (∀ j, j < n → 0 ≤ f j ∧ f j ≤ B) → 0 ≤ mx f n ∧ mx f n ≤ B
  | 0, _ => ⟨Int.le_refl 0, hB⟩
  | n + 1, h => by
    have h1 := mx_bd hB n (fun j hj => h j (by omega))
    have h2 := h n (by omega)
    show 0 ≤ cond (decide (f n < mx f n)) (mx f n) (f n) ∧ cond (decide (f n < mx f n)) (mx f n) (f n) ≤ B
    by_cases q : f n < mx f n
    · rw [decide_eq_true q]; exact h1
    · rw [decide_eq_false q]; exact h2
/-- what a row of weights is answered with when it is brought to least terms -/
def sA (f : Nat → Int) : Int := if gN f 8 = 0 then -3 else if ∀ j, j < 8 → f j / (gN f 8 : Int) ≤ 1000000000000000 then 1 else -4
/-- and the row then -/
def nrm (f : Nat → Int) : Nat → Int := fun j => f j / (gN f 8 : Int)
theorem sA_3 {f : Nat → Int} (h : gN f 8 = 0) : sA f = -3 := if_pos h
theorem sA_1 {f : Nat → Int} (h : ¬ gN f 8 = 0) (h1 : ∀ j, j < 8 → f j / (gN f 8 : Int) ≤ 1000000000000000) : sA f = 1 := by
  unfold sA
  rw [if_neg h, if_pos h1]
theorem sA_4 {f : Nat → Int} (h : ¬ gN f 8 = 0) (h1 : ¬ ∀ j, j < 8 → f j / (gN f 8 : Int) ≤ 1000000000000000) : sA f = -4 := by
  unfold sA
  rw [if_neg h, if_neg h1]
theorem sA_c (f : Nat → Int) : sA f = -3 ∨ sA f = -4 ∨ sA f = 1 := by
  unfold sA
  split
  · exact Or.inl rfl
  · split
    · exact Or.inr (Or.inr rfl)
    · exact Or.inr (Or.inl rfl)
theorem sA_congr {f g : Nat → Int} (h : ∀ j, j < 8 → f j = g j) : sA f = sA g := by
  have e := gN_congr 8 h
  by_cases h0 : gN g 8 = 0
  · rw [sA_3 h0, sA_3 (by rw [e]; exact h0)]
  · by_cases h1 : ∀ j, j < 8 → g j / (gN g 8 : Int) ≤ 1000000000000000
    · rw [sA_1 h0 h1, sA_1 (by rw [e]; exact h0) (fun j hj => by rw [e, h j hj]; exact h1 j hj)]
    · rw [sA_4 h0 h1, sA_4 (by rw [e]; exact h0) (fun q => h1 (fun j hj => by rw [← e, ← h j hj]; exact q j hj))]
theorem nrm_congr {f g : Nat → Int} (h : ∀ j, j < 8 → f j = g j) : ∀ j, j < 8 → nrm f j = nrm g j := by
  intro j hj
  unfold nrm
  rw [gN_congr 8 h, h j hj]
theorem sA_ok {f : Nat → Int} (h : sA f = 1) : ¬ gN f 8 = 0 ∧ ∀ j, j < 8 → f j / (gN f 8 : Int) ≤ 1000000000000000 := by
  unfold sA at h
  split at h
  · exact absurd h (by decide)
  · split at h
    · exact ⟨by assumption, by assumption⟩
    · exact absurd h (by decide)
theorem nrm_wt {f : Nat → Int} {n : Int} (h : sA f = 1) (h0 : ∀ j, j < 8 → 0 ≤ f j) (hz : ∀ a : Nat, a < 8 → n ≤ (a : Int) → f a = 0) : Wt (nrm f) n := by
  obtain ⟨h1, h2⟩ := sA_ok h
  refine Wt.mk (fun a ha => ⟨?_, h2 a ha⟩) (fun a ha hn => ?_) ?_
  · exact Int.ediv_nonneg (h0 a ha) (by omega)
  · unfold nrm
    rw [hz a ha hn]
    exact Int.zero_ediv _
  · refine Classical.byContradiction (fun q => h1 (gN_z f 8 (fun j hj => ?_)))
    refine Classical.byContradiction (fun q2 => q ⟨j, hj, ?_⟩)
    obtain ⟨c, hc⟩ := gN_dvd f 8 j hj
    have h3 := h0 j hj
    have h4 : f j = (gN f 8 : Int) * (c : Int) := by
      rw [← Int.natCast_mul, ← hc]
      omega
    unfold nrm
    rw [h4, Int.mul_ediv_cancel_left _ (by omega)]
    intro q3
    rw [q3, Int.mul_zero] at h4
    exact q2 h4
theorem mx_full {f : Nat → Int} (h0 : 0 ≤ f 0) {p : Nat} (hp : 0 < p) : (mx f 8 / (p : Int) ≤ 1000000000000000) ↔ ∀ j, j < 8 → f j / (p : Int) ≤ 1000000000000000 := by
  constructor
  · intro h j hj
    exact Int.le_trans (Int.ediv_le_ediv (by omega) (mx_ge 8 j hj)) h
  · intro h
    obtain ⟨j, hj, e⟩ := mx_is h0 8 (by omega)
    rw [e]
    exact h j hj
