/-! some days ahead (pure) -/
/-- what a day from a wear costs with what comes behind it (k wears of those that it may come to), s the scale -/
def dyV (G : Nat → Nat → Int) (co lt : Nat → Int) (s : Int) (a k : Nat) : Int := co a * s + sumN (fun i => G a (a + i) * lt (a + i)) k
def rnV (G : Nat → Nat → Int) (co lt : Nat → Int) (n : Nat) (s : Int) (a : Nat) : Int := dyV G co lt s a (n - a)
def prc (c fall : Int) : Int := cond (decide (0 < c - fall)) (c - fall) 0
/-- the least and the act behind i mendings -/
def chV (mw mc rn : Nat → Int) (fall s : Int) (a : Nat) : Nat → Int × Int
  | 0 => (rn a, 0)
  | i + 1 => if ¬ mw i = -9 ∧ prc (mc i) fall * s + rn (mw i).toNat < (chV mw mc rn fall s a i).1 then (prc (mc i) fall * s + rn (mw i).toNat, (i : Int) + 1) else chV mw mc rn fall s a i
theorem chV_t {mw mc rn : Nat → Int} {fall s : Int} {a i : Nat} (h1 : ¬ mw i = -9) (h2 : prc (mc i) fall * s + rn (mw i).toNat < (chV mw mc rn fall s a i).1) : chV mw mc rn fall s a (i + 1) = (prc (mc i) fall * s + rn (mw i).toNat, (i : Int) + 1) := if_pos ⟨h1, h2⟩
theorem chV_f {mw mc rn : Nat → Int} {fall s : Int} {a i : Nat} (h : ¬ (¬ mw i = -9 ∧ prc (mc i) fall * s + rn (mw i).toNat < (chV mw mc rn fall s a i).1)) : chV mw mc rn fall s a (i + 1) = chV mw mc rn fall s a i := if_neg h
/-- with or without a mender -/
def chW (mw mc rn : Nat → Int) (fall s : Int) (a : Nat) : Int × Int := if fall = -9 then (rn a, 0) else chV mw mc rn fall s a 4
theorem prc_bd {c fall : Int} (hc : 0 ≤ c ∧ c ≤ 99) (hf : 0 ≤ fall) : 0 ≤ prc c fall ∧ prc c fall ≤ 99 := by
  unfold prc
  by_cases h : 0 < c - fall
  · rw [decide_eq_true h]; show 0 ≤ c - fall ∧ c - fall ≤ 99; omega
  · rw [decide_eq_false h]; show (0 : Int) ≤ 0 ∧ (0 : Int) ≤ 99; omega
/-- bounds: behind t days -/
def Bd : Nat → Int
  | 0 => 0
  | t + 1 => 99 * pw 10 t + 80 * Bd t
theorem Bd8 {t : Nat} (h : t ≤ 8) : 0 ≤ Bd t ∧ Bd t ≤ 3000000000000000 := by
  have : t = 0 ∨ t = 1 ∨ t = 2 ∨ t = 3 ∨ t = 4 ∨ t = 5 ∨ t = 6 ∨ t = 7 ∨ t = 8 := by omega
  rcases this with rfl | rfl | rfl | rfl | rfl | rfl | rfl | rfl | rfl <;> decide
theorem pw10 {t : Nat} (h : t ≤ 8) : 1 ≤ pw 10 t ∧ pw 10 t ≤ 100000000 := by
  have : t = 0 ∨ t = 1 ∨ t = 2 ∨ t = 3 ∨ t = 4 ∨ t = 5 ∨ t = 6 ∨ t = 7 ∨ t = 8 := by omega
  rcases this with rfl | rfl | rfl | rfl | rfl | rfl | rfl | rfl | rfl <;> decide
theorem mulb {x y A B : Int} (hx : 0 ≤ x ∧ x ≤ A) (hy : 0 ≤ y ∧ y ≤ B) : 0 ≤ x * y ∧ x * y ≤ A * B := ⟨Int.mul_nonneg hx.1 hy.1, Int.le_trans (Int.mul_le_mul_of_nonneg_right hx.2 hy.1) (Int.mul_le_mul_of_nonneg_left hy.2 (Int.le_trans hx.1 hx.2))⟩
theorem rnV_bd {G : Nat → Nat → Int} {co lt : Nat → Int} {n t a : Nat} (hG : ∀ i j, i < 8 → j < 8 → 0 ≤ G i j ∧ G i j ≤ 10) (hc : ∀ i, i < 8 → 0 ≤ co i ∧ co i ≤ 99) (hn : n ≤ 8) (hl : ∀ j, j < n → 0 ≤ lt j ∧ lt j ≤ Bd t) (ht : t ≤ 8) (ha : a < n) : 0 ≤ rnV G co lt n (pw 10 t) a ∧ rnV G co lt n (pw 10 t) a ≤ Bd (t + 1) := by
  unfold rnV dyV
  have h1 := mulb (hc a (by omega)) ⟨Int.le_trans (by decide) (pw10 ht).1, Int.le_refl (pw 10 t)⟩
  have h2 := sumN_bd (f := fun i => G a (a + i) * lt (a + i)) (B := 10 * Bd t) (n - a) (fun i hi => mulb (hG a (a + i) (by omega) (by omega)) (hl (a + i) (by omega)))
  have h3 := (Bd8 ht).1
  have h4 : ((n - a : Nat) : Int) * (10 * Bd t) ≤ 8 * (10 * Bd t) := Int.mul_le_mul_of_nonneg_right (by omega) (by omega)
  show 0 ≤ _ ∧ _ ≤ 99 * pw 10 t + 80 * Bd t
  omega
theorem chV_bd {mw mc rn : Nat → Int} {fall s B : Int} {a n : Nat} (hr : ∀ j, j < n → 0 ≤ rn j) (hra : rn a ≤ B) (ha : a < n) (hm : ∀ j, j < 4 → mw j = -9 ∨ 0 ≤ mw j ∧ mw j < (n : Int)) (hc : ∀ j, j < 4 → 0 ≤ mc j ∧ mc j ≤ 99) (hf : 0 ≤ fall) (hs : 0 ≤ s) : ∀ i, i ≤ 4 → 0 ≤ (chV mw mc rn fall s a i).1 ∧ (chV mw mc rn fall s a i).1 ≤ B
  | 0, _ => ⟨hr a ha, hra⟩
  | i + 1, h => by
    have ih := chV_bd hr hra ha hm hc hf hs i (by omega)
    by_cases q : ¬ mw i = -9 ∧ prc (mc i) fall * s + rn (mw i).toNat < (chV mw mc rn fall s a i).1
    · rw [chV_t q.1 q.2]
      have h1 := hr (mw i).toNat (by have := hm i (by omega); omega)
      have h2 := Int.mul_nonneg (prc_bd (hc i (by omega)) hf).1 hs
      show 0 ≤ prc (mc i) fall * s + rn (mw i).toNat ∧ prc (mc i) fall * s + rn (mw i).toNat ≤ B
      omega
    · rw [chV_f q]
      exact ih
theorem dyV_10 {G : Nat → Nat → Int} {co lt lu : Nat → Int} {s : Int} {a : Nat} : ∀ k, (∀ i, i < k → lu (a + i) = 10 * lt (a + i)) → dyV G co lu (s * 10) a k = 10 * dyV G co lt s a k := by
  intro k h
  unfold dyV
  have e : ∀ k, (∀ i, i < k → lu (a + i) = 10 * lt (a + i)) → sumN (fun i => G a (a + i) * lu (a + i)) k = 10 * sumN (fun i => G a (a + i) * lt (a + i)) k := by
    intro k
    induction k with
    | zero => intro _; rfl
    | succ k ih =>
      intro h
      show sumN _ k + G a (a + k) * lu (a + k) = 10 * (sumN _ k + G a (a + k) * lt (a + k))
      rw [ih (fun i hi => h i (by omega)), h k (by omega), Int.mul_add, Int.mul_left_comm]
  rw [e k h, Int.mul_add, ← Int.mul_assoc (co a) s 10, Int.mul_comm (co a * s) 10]
theorem dyV_congr {G H : Nat → Nat → Int} {co cp lt lu : Nat → Int} {s : Int} {a k : Nat} (hG : ∀ i, i < k → G a (a + i) = H a (a + i)) (hc : co a = cp a) (hl : ∀ i, i < k → lt (a + i) = lu (a + i)) : dyV G co lt s a k = dyV H cp lu s a k := by
  unfold dyV
  rw [hc, sumN_congr k (fun i hi => by rw [hG i hi, hl i hi])]
/-- what is ahead with t days left, of d days, the mender each p days, prices that fall by f -/
def fal (d p : Nat) (f : Int) (t : Nat) : Int := if (d - 1 - t) % p = 0 then ((d - 1 - t : Nat) : Int) * f else -9
def plA (G : Nat → Nat → Int) (co mw mc : Nat → Int) (n d p : Nat) (f : Int) : Nat → (Nat → Int)
  | 0 => fun _ => 0
  | t + 1 => fun a => (chW mw mc (rnV G co (plA G co mw mc n d p f t) n (pw 10 t)) (fal d p f t) (pw 10 t) a).1
def plC (G : Nat → Nat → Int) (co mw mc : Nat → Int) (n d p : Nat) (f : Int) (t : Nat) (a : Nat) : Int := (chW mw mc (rnV G co (plA G co mw mc n d p f t) n (pw 10 t)) (fal d p f t) (pw 10 t) a).2
theorem fal_nn {d p t : Nat} {f : Int} (hf : 0 ≤ f) (h : ¬ fal d p f t = -9) : 0 ≤ fal d p f t := by
  unfold fal at h ⊢
  split at h
  · rename_i q
    rw [if_pos q]
    exact Int.mul_nonneg (by omega) hf
  · exact absurd rfl h
theorem plA_bd {G : Nat → Nat → Int} {co mw mc : Nat → Int} {n d p : Nat} {f : Int} (hG : ∀ i j, i < 8 → j < 8 → 0 ≤ G i j ∧ G i j ≤ 10) (hc : ∀ i, i < 8 → 0 ≤ co i ∧ co i ≤ 99) (hm : ∀ j, j < 4 → mw j = -9 ∨ 0 ≤ mw j ∧ mw j < (n : Int)) (hmc : ∀ j, j < 4 → 0 ≤ mc j ∧ mc j ≤ 99) (hn : n ≤ 8) (hf : 0 ≤ f) : ∀ t, t ≤ 8 → ∀ a, a < n → 0 ≤ plA G co mw mc n d p f t a ∧ plA G co mw mc n d p f t a ≤ Bd t
  | 0, _ => fun a _ => ⟨Int.le_refl 0, Int.le_refl 0⟩
  | t + 1, ht => by
    intro a ha
    have ih := plA_bd hG hc hm hmc hn hf t (by omega) (d := d) (p := p)
    have hr : ∀ j, j < n → 0 ≤ rnV G co (plA G co mw mc n d p f t) n (pw 10 t) j ∧ rnV G co (plA G co mw mc n d p f t) n (pw 10 t) j ≤ Bd (t + 1) := fun j hj => rnV_bd hG hc hn ih (by omega) hj
    show 0 ≤ (chW _ _ _ _ _ a).1 ∧ (chW _ _ _ _ _ a).1 ≤ _
    unfold chW
    split
    · exact hr a ha
    · rename_i q
      have hp := (pw10 (t := t) (by omega)).1
      refine chV_bd (fun j hj => (hr j hj).1) (hr a ha).2 ha hm hmc (fal_nn hf q) (by omega) 4 (Nat.le_refl _)
