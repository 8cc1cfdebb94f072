/-! two machines (pure) -/
/-- what one of them costs that runs, over k of the wears it may come to -/
def twS (G : Nat → Nat → Int) (co : Nat → Int) (n : Nat) (s : Int) (lt : Nat → Int) (a k : Nat) : Int := co a * s + sumN (fun i => if a < n ∧ i < n ∧ a ≤ i then G a i * lt i else 0) k
theorem twS_t {G : Nat → Nat → Int} {co : Nat → Int} {n : Nat} {s : Int} {lt : Nat → Int} {a k : Nat} (h : a < n ∧ k < n ∧ a ≤ k) : twS G co n s lt a (k + 1) = twS G co n s lt a k + G a k * lt k := by
  show co a * s + (sumN _ k + (if a < n ∧ k < n ∧ a ≤ k then G a k * lt k else 0)) = _
  rw [if_pos h]
  exact (Int.add_assoc _ _ _).symm
theorem twS_f {G : Nat → Nat → Int} {co : Nat → Int} {n : Nat} {s : Int} {lt : Nat → Int} {a k : Nat} (h : ¬ (a < n ∧ k < n ∧ a ≤ k)) : twS G co n s lt a (k + 1) = twS G co n s lt a k + 0 := by
  show co a * s + (sumN _ k + (if a < n ∧ k < n ∧ a ≤ k then G a k * lt k else 0)) = _
  rw [if_neg h]
  exact (Int.add_assoc _ _ _).symm
theorem sumN_cut {f : Nat → Int} {a n : Nat} (ha : a < n) : ∀ k, sumN (fun i => if a < n ∧ i < n ∧ a ≤ i then f i else 0) k = sumN (fun i => f (a + i)) (min k n - a)
  | 0 => by
    rw [show min 0 n - a = 0 by omega]
    rfl
  | k + 1 => by
    show sumN _ k + (if a < n ∧ k < n ∧ a ≤ k then f k else 0) = _
    rw [sumN_cut ha k]
    by_cases h : k < n ∧ a ≤ k
    · rw [if_pos ⟨ha, h⟩, show min (k + 1) n - a = (min k n - a) + 1 by omega]
      show _ = sumN (fun i => f (a + i)) (min k n - a) + f (a + (min k n - a))
      rw [show a + (min k n - a) = k by omega]
    · rw [if_neg (fun z => h z.2), show min (k + 1) n - a = min k n - a by omega, Int.add_zero]
theorem twS_rn {G : Nat → Nat → Int} {co : Nat → Int} {n : Nat} {s : Int} {lt : Nat → Int} {a : Nat} (ha : a < n) (hn : n ≤ 8) : twS G co n s lt a 8 = rnV G co lt n s a := by
  unfold twS rnV dyV
  rw [sumN_cut (f := fun i => G a i * lt i) ha 8, show min 8 n - a = n - a by omega]
theorem twS_10 {G : Nat → Nat → Int} {co : Nat → Int} {n : Nat} {s : Int} {lt lu : Nat → Int} {a : Nat} (k : Nat) (h : ∀ i, i < k → lu i = 10 * lt i) : twS G co n (s * 10) lu a k = 10 * twS G co n s lt a k := by
  unfold twS
  have e : ∀ k, (∀ i, i < k → lu i = 10 * lt i) → sumN (fun i => if a < n ∧ i < n ∧ a ≤ i then G a i * lu i else 0) k = 10 * sumN (fun i => if a < n ∧ i < n ∧ a ≤ i then G a i * lt i else 0) k := by
    intro k
    induction k with
    | zero => intro _; rfl
    | succ k ih =>
      intro h
      show sumN _ k + (if a < n ∧ k < n ∧ a ≤ k then G a k * lu k else 0) = 10 * (sumN _ k + (if a < n ∧ k < n ∧ a ≤ k then G a k * lt k else 0))
      rw [ih (fun i hi => h i (by omega)), h k (by omega), Int.mul_add]
      split
      · rw [Int.mul_left_comm]
      · rfl
  rw [e k h, Int.mul_add, ← Int.mul_assoc (co a) s 10, Int.mul_comm (co a * s) 10]
theorem twS_congr {G : Nat → Nat → Int} {co : Nat → Int} {n : Nat} {s : Int} {lt lu : Nat → Int} {a k : Nat} (h : ∀ i, i < k → lt i = lu i) : twS G co n s lt a k = twS G co n s lu a k := by
  unfold twS
  rw [sumN_congr k (fun i hi => by rw [h i hi])]
theorem twS_bd {G : Nat → Nat → Int} {co : Nat → Int} {n t a : Nat} {lt : Nat → Int} (hG : ∀ i j, i < 8 → j < 8 → 0 ≤ G i j ∧ G i j ≤ 10) (hc : ∀ i, i < 8 → 0 ≤ co i ∧ co i ≤ 99) (hl : ∀ j, j < 8 → 0 ≤ lt j ∧ lt j ≤ Bd t) (ht : t ≤ 8) (ha : a < 8) : 0 ≤ twS G co n (pw 10 t) lt a 8 ∧ twS G co n (pw 10 t) lt a 8 ≤ Bd (t + 1) := by
  unfold twS
  have h1 := mulb (hc a ha) ⟨Int.le_trans (by decide) (pw10 ht).1, Int.le_refl (pw 10 t)⟩
  have h3 := (Bd8 ht).1
  have h2 := sumN_bd (f := fun i => if a < n ∧ i < n ∧ a ≤ i then G a i * lt i else 0) (B := 10 * Bd t) 8 (fun i hi => by
    have h4 := mulb (hG a i ha hi) (hl i hi)
    show 0 ≤ (if a < n ∧ i < n ∧ a ≤ i then G a i * lt i else 0) ∧ (if a < n ∧ i < n ∧ a ≤ i then G a i * lt i else 0) ≤ 10 * Bd t
    split <;> omega)
  show 0 ≤ _ ∧ _ ≤ 99 * pw 10 t + 80 * Bd t
  omega
/-- the least of both, and who runs -/
def tw1 (G : Nat → Nat → Int) (co : Nat → Int) (n : Nat) (s : Int) (lt : Nat → Nat → Int) (a c : Nat) : Int := twS G co n s (fun i => lt i c) a 8
def tw2 (H : Nat → Nat → Int) (cp : Nat → Int) (n2 : Nat) (s : Int) (lt : Nat → Nat → Int) (a c : Nat) : Int := twS H cp n2 s (fun j => lt a j) c 8
def twF (G : Nat → Nat → Int) (co : Nat → Int) (n : Nat) (H : Nat → Nat → Int) (cp : Nat → Int) (n2 : Nat) : Nat → (Nat → Nat → Int)
  | 0 => fun _ _ => 0
  | t + 1 => fun a c => if tw2 H cp n2 (pw 10 t) (twF G co n H cp n2 t) a c < tw1 G co n (pw 10 t) (twF G co n H cp n2 t) a c then tw2 H cp n2 (pw 10 t) (twF G co n H cp n2 t) a c else tw1 G co n (pw 10 t) (twF G co n H cp n2 t) a c
def twR (G : Nat → Nat → Int) (co : Nat → Int) (n : Nat) (H : Nat → Nat → Int) (cp : Nat → Int) (n2 t a c : Nat) : Int := if tw2 H cp n2 (pw 10 t) (twF G co n H cp n2 t) a c < tw1 G co n (pw 10 t) (twF G co n H cp n2 t) a c then 1 else 0
theorem twF_bd {G H : Nat → Nat → Int} {co cp : Nat → Int} {n n2 : Nat} (hG : ∀ i j, i < 8 → j < 8 → 0 ≤ G i j ∧ G i j ≤ 10) (hc : ∀ i, i < 8 → 0 ≤ co i ∧ co i ≤ 99) (hH : ∀ i j, i < 8 → j < 8 → 0 ≤ H i j ∧ H i j ≤ 10) (hcp : ∀ i, i < 8 → 0 ≤ cp i ∧ cp i ≤ 99) : ∀ t, t ≤ 8 → ∀ a c, a < 8 → c < 8 → 0 ≤ twF G co n H cp n2 t a c ∧ twF G co n H cp n2 t a c ≤ Bd t
  | 0, _ => fun a c _ _ => ⟨Int.le_refl 0, Int.le_refl 0⟩
  | t + 1, ht => by
    intro a c ha hc8
    have ih := twF_bd hG hc hH hcp (n := n) (n2 := n2) t (by omega)
    have h1 := twS_bd (n := n) (t := t) hG hc (lt := fun i => twF G co n H cp n2 t i c) (fun j hj => ih j c hj hc8) (by omega) ha
    have h2 := twS_bd (n := n2) (t := t) hH hcp (lt := fun j => twF G co n H cp n2 t a j) (fun j hj => ih a j ha hj) (by omega) hc8
    show 0 ≤ (if tw2 H cp n2 (pw 10 t) (twF G co n H cp n2 t) a c < tw1 G co n (pw 10 t) (twF G co n H cp n2 t) a c then tw2 H cp n2 (pw 10 t) (twF G co n H cp n2 t) a c else tw1 G co n (pw 10 t) (twF G co n H cp n2 t) a c) ∧ (if tw2 H cp n2 (pw 10 t) (twF G co n H cp n2 t) a c < tw1 G co n (pw 10 t) (twF G co n H cp n2 t) a c then tw2 H cp n2 (pw 10 t) (twF G co n H cp n2 t) a c else tw1 G co n (pw 10 t) (twF G co n H cp n2 t) a c) ≤ Bd (t + 1)
    split
    · exact h2
    · exact h1
