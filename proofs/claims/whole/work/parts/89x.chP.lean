/-! rules: where a morning runs, what it costs -/
theorem tst1 {m v : Int} (h : 0 ≤ v ∧ v ≤ 9) : oAnd (oShr m v) 1 = 1 ↔ bit m v.toNat = true := by
  have h0 := tst (m := m) h
  constructor
  · intro e
    exact h0.mp (by rw [e]; decide)
  · intro e
    have n0 := h0.mpr e
    refine bit_ext (oAnd_in _ _) (by decide) (fun w hw => ?_)
    rw [bit_and]
    have b1 : ∀ w, w < 32 → bit 1 w = decide (w = 0) := by decide
    rw [b1 w hw]
    by_cases q : w = 0
    · subst q
      rw [show decide (0 = 0) = true from rfl, Bool.and_true]
      refine Classical.byContradiction (fun z => n0 (bit_ext (oAnd_in _ _) (by decide) (fun x hx => ?_)))
      rw [bit_and, bit_0, b1 x hx]
      by_cases p : x = 0
      · subst p
        rw [show decide (0 = 0) = true from rfl, Bool.and_true]
        exact Bool.not_eq_true _ ▸ z
      · rw [show decide (x = 0) = false from decide_eq_false p, Bool.and_false]
    · rw [show decide (w = 0) = false from decide_eq_false q, Bool.and_false]
/-- an int as a set -/
def setb (x : Int) (f : Nat → Bool) : Prop := in32 x ∧ ∀ v, v < 32 → bit x v = f v
theorem setb_or {x y : Int} {f g : Nat → Bool} (h1 : setb x f) (h2 : setb y g) : setb (oOr x y) (fun v => f v || g v) := ⟨oOr_in _ _, fun v hv => by rw [bit_or, h1.2 v hv, h2.2 v hv]⟩
theorem setb_and {x y : Int} {f g : Nat → Bool} (h1 : setb x f) (h2 : setb y g) : setb (oAnd x y) (fun v => f v && g v) := ⟨oAnd_in _ _, fun v hv => by rw [bit_and, h1.2 v hv, h2.2 v hv]⟩
theorem setb_shl {k : Nat} (hk : k < 10) : setb (oShl 1 (k : Int)) (fun v => decide (v = k)) := ⟨oShl_in _ _, fun v hv => by
  rw [Bool.eq_iff_iff, bit_shl k hk v hv, decide_eq_true_iff]⟩
theorem setb_0 : setb 0 (fun _ => false) := ⟨by decide, fun v _ => bit_0 v⟩
theorem setb_c {x : Int} {f g : Nat → Bool} (h : setb x f) (e : ∀ v, v < 32 → f v = g v) : setb x g := ⟨h.1, fun v hv => (h.2 v hv).trans (e v hv)⟩
theorem setb_t {x : Int} {f : Nat → Bool} (h : setb x f) {v : Nat} (hv : v ≤ 9) : (¬ oAnd (oShr x (v : Int)) 1 = 0) ↔ f v = true := by
  rw [tst (by omega), Int.toNat_natCast, h.2 v (by omega)]
theorem setb_t1 {x : Int} {f : Nat → Bool} (h : setb x f) {v : Nat} (hv : v ≤ 9) : oAnd (oShr x (v : Int)) 1 = 1 ↔ f v = true := by
  rw [tst1 (by omega), Int.toNat_natCast, h.2 v (by omega)]
def stA (act mw : Nat → Int) (a : Nat) : Nat := if act a = 0 then a else (mw (act a - 1).toNat).toNat
def qA (G : Nat → Nat → Int) (act mw : Nat → Int) (a b : Nat) : Int := G (stA act mw a) b
def prA (co mc act mw : Nat → Int) (a : Nat) : Int := co (stA act mw a) + (if act a = 0 then 0 else mc (act a - 1).toNat)
def hasM (act mw : Nat → Int) (n : Nat) : Prop := ∀ a, a < n → act a = 0 ∨ ¬ mw (act a - 1).toNat = -9
/-- a machine's going on (G), and acts of a rule -/
def RB (n : Nat) (G : Nat → Nat → Int) (co mw mc act : Nat → Int) : Prop := PB n G co mw mc ∧ (∀ i, i < n → sumN (G i) n = 10) ∧ (∀ i j, j < i → i < 8 → G i j = 0) ∧ (∀ a, a < 8 → 0 ≤ act a ∧ act a ≤ 4)
theorem RB.st {n : Nat} {G : Nat → Nat → Int} {co mw mc act : Nat → Int} (h : RB n G co mw mc act) (hm : hasM act mw n) {a : Nat} (ha : a < n) : stA act mw a < n := by
  have h8 := h.1.2.1
  have hb := h.2.2.2 a (by omega)
  unfold stA
  split
  · exact ha
  · rename_i q
    have := hm a ha
    have mb := h.1.2.2.2.2.1 (act a - 1).toNat (by omega)
    omega
theorem RB.go {n : Nat} {G : Nat → Nat → Int} {co mw mc act : Nat → Int} (h : RB n G co mw mc act) (hm : hasM act mw n) : GO (qA G act mw) n := by
  have h8 := h.1.2.1
  have h2 := h.1.1
  refine ⟨fun a b ha hb => ?_, fun a ha => ?_, by omega⟩
  · have := h.st hm ha
    exact (h.1.2.2.1 (stA act mw a) b (by omega) (by omega)).1
  · exact h.2.1 _ (h.st hm ha)
theorem RB.pr {n : Nat} {G : Nat → Nat → Int} {co mw mc act : Nat → Int} (h : RB n G co mw mc act) (hm : hasM act mw n) {a : Nat} (ha : a < n) : 0 ≤ prA co mc act mw a ∧ prA co mc act mw a ≤ 198 := by
  have h8 := h.1.2.1
  have hs := h.st hm ha
  have hc := h.1.2.2.2.1 (stA act mw a) (by omega)
  have hb := h.2.2.2 a (by omega)
  unfold prA
  split
  · omega
  · have := h.1.2.2.2.2.2 (act a - 1).toNat (by omega)
    omega
def nth (P : Nat → Bool) : Nat → Nat → Nat
  | 0, _ => 0
  | n + 1, i => if P n = true ∧ i = cn P n then n else nth P n i
theorem nth_mem (P : Nat → Bool) : ∀ n, MEM P n (nth P n)
  | 0 => fun w hw => absurd hw (by omega)
  | n + 1 => fun w hw hp => by
    show (if P n = true ∧ cn P w = cn P n then n else nth P n (cn P w)) = w
    by_cases q : w = n
    · subst q
      rw [if_pos ⟨hp, rfl⟩]
    · rw [if_neg (fun z => by have := cn_lt_of (P := P) (n := n) (w := w) (by omega) hp; omega)]
      exact nth_mem P n w (by omega) hp
theorem MEM.same {P : Nat → Bool} {n : Nat} {f g : Nat → Nat} (h1 : MEM P n f) (h2 : MEM P n g) {i : Nat} (hi : i < cn P n) : f i = g i := by
  have a := h1.at_ i hi
  have := h2 _ a.1 a.2.1
  rw [a.2.2] at this
  exact this.symm
theorem cn_congr {P Q : Nat → Bool} {n : Nat} (h : ∀ i, i < n → P i = Q i) : cn P n = cn Q n := Nat.le_antisymm (cn_le n (fun i hi z => by rw [← h i hi]; exact z)) (cn_le n (fun i hi z => by rw [h i hi]; exact z))
noncomputable def comB (q : Nat → Nat → Int) (n c : Nat) : Bool := @decide (com q n c) (Classical.propDecidable _)
theorem comB_t {q : Nat → Nat → Int} {n c : Nat} : comB q n c = true ↔ com q n c := @decide_eq_true_iff _ (Classical.propDecidable _)
noncomputable def kC (q : Nat → Nat → Int) (n : Nat) : Nat := cn (comB q n) n
noncomputable def xC (q : Nat → Nat → Int) (n i : Nat) : Int := xs (lam q (nth (comB q n) n)) (kC q n) i
noncomputable def upC (q : Nat → Nat → Int) (n : Nat) (pr : Nat → Int) : Int := sumN (fun i => xC q n i * pr (nth (comB q n) n i)) (kC q n)
noncomputable def dnC (q : Nat → Nat → Int) (n : Nat) : Int := sumN (xC q n) (kC q n)
theorem lamC {q : Nat → Nat → Int} {n : Nat} (h : GO q n) : IRR (lam q (nth (comB q n) n)) (kC q n) := lam_irr h (fun c _ => comB_t) (nth_mem _ n)
theorem ten_b {t : Nat} (h : t ≤ 7) : 1 ≤ ten t ∧ ten t ≤ 10000000 := by
  have : t = 0 ∨ t = 1 ∨ t = 2 ∨ t = 3 ∨ t = 4 ∨ t = 5 ∨ t = 6 ∨ t = 7 := by omega
  rcases this with rfl | rfl | rfl | rfl | rfl | rfl | rfl | rfl <;> decide
theorem xC_b {q : Nat → Nat → Int} {n : Nat} (h : GO q n) (hn : n ≤ 8) {i : Nat} (hi : i < kC q n) : 0 < xC q n i ∧ xC q n i ≤ 10000000 := by
  have hk : kC q n ≤ n := cn_n _ _
  have e := share_eq (lamC h) i hi
  refine ⟨e.2, ?_⟩
  show xs _ _ i ≤ _
  rw [e.1]
  have := (msw_irr (lamC h) (i := i) (kC q n - 1 - i) (by omega)).lj.bd10 (kC q n - 1) (by omega)
  have := ten_b (t := kC q n - 1) (by omega)
  omega
theorem dnC_b {q : Nat → Nat → Int} {n : Nat} (h : GO q n) (hn : n ≤ 8) (hk : 0 < kC q n) : 0 < dnC q n ∧ dnC q n ≤ 80000000 := by
  have hk8 : kC q n ≤ n := cn_n _ _
  have key : ∀ k, k ≤ kC q n → 0 ≤ sumN (xC q n) k ∧ sumN (xC q n) k ≤ 10000000 * (k : Int) ∧ (0 < k → 0 < sumN (xC q n) k) := by
    intro k
    induction k with
    | zero => exact fun _ => ⟨Int.le_refl 0, by show (0 : Int) ≤ _; omega, fun z => absurd z (by omega)⟩
    | succ k ih =>
      intro hk2
      have i1 := ih (by omega)
      have i2 := xC_b h hn (i := k) (by omega)
      show 0 ≤ sumN (xC q n) k + xC q n k ∧ sumN (xC q n) k + xC q n k ≤ _ ∧ (_ → 0 < sumN (xC q n) k + xC q n k)
      omega
  have := key (kC q n) (Nat.le_refl _)
  unfold dnC
  omega
theorem upC_b {q : Nat → Nat → Int} {n : Nat} {pr : Nat → Int} (h : GO q n) (hn : n ≤ 8) (hp : ∀ a, a < n → 0 ≤ pr a ∧ pr a ≤ 198) : 0 ≤ upC q n pr ∧ upC q n pr ≤ 15840000000 := by
  have hk8 : kC q n ≤ n := cn_n _ _
  have key : ∀ k, k ≤ kC q n → 0 ≤ sumN (fun i => xC q n i * pr (nth (comB q n) n i)) k ∧ sumN (fun i => xC q n i * pr (nth (comB q n) n i)) k ≤ 1980000000 * (k : Int) := by
    intro k
    induction k with
    | zero => exact fun _ => ⟨Int.le_refl 0, by show (0 : Int) ≤ _; omega⟩
    | succ k ih =>
      intro hk2
      have i1 := ih (by omega)
      have i2 := xC_b h hn (i := k) (by omega)
      have i3 := hp _ ((nth_mem (comB q n) n).at_ k (by unfold kC at hk2; omega)).1
      have i4 := mulb (x := xC q n k) (y := pr (nth (comB q n) n k)) (A := 10000000) (B := 198) ⟨by omega, i2.2⟩ i3
      show 0 ≤ sumN (fun i => xC q n i * pr (nth (comB q n) n i)) k + xC q n k * pr (nth (comB q n) n k) ∧ sumN (fun i => xC q n i * pr (nth (comB q n) n i)) k + xC q n k * pr (nth (comB q n) n k) ≤ _
      omega
  have := key (kC q n) (Nat.le_refl _)
  unfold upC
  omega
