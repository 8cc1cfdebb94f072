/-! mornings that lead to others -/
def pk (e : Nat → Nat → Bool) : Nat → Nat → Nat → Bool
  | 0 => e
  | k + 1 => fun a b => pk e k a b || (pk e k a k && pk e k k b)
theorem pk_s {e : Nat → Nat → Bool} {k a b : Nat} : pk e (k + 1) a b = true ↔ pk e k a b = true ∨ (pk e k a k = true ∧ pk e k k b = true) := by
  show (pk e k a b || (pk e k a k && pk e k k b)) = true ↔ _
  rw [Bool.or_eq_true, Bool.and_eq_true]
theorem pk_e {e : Nat → Nat → Bool} {a b : Nat} (h : e a b = true) : ∀ k, pk e k a b = true
  | 0 => h
  | k + 1 => pk_s.mpr (Or.inl (pk_e h k))
theorem pk_tr {e : Nat → Nat → Bool} : ∀ (k : Nat) {a c b : Nat}, c < k → pk e k a c = true → pk e k c b = true → pk e k a b = true
  | 0, _, _, _, h, _, _ => absurd h (by omega)
  | k + 1, a, c, b, h, h1, h2 => by
    rw [pk_s] at h1 h2 ⊢
    by_cases q : c = k
    · subst q
      have g1 : pk e c a c = true := by
        rcases h1 with h1 | h1
        · exact h1
        · exact h1.1
      have g2 : pk e c c b = true := by
        rcases h2 with h2 | h2
        · exact h2
        · exact h2.2
      exact Or.inr ⟨g1, g2⟩
    · have hc : c < k := by omega
      rcases h1 with h1 | h1
      · rcases h2 with h2 | h2
        · exact Or.inl (pk_tr k hc h1 h2)
        · exact Or.inr ⟨pk_tr k hc h1 h2.1, h2.2⟩
      · rcases h2 with h2 | h2
        · exact Or.inr ⟨h1.1, pk_tr k hc h1.2 h2⟩
        · exact Or.inr ⟨h1.1, h2.2⟩
theorem pk_min {e : Nat → Nat → Bool} {T : Nat → Nat → Prop} (h1 : ∀ a b, e a b = true → T a b) (h2 : ∀ a c b, T a c → T c b → T a b) : ∀ k {a b : Nat}, pk e k a b = true → T a b
  | 0, a, b, h => h1 a b h
  | k + 1, a, b, h => by
    rw [pk_s] at h
    rcases h with h | h
    · exact pk_min h1 h2 k h
    · exact h2 a k b (pk_min h1 h2 k h.1) (pk_min h1 h2 k h.2)
def cn (P : Nat → Bool) : Nat → Nat
  | 0 => 0
  | n + 1 => cn P n + (if P n = true then 1 else 0)
theorem cn_t {P : Nat → Bool} {n : Nat} (h : P n = true) : cn P (n + 1) = cn P n + 1 := by
  show cn P n + (if P n = true then 1 else 0) = _
  rw [if_pos h]
theorem cn_f {P : Nat → Bool} {n : Nat} (h : ¬ P n = true) : cn P (n + 1) = cn P n := by
  show cn P n + (if P n = true then 1 else 0) = _
  rw [if_neg h]
  rfl
theorem cn_le {P Q : Nat → Bool} : ∀ n, (∀ i, i < n → P i = true → Q i = true) → cn P n ≤ cn Q n
  | 0, _ => Nat.le_refl 0
  | n + 1, h => by
    have ih := cn_le n (fun i hi => h i (by omega))
    by_cases p : P n = true
    · rw [cn_t p, cn_t (h n (by omega) p)]
      omega
    · rw [cn_f p]
      by_cases q : Q n = true
      · rw [cn_t q]
        omega
      · rw [cn_f q]
        exact ih
theorem cn_lt {P Q : Nat → Bool} {k : Nat} : ∀ n, k < n → (∀ i, i < n → P i = true → Q i = true) → ¬ P k = true → Q k = true → cn P n < cn Q n
  | 0, h, _, _, _ => absurd h (by omega)
  | n + 1, hk, h, h1, h2 => by
    by_cases e : k = n
    · subst e
      have := cn_le k (fun i hi => h i (by omega))
      rw [cn_f h1, cn_t h2]
      omega
    · have ih := cn_lt n (by omega) (fun i hi => h i (by omega)) h1 h2
      by_cases p : P n = true
      · rw [cn_t p, cn_t (h n (by omega) p)]
        omega
      · rw [cn_f p]
        by_cases q : Q n = true
        · rw [cn_t q]
          omega
        · rw [cn_f q]
          exact ih
theorem cn_n (P : Nat → Bool) : ∀ n, cn P n ≤ n
  | 0 => Nat.le_refl 0
  | n + 1 => by
    have := cn_n P n
    by_cases p : P n = true
    · rw [cn_t p]
      omega
    · rw [cn_f p]
      omega
theorem cn_mono (P : Nat → Bool) {m : Nat} : ∀ n, m ≤ n → cn P m ≤ cn P n
  | 0, h => by
    obtain rfl : m = 0 := by omega
    exact Nat.le_refl _
  | n + 1, h => by
    by_cases q : m = n + 1
    · rw [q]
      exact Nat.le_refl _
    · have := cn_mono P (m := m) n (by omega)
      by_cases p : P n = true
      · rw [cn_t p]
        omega
      · rw [cn_f p]
        exact this
/-- mem lists those of P below n, rising -/
def MEM (P : Nat → Bool) (n : Nat) (mem : Nat → Nat) : Prop := ∀ w, w < n → P w = true → mem (cn P w) = w
theorem MEM.at_ {P : Nat → Bool} {mem : Nat → Nat} : ∀ {n : Nat}, MEM P n mem → ∀ i, i < cn P n → mem i < n ∧ P (mem i) = true ∧ cn P (mem i) = i
  | 0, _, i, h => absurd h (Nat.not_lt_zero i)
  | n + 1, hm, i, h => by
    have hm2 : MEM P n mem := fun w hw => hm w (by omega)
    by_cases p : P n = true
    · rw [cn_t p] at h
      by_cases q : i = cn P n
      · subst q
        rw [hm n (by omega) p]
        exact ⟨by omega, p, rfl⟩
      · have := MEM.at_ hm2 i (by omega)
        exact ⟨by omega, this.2⟩
    · rw [cn_f p] at h
      have := MEM.at_ hm2 i h
      exact ⟨by omega, this.2⟩
theorem cn_lt_of {P : Nat → Bool} {n w : Nat} (h : w < n) (hp : P w = true) : cn P w < cn P n := by
  have h1 := cn_mono P (m := w + 1) n (by omega)
  rw [cn_t hp] at h1
  omega
theorem MEM.sum {P : Nat → Bool} {mem : Nat → Nat} (f : Nat → Int) : ∀ {n : Nat}, MEM P n mem → sumN (fun i => f (mem i)) (cn P n) = sumN (fun b => if P b = true then f b else 0) n
  | 0, _ => rfl
  | n + 1, hm => by
    have ih := MEM.sum f (n := n) (fun w hw => hm w (by omega))
    show _ = sumN (fun b => if P b = true then f b else 0) n + (if P n = true then f n else 0)
    by_cases p : P n = true
    · rw [cn_t p, if_pos p, ← ih]
      show _ + f (mem (cn P n)) = _
      rw [hm n (by omega) p]
    · rw [cn_f p, if_neg p, ← ih]
      omega
/-- one day's going on: tenths from each morning to the next -/
def GO (q : Nat → Nat → Int) (n : Nat) : Prop := (∀ a b, a < n → b < n → 0 ≤ q a b) ∧ (∀ a, a < n → sumN (q a) n = 10) ∧ 0 < n
def ed (q : Nat → Nat → Int) (n a b : Nat) : Bool := decide (a < n ∧ b < n ∧ 0 < q a b)
def re (q : Nat → Nat → Int) (n a b : Nat) : Bool := pk (ed q n) n a b
theorem ed_t {q : Nat → Nat → Int} {n a b : Nat} : ed q n a b = true ↔ a < n ∧ b < n ∧ 0 < q a b := decide_eq_true_iff
theorem re_b {q : Nat → Nat → Int} {n a b : Nat} (h : re q n a b = true) : a < n ∧ b < n := pk_min (e := ed q n) (T := fun a b => a < n ∧ b < n) (fun a b h => ⟨(ed_t.mp h).1, (ed_t.mp h).2.1⟩) (fun a c b h1 h2 => ⟨h1.1, h2.2⟩) n h
theorem re_e {q : Nat → Nat → Int} {n a b : Nat} (h1 : a < n) (h2 : b < n) (h3 : 0 < q a b) : re q n a b = true := pk_e (ed_t.mpr ⟨h1, h2, h3⟩) n
theorem re_tr {q : Nat → Nat → Int} {n a c b : Nat} (h1 : re q n a c = true) (h2 : re q n c b = true) : re q n a b = true := pk_tr n (re_b h1).2 h1 h2
theorem re_cl {q : Nat → Nat → Int} {n : Nat} {S : Nat → Prop} (h : ∀ a b, a < n → b < n → 0 < q a b → S a → S b) {a b : Nat} (hr : re q n a b = true) : S a → S b := pk_min (e := ed q n) (T := fun a b => S a → S b) (fun a b g => h a b (ed_t.mp g).1 (ed_t.mp g).2.1 (ed_t.mp g).2.2) (fun a c b h1 h2 h3 => h2 (h1 h3)) n hr
theorem sumN_pos {f : Nat → Int} : ∀ n, 0 < sumN f n → ∃ i, i < n ∧ 0 < f i
  | 0, h => absurd h (by show ¬ (0 : Int) < 0; omega)
  | n + 1, h => by
    by_cases q : 0 < f n
    · exact ⟨n, by omega, q⟩
    · have h' : 0 < sumN f n + f n := h
      obtain ⟨i, hi, hf⟩ := sumN_pos n (by omega : 0 < sumN f n)
      exact ⟨i, by omega, hf⟩
theorem GO.next {q : Nat → Nat → Int} {n a : Nat} (h : GO q n) (ha : a < n) : ∃ b, b < n ∧ 0 < q a b := sumN_pos n (by rw [h.2.1 a ha]; decide)
def rec_ (q : Nat → Nat → Int) (n y : Nat) : Prop := (∀ b, b < n → re q n y b = true → re q n b y = true) ∧ re q n y y = true
theorem rec_ex {q : Nat → Nat → Int} {n : Nat} (h : GO q n) : ∀ N a, a < n → cn (re q n a) n ≤ N → ∃ y, y < n ∧ re q n a y = true ∧ rec_ q n y := by
  intro N
  induction N with
  | zero =>
    intro a ha hc
    obtain ⟨b, hb, hq⟩ := h.next ha
    have := cn_lt_of (P := re q n a) hb (re_e ha hb hq)
    omega
  | succ N ih =>
    intro a ha hc
    obtain ⟨b, hb, hq⟩ := h.next ha
    have rab := re_e ha hb hq
    by_cases z : ∀ x, x < n → re q n b x = true → re q n x b = true
    · obtain ⟨c, hc2, hq2⟩ := h.next hb
      have rbc := re_e hb hc2 hq2
      exact ⟨b, hb, rab, z, re_tr rbc (z c hc2 rbc)⟩
    · obtain ⟨x, hx, z2⟩ : ∃ x, x < n ∧ ¬ (re q n b x = true → re q n x b = true) := by
        refine Classical.byContradiction (fun w => z (fun x hx => ?_))
        exact Classical.byContradiction (fun v => w ⟨x, hx, v⟩)
      have rbx : re q n b x = true := Classical.byContradiction (fun v => z2 (fun y => absurd y v))
      have nxb : ¬ re q n x b = true := fun v => z2 (fun _ => v)
      have rax := re_tr rab rbx
      have := cn_lt (P := re q n x) (Q := re q n a) (k := b) n hb (fun i hi w => re_tr rax w) nxb rab
      obtain ⟨y, hy, r1, r2⟩ := ih x hx (by omega)
      exact ⟨y, hy, re_tr rax r1, r2⟩
/-- mornings that come from wear 0 -/
def mor (q : Nat → Nat → Int) (n a : Nat) : Prop := a = 0 ∨ re q n 0 a = true
def com (q : Nat → Nat → Int) (n c : Nat) : Prop := mor q n c ∧ ∀ a, a < n → mor q n a → re q n a c = true
def evr (q : Nat → Nat → Int) (n c : Nat) : Prop := mor q n c ∧ rec_ q n c
theorem mor_re {q : Nat → Nat → Int} {n a b : Nat} (h : mor q n a) (hr : re q n a b = true) : mor q n b := by
  rcases h with h | h
  · subst h
    exact Or.inr hr
  · exact Or.inr (re_tr h hr)
theorem com_evr {q : Nat → Nat → Int} {n c : Nat} (hc : c < n) (h : com q n c) : evr q n c := ⟨h.1, fun b hb hr => h.2 b hb (mor_re h.1 hr), h.2 c hc h.1⟩
theorem evr_com {q : Nat → Nat → Int} {n c y : Nat} (hc : c < n) (h : com q n c) (hy : y < n) (he : evr q n y) : com q n y := ⟨he.1, fun a ha hm => re_tr (h.2 a ha hm) (he.2.1 c hc (h.2 y hy he.1))⟩
theorem evr_ex {q : Nat → Nat → Int} {n : Nat} (h : GO q n) : ∃ y, y < n ∧ evr q n y := by
  obtain ⟨y, hy, h1, h2⟩ := rec_ex h _ 0 h.2.2 (Nat.le_refl _)
  exact ⟨y, hy, Or.inr h1, h2⟩
theorem one_com {q : Nat → Nat → Int} {n y : Nat} (h : GO q n) (hy : y < n) (he : evr q n y) (h1 : ∀ x, x < n → evr q n x → re q n y x = true) : com q n y := by
  refine ⟨he.1, fun a ha hm => ?_⟩
  obtain ⟨x, hx, r1, r2⟩ := rec_ex h _ a ha (Nat.le_refl _)
  have ex : evr q n x := ⟨mor_re hm r1, r2⟩
  exact re_tr r1 (he.2.1 x hx (h1 x hx ex))
/-- the square of all that come for ever -/
def lam (q : Nat → Nat → Int) (mem : Nat → Nat) : Nat → Nat → Int := fun i j => (if i = j then 10 else 0) - q (mem i) (mem j)
theorem sumN_sub (f g : Nat → Int) (n : Nat) : sumN (fun i => f i - g i) n = sumN f n - sumN g n := by
  have := sumN_lin f g 1 1 n
  rw [Int.one_mul, Int.one_mul] at this
  rw [← this]
  exact sumN_congr n (fun i _ => by omega)
theorem lam_irr {q : Nat → Nat → Int} {n : Nat} {P : Nat → Bool} {mem : Nat → Nat} (h : GO q n) (hP : ∀ c, c < n → (P c = true ↔ com q n c)) (hm : MEM P n mem) : IRR (lam q mem) (cn P n) := by
  have cl : ∀ i b, i < cn P n → b < n → 0 < q (mem i) b → P b = true := fun i b hi hb hq => by
    have hi' := hm.at_ i hi
    have c := (hP _ hi'.1).mp hi'.2.1
    have r := re_e hi'.1 hb hq
    exact (hP b hb).mpr (evr_com hi'.1 c hb ⟨mor_re c.1 r, ⟨fun x hx hr => by
      have ev := com_evr hi'.1 c
      exact re_tr (ev.2.1 x hx (re_tr r hr)) r, re_tr ((com_evr hi'.1 c).2.1 b hb r) r⟩⟩)
  refine ⟨fun i j h1 h2 hne => ?_, fun i hi => ?_, fun i hi => ?_, fun S hS hT => ?_⟩
  · have := h.1 (mem i) (mem j) (hm.at_ i h1).1 (hm.at_ j h2).1
    show (if i = j then 10 else 0) - q (mem i) (mem j) ≤ 0
    rw [if_neg hne]
    omega
  · show sumN (fun j => (if i = j then 10 else 0) - q (mem i) (mem j)) (cn P n) = 0
    rw [sumN_sub, sumN_one (fun j => if i = j then (10 : Int) else 0) hi (fun j hj hne => if_neg (fun e => hne e.symm)), if_pos rfl, hm.sum (q (mem i))]
    have hi' := hm.at_ i hi
    rw [sumN_congr n (g := q (mem i)) (fun b hb => ?_), h.2.1 _ hi'.1]
    · rfl
    · by_cases p : P b = true
      · rw [if_pos p]
      · rw [if_neg p]
        have := h.1 (mem i) b hi'.1 hb
        have : ¬ 0 < q (mem i) b := fun z => p (cl i b hi hb z)
        omega
  · have := h.1 (mem i) (mem i) (hm.at_ i hi).1 (hm.at_ i hi).1
    show (if i = i then 10 else 0) - q (mem i) (mem i) ≤ 10
    rw [if_pos rfl]
    omega
  · obtain ⟨i, hSi, hi⟩ := hS
    obtain ⟨j, hSj, hj⟩ := hT
    refine Classical.byContradiction (fun no => ?_)
    have step : ∀ a b, a < n → b < n → 0 < q a b → (∃ x, x < cn P n ∧ S x ∧ mem x = a) → (∃ x, x < cn P n ∧ S x ∧ mem x = b) := fun a b ha hb hq ⟨x, hx, hs, hxa⟩ => by
      subst hxa
      have pb := cl x b hx hb hq
      have lt := cn_lt_of hb pb
      refine ⟨cn P b, lt, ?_, hm b hb pb⟩
      refine Classical.byContradiction (fun ns => no ⟨x, cn P b, hs, hx, ns, lt, ?_⟩)
      show (if x = cn P b then 10 else 0) - q (mem x) (mem (cn P b)) < 0
      rw [if_neg (fun (e : x = cn P b) => ns (by rw [← e]; exact hs)), hm b hb pb]
      omega
    have ci := (hP _ (hm.at_ i hi).1).mp (hm.at_ i hi).2.1
    have cj := (hP _ (hm.at_ j hj).1).mp (hm.at_ j hj).2.1
    obtain ⟨x, hx, hs, hxj⟩ := re_cl step (cj.2 _ (hm.at_ i hi).1 ci.1) ⟨i, hi, hSi, rfl⟩
    have e1 := (hm.at_ x hx).2.2
    have e2 := (hm.at_ j hj).2.2
    rw [hxj, e2] at e1
    exact hSj (by rw [e1]; exact hs)
