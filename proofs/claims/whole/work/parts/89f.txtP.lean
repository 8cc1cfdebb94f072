/-! reading of the text, pure -/
def cmb (V P : Mv) : Mv := fun x => if x < 120 then V x else P x
abbrev fOK (T : Nat → Int) (n at_ : Nat) (mask : Int) : Prop := at_ < n ∧ (0 ≤ T at_ - 48 ∧ T at_ - 48 ≤ 9) ∧ ¬ oAnd (oShr mask (T at_ - 48)) 1 = 0
def figN (T : Nat → Int) (j : Nat) : Nat := (T j - 48).toNat
theorem fOK.v {T : Nat → Int} {n j : Nat} {mask : Int} (h : fOK T n j mask) : T j - 48 = (figN T j : Int) ∧ figN T j ≤ 9 := by
  have := h.2.1
  unfold figN
  omega
theorem fOK.b {T : Nat → Int} {n j : Nat} {mask : Int} (h : fOK T n j mask) : bit mask (figN T j) = true := (tst h.2.1).mp h.2.2
def oFk (t : Nat → Int) (a : Nat) : Nat → Int
  | 0 => 0
  | k + 1 => oOr (oFk t a k) (if t (a + 1 + k) = 0 then oShl 1 ((a + 1 + k : Nat) : Int) else 0)
def oWk (f : Nat → Int) : Nat → Int
  | 0 => 0
  | k + 1 => oOr (oWk f k) (if f k = 0 then 0 else oShl 1 (k : Int))
def oMk (f : Nat → Int) : Nat → Int
  | 0 => 0
  | k + 1 => oOr (oMk f k) (if f k = -9 then oShl 1 (k : Int) else 0)
def oFP (P : Mv) (a : Nat) : Int := if rLv P 3 (a : Int) < 10 then oFk (fun c => P 123 (192 + 8 * a + c)) a ((P 121 3).toNat - (a + 1)) else 0
def oWP (P : Mv) : Int := oWk (oFP P) ((P 121 3).toNat - 1)
def oMP (P : Mv) : Int := oMk (fun j => P 126 (12 + j)) 4
def allP (P : Mv) : Int := oShl 1 (P 121 3) - 1
theorem oFk_in (t : Nat → Int) (a : Nat) : ∀ k, in32 (oFk t a k)
  | 0 => by show in32 0; decide
  | k + 1 => oOr_in _ _
theorem oWk_in (f : Nat → Int) : ∀ k, in32 (oWk f k)
  | 0 => by show in32 0; decide
  | k + 1 => oOr_in _ _
theorem oMk_in (f : Nat → Int) : ∀ k, in32 (oMk f k)
  | 0 => by show in32 0; decide
  | k + 1 => oOr_in _ _
theorem oFP_in (P : Mv) (a : Nat) : in32 (oFP P a) := by
  unfold oFP
  split
  · exact oFk_in _ _ _
  · decide
theorem oFk_bit (t : Nat → Int) (a : Nat) {v : Nat} (hv : v < 32) : ∀ k, a + 1 + k ≤ 10 → (bit (oFk t a k) v = true ↔ a < v ∧ v < a + 1 + k ∧ t v = 0)
  | 0, _ => by
    rw [show oFk t a 0 = 0 from rfl, bit_0]
    constructor
    · intro h; exact absurd h (by decide)
    · intro h; omega
  | k + 1, h => by
    have ih := oFk_bit t a hv k (by omega)
    rw [show oFk t a (k + 1) = oOr (oFk t a k) (if t (a + 1 + k) = 0 then oShl 1 ((a + 1 + k : Nat) : Int) else 0) from rfl, bit_or, Bool.or_eq_true, ih]
    by_cases q : t (a + 1 + k) = 0
    · rw [if_pos q, bit_shl _ (by omega) v hv]
      constructor
      · rintro (h1 | h1)
        · exact ⟨h1.1, by omega, h1.2.2⟩
        · exact ⟨by omega, by omega, by rw [h1]; exact q⟩
      · rintro ⟨h1, h2, h3⟩
        by_cases z : v = a + 1 + k
        · exact Or.inr z
        · exact Or.inl ⟨h1, by omega, h3⟩
    · rw [if_neg q, bit_0]
      constructor
      · rintro (h1 | h1)
        · exact ⟨h1.1, by omega, h1.2.2⟩
        · exact absurd h1 (by decide)
      · rintro ⟨h1, h2, h3⟩
        refine Or.inl ⟨h1, ?_, h3⟩
        by_cases z : v = a + 1 + k
        · rw [z] at h3
          exact absurd h3 q
        · omega
theorem oWk_bit (f : Nat → Int) {v : Nat} (hv : v < 32) : ∀ k, k ≤ 10 → (bit (oWk f k) v = true ↔ v < k ∧ f v ≠ 0)
  | 0, _ => by
    rw [show oWk f 0 = 0 from rfl, bit_0]
    constructor
    · intro h; exact absurd h (by decide)
    · intro h; omega
  | k + 1, h => by
    have ih := oWk_bit f hv k (by omega)
    rw [show oWk f (k + 1) = oOr (oWk f k) (if f k = 0 then 0 else oShl 1 (k : Int)) from rfl, bit_or, Bool.or_eq_true, ih]
    by_cases q : f k = 0
    · rw [if_pos q, bit_0]
      constructor
      · rintro (h1 | h1)
        · exact ⟨by omega, h1.2⟩
        · exact absurd h1 (by decide)
      · rintro ⟨h1, h2⟩
        refine Or.inl ⟨?_, h2⟩
        by_cases z : v = k
        · rw [z] at h2
          exact absurd q h2
        · omega
    · rw [if_neg q, bit_shl _ (by omega) v hv]
      constructor
      · rintro (h1 | h1)
        · exact ⟨by omega, h1.2⟩
        · exact ⟨by omega, by rw [h1]; exact q⟩
      · rintro ⟨h1, h2⟩
        by_cases z : v = k
        · exact Or.inr z
        · exact Or.inl ⟨by omega, h2⟩
theorem oMk_bit (f : Nat → Int) {v : Nat} (hv : v < 32) : ∀ k, k ≤ 10 → (bit (oMk f k) v = true ↔ v < k ∧ f v = -9)
  | 0, _ => by
    rw [show oMk f 0 = 0 from rfl, bit_0]
    constructor
    · intro h; exact absurd h (by decide)
    · intro h; omega
  | k + 1, h => by
    have ih := oMk_bit f hv k (by omega)
    rw [show oMk f (k + 1) = oOr (oMk f k) (if f k = -9 then oShl 1 (k : Int) else 0) from rfl, bit_or, Bool.or_eq_true, ih]
    by_cases q : f k = -9
    · rw [if_pos q, bit_shl _ (by omega) v hv]
      constructor
      · rintro (h1 | h1)
        · exact ⟨by omega, h1.2⟩
        · exact ⟨by omega, by rw [h1]; exact q⟩
      · rintro ⟨h1, h2⟩
        by_cases z : v = k
        · exact Or.inr z
        · exact Or.inl ⟨by omega, h2⟩
    · rw [if_neg q, bit_0]
      constructor
      · rintro (h1 | h1)
        · exact ⟨by omega, h1.2⟩
        · exact absurd h1 (by decide)
      · rintro ⟨h1, h2⟩
        refine Or.inl ⟨?_, h2⟩
        by_cases z : v = k
        · rw [z] at h2
          exact absurd h2 q
        · omega
/-- one part of the text: the fault, or the next place and what is told so far -/
def stp (T : Nat → Int) (n : Nat) (P : Mv) (j : Nat) : Sum Nat (Nat × Mv) :=
  if T j = 83 ∧ ¬ oWP P = 0 then
    (if fOK T n (j + 1) (oWP P) then
      (if fOK T n (j + 2) (oFP P (figN T (j + 1))) then
        (if fOK T n (j + 3) (oShl 1 (11 - rLv P 3 (figN T (j + 1) : Int)) - 2) then .inr (j + 4, uV P 123 (192 + 8 * figN T (j + 1) + figN T (j + 2)) (figN T (j + 3) : Int)) else .inl (j + 3))
      else .inl (j + 2))
    else .inl (j + 1))
  else if T j = 67 ∧ ¬ P 120 7 = allP P then
    (if fOK T n (j + 1) (oAnd (allP P) (oXor (P 120 7) (-1))) then
      (if fOK T n (j + 2) 1023 then
        (if fOK T n (j + 3) 1023 then .inr (j + 4, uV (uV P 124 (24 + figN T (j + 1)) (10 * (figN T (j + 2) : Int) + (figN T (j + 3) : Int))) 120 7 (oOr (P 120 7) (oShl 1 (figN T (j + 1) : Int)))) else .inl (j + 3))
      else .inl (j + 2))
    else .inl (j + 1))
  else if T j = 75 ∧ ¬ P 120 8 = allP P then
    (if fOK T n (j + 1) (oAnd (allP P) (oXor (P 120 8) (-1))) then
      (if fOK T n (j + 2) 1022 then .inr (j + 3, uV (uV P 125 (24 + figN T (j + 1)) (figN T (j + 2) : Int)) 120 8 (oOr (P 120 8) (oShl 1 (figN T (j + 1) : Int)))) else .inl (j + 2))
    else .inl (j + 1))
  else if T j = 77 ∧ ¬ oMP P = 0 then
    (if fOK T n (j + 1) (oMP P) then
      (if fOK T n (j + 2) (oShr (allP P) 1) then
        (if fOK T n (j + 3) 1023 then
          (if fOK T n (j + 4) 1023 then .inr (j + 5, uV (uV P 127 (12 + figN T (j + 1)) (10 * (figN T (j + 3) : Int) + (figN T (j + 4) : Int))) 126 (12 + figN T (j + 1)) (figN T (j + 2) : Int)) else .inl (j + 4))
        else .inl (j + 3))
      else .inl (j + 2))
    else .inl (j + 1))
  else if T j = 76 ∧ P 122 3 = -9 then
    (if fOK T n (j + 1) 1023 then .inr (j + 2, uV P 122 3 (figN T (j + 1) : Int)) else .inl (j + 1))
  else .inl j
def RES {α β : Type} (r : Sum α β) (F : α → Prop) (G : β → Prop) : Prop := match r with
  | .inl f => F f
  | .inr p => G p
/-- told bits are of wears -/
def tb (c w : Int) : Prop := in32 c ∧ ∀ v, v < 32 → bit c v = true → (v : Int) < w
theorem tb_0 (w : Int) : tb 0 w := ⟨by decide, fun v _ h => absurd h (by rw [bit_0]; decide)⟩
theorem tb_or {c w : Int} {a : Nat} (h : tb c w) (ha : (a : Int) < w) (h10 : a < 10) : tb (oOr c (oShl 1 (a : Int))) w := ⟨oOr_in _ _, fun v hv q => by
  rw [bit_or, Bool.or_eq_true, bit_shl a h10 v hv] at q
  rcases q with q | q
  · exact h.2 v hv q
  · omega⟩
theorem allW {w : Int} (h : 2 ≤ w ∧ w ≤ 8) : in32 (oShl 1 w - 1) ∧ ∀ v, v < 32 → (bit (oShl 1 w - 1) v = true ↔ (v : Int) < w) := by
  obtain ⟨k, rfl⟩ : ∃ k : Nat, w = (k : Int) := ⟨w.toNat, by omega⟩
  refine ⟨?_, fun v hv => ?_⟩
  · have : ∀ k : Nat, k < 10 → in32 (oShl 1 (k : Int) - 1) := by decide
    exact this k (by omega)
  · rw [bit_all k (by omega) v hv]
    omega
theorem msk_bit {c w : Int} (h : 2 ≤ w ∧ w ≤ 8) {v : Nat} (hv : v < 32) : bit (oAnd (oShl 1 w - 1) (oXor c (-1))) v = true ↔ (v : Int) < w ∧ ¬ bit c v = true := by
  rw [bit_and, Bool.and_eq_true, (allW h).2 v hv, bit_not c hv]
  cases bit c v <;> simp
/-- all told: no figure is open -/
theorem told_all {c w : Int} (h : 2 ≤ w ∧ w ≤ 8) (ht : tb c w) : oAnd (oShl 1 w - 1) (oXor c (-1)) = 0 ↔ c = oShl 1 w - 1 := by
  constructor
  · intro e
    refine bit_ext ht.1 (allW h).1 (fun v hv => ?_)
    have h1 := msk_bit (c := c) h hv
    rw [e, bit_0] at h1
    have h2 := (allW h).2 v hv
    have h3 := ht.2 v hv
    cases q : bit c v with
    | true =>
      rw [q] at h3
      exact (h2.mpr (h3 rfl)).symm
    | false =>
      cases q2 : bit (oShl 1 w - 1) v with
      | true =>
        rw [q2] at h2
        exact absurd (h1.mpr ⟨h2.mp rfl, by rw [q]; decide⟩) (by decide)
      | false => rfl
  · intro e
    refine bit_ext (oAnd_in _ _) (by decide) (fun v hv => ?_)
    rw [bit_0, bit_and, bit_not c hv, e]
    cases bit (oShl 1 w - 1) v <;> rfl
theorem mnd_eq (f : Nat → Int) {mb : Int} (hb : ∀ v, v < 32 → (bit mb v = true ↔ v < 4 ∧ ¬ f v = -9)) : oAnd (oShl 1 4 - 1) (oXor mb (-1)) = oMk f 4 := by
  refine bit_ext (oAnd_in _ _) (oMk_in _ _) (fun v hv => ?_)
  have h1 := oMk_bit f hv 4 (by omega)
  have h2 := hb v hv
  have h3 : bit (oShl 1 4 - 1) v = true ↔ v < 4 := bit_all 4 (by omega) v hv
  rw [bit_and, bit_not mb hv]
  rw [Bool.eq_iff_iff, Bool.and_eq_true, h3, h1, Bool.not_eq_true', ← Bool.not_eq_true, h2]
  constructor
  · rintro ⟨x, y⟩
    exact ⟨x, Classical.byContradiction (fun z => y ⟨x, z⟩)⟩
  · rintro ⟨x, y⟩
    exact ⟨x, fun z => z.2 y⟩
theorem half_all : ∀ w : Nat, w < 9 → 2 ≤ w → oShl 1 ((w : Int) - 1) - 1 = oShr (oShl 1 (w : Int) - 1) 1 := by decide
theorem half_bit : ∀ w : Nat, w < 9 → 2 ≤ w → ∀ v, v < 10 → bit (oShr (oShl 1 (w : Int) - 1) 1) v = true → v + 1 < w := by decide
/-- chances that may still be told -/
theorem chn : ∀ l : Nat, l < 10 → ∀ v, v < 10 → (bit (oAnd 1022 (oShl 1 (10 - (l : Int) + 1) - 1)) v = bit (oShl 1 (11 - (l : Int)) - 2) v) ∧ (bit (oShl 1 (11 - (l : Int)) - 2) v = true → 1 ≤ v ∧ v + l ≤ 10) := by decide
theorem b1022 : ∀ v, v < 10 → bit 1022 v = true → 1 ≤ v := by decide
theorem fOK_congr {T : Nat → Int} {n j : Nat} {m1 m2 : Int} (h : ∀ v, v < 10 → bit m1 v = bit m2 v) : fOK T n j m1 ↔ fOK T n j m2 := by
  unfold fOK
  constructor
  · rintro ⟨a, c, d⟩
    refine ⟨a, c, (tst c).mpr ?_⟩
    rw [← h _ (by omega)]
    exact (tst c).mp d
  · rintro ⟨a, c, d⟩
    refine ⟨a, c, (tst c).mpr ?_⟩
    rw [h _ (by omega)]
    exact (tst c).mp d
