/-! numbers of rules; the best of all (specs72.py) -/
def pB (mw : Nat → Int) (d : Nat) : Bool := decide (d = 0) || !decide (mw (d - 1) = -9)
theorem pB_t {mw : Nat → Int} {d : Nat} : pB mw d = true ↔ d = 0 ∨ ¬ mw (d - 1) = -9 := by
  unfold pB
  rw [Bool.or_eq_true, decide_eq_true_iff]
  constructor
  · rintro (h | h)
    · exact Or.inl h
    · exact Or.inr (nd_t h)
  · rintro (h | h)
    · exact Or.inl h
    · exact Or.inr (by rw [decide_eq_false h]; rfl)
def chN (mw : Nat → Int) : Nat → Nat := nth (pB mw) 5
def bsN (mw : Nat → Int) : Nat := cn (pB mw) 5
theorem cnp (mw : Nat → Int) (d : Nat) : ((cn (pB mw) (d + 2) : Nat) : Int) = ((cn (pB mw) (d + 1) : Nat) : Int) + (if mw d = -9 then 0 else 1) := by
  have e := pB_t (mw := mw) (d := d + 1)
  rw [show d + 1 - 1 = d by omega] at e
  by_cases h : mw d = -9
  · rw [if_pos h, cn_f (fun z => by rcases e.mp z with y | y; omega; exact y h)]
    omega
  · rw [if_neg h, cn_t (e.mpr (Or.inr h))]
    omega
theorem bsN_pcm (mw : Nat → Int) : (bsN mw : Int) = pcm mw + 1 := by
  have e1 : cn (pB mw) 1 = 1 := cn_t (P := pB mw) (n := 0) rfl
  have c3 := cnp mw 3
  have c2 := cnp mw 2
  have c1 := cnp mw 1
  have c0 := cnp mw 0
  unfold bsN pcm
  generalize (if mw 0 = -9 then (0 : Int) else 1) = a0 at *
  generalize (if mw 1 = -9 then (0 : Int) else 1) = a1 at *
  generalize (if mw 2 = -9 then (0 : Int) else 1) = a2 at *
  generalize (if mw 3 = -9 then (0 : Int) else 1) = a3 at *
  have e1' : ((cn (pB mw) (0 + 1) : Nat) : Int) = 1 := by rw [show 0 + 1 = 1 from rfl, e1]; rfl
  simp only [Nat.reduceAdd] at c0 c1 c2 c3 e1'
  omega
theorem bs_pos (mw : Nat → Int) : 0 < bsN mw := by
  have := cn_lt_of (P := pB mw) (n := 5) (w := 0) (by omega) rfl
  unfold bsN
  omega
theorem bs_5 (mw : Nat → Int) : bsN mw ≤ 5 := cn_n _ _
theorem ch_at {mw : Nat → Int} {j : Nat} (h : j < bsN mw) : chN mw j < 5 ∧ pB mw (chN mw j) = true ∧ cn (pB mw) (chN mw j) = j := (nth_mem (pB mw) 5).at_ j h
theorem ch_of {mw : Nat → Int} {c : Nat} (h : c < 5) (hp : pB mw c = true) : ∃ j, j < bsN mw ∧ chN mw j = c := ⟨cn (pB mw) c, cn_lt_of h hp, nth_mem (pB mw) 5 c h hp⟩
theorem ch_0 (mw : Nat → Int) : chN mw 0 = 0 := nth_mem (pB mw) 5 0 (by omega) rfl
theorem ch_mono {mw : Nat → Int} {i j : Nat} (h : i < j) (hj : j < bsN mw) : chN mw i < chN mw j := by
  have a := ch_at (mw := mw) (j := i) (by omega)
  have b := ch_at hj
  refine Classical.byContradiction (fun z => ?_)
  have := cn_mono (pB mw) (m := chN mw j) (chN mw i) (by omega)
  omega
def nmb (mw : Nat → Int) : Nat → Nat → Nat
  | 0, _ => 0
  | n + 1, i => nmb mw n (i / bsN mw) * 5 + chN mw (i % bsN mw)
theorem nmb_s (mw : Nat → Int) (n i : Nat) : nmb mw (n + 1) i = nmb mw n (i / bsN mw) * 5 + chN mw (i % bsN mw) := rfl
theorem nmb_ch (mw : Nat → Int) (i : Nat) : chN mw (i % bsN mw) < 5 := (ch_at (Nat.mod_lt _ (bs_pos mw))).1
theorem nmb_lt (mw : Nat → Int) : ∀ n i, nmb mw n i < 5 ^ n
  | 0, _ => by show 0 < 5 ^ 0; decide
  | n + 1, i => by
    have ih := nmb_lt mw n (i / bsN mw)
    have := nmb_ch mw i
    rw [nmb_s, Nat.pow_succ]
    omega
theorem nmb_0 (mw : Nat → Int) : ∀ n, nmb mw n 0 = 0
  | 0 => rfl
  | n + 1 => by
    rw [nmb_s, Nat.zero_div, Nat.zero_mod, nmb_0 mw n, ch_0]
theorem nmb_mono (mw : Nat → Int) : ∀ n {i j}, i < j → j < bsN mw ^ n → nmb mw n i < nmb mw n j
  | 0, i, j, h, hj => by
    rw [Nat.pow_zero] at hj
    omega
  | n + 1, i, j, h, hj => by
    have bp := bs_pos mw
    have d1 := Nat.div_add_mod i (bsN mw)
    have d2 := Nat.div_add_mod j (bsN mw)
    have c1 := nmb_ch mw i
    have le : i / bsN mw ≤ j / bsN mw := Nat.div_le_div_right (by omega)
    have lt : j / bsN mw < bsN mw ^ n := Nat.div_lt_of_lt_mul (by rw [Nat.mul_comm, ← Nat.pow_succ]; exact hj)
    rw [nmb_s, nmb_s]
    by_cases e : i / bsN mw = j / bsN mw
    · rw [e] at d1 ⊢
      have := ch_mono (mw := mw) (i := i % bsN mw) (j := j % bsN mw) (by omega) (Nat.mod_lt _ bp)
      omega
    · have := nmb_mono mw n (show i / bsN mw < j / bsN mw by omega) lt
      omega
theorem dg_up {x n a : Nat} (h : a < n) : dg x (n + 1) a = dg (x / 5) n a := by
  rw [dg_t (by omega), dg_t h]
  unfold rs
  rw [Nat.div_div_eq_div_mul, show n + 1 - (a + 1) = n - (a + 1) + 1 by omega, Nat.pow_succ, Nat.mul_comm 5]
theorem dg_la (x n : Nat) : dg x (n + 1) n = ((x % 5 : Nat) : Int) := by
  rw [dg_t (by omega), rs_0 (by omega)]
theorem nmb_surj (mw : Nat → Int) : ∀ n x, x < 5 ^ n → hasM (dg x n) mw n → ∃ i, i < bsN mw ^ n ∧ nmb mw n i = x
  | 0, x, h, _ => by
    rw [Nat.pow_zero] at h
    exact ⟨0, by rw [Nat.pow_zero]; omega, by show 0 = x; omega⟩
  | n + 1, x, h, hm => by
    have bp := bs_pos mw
    rw [Nat.pow_succ] at h
    obtain ⟨i, hi, e⟩ := nmb_surj mw n (x / 5) (by omega) (fun a ha => by
      have := hm a (by omega)
      rw [dg_up ha] at this
      exact this)
    have hl := hm n (by omega)
    rw [dg_la] at hl
    obtain ⟨j, hj, ej⟩ := ch_of (mw := mw) (c := x % 5) (by omega) (pB_t.mpr (by
      rcases hl with z | z
      · exact Or.inl (by omega)
      · refine Or.inr ?_
        rw [show (((x % 5 : Nat) : Int) - 1).toNat = x % 5 - 1 by omega] at z
        exact z))
    refine ⟨i * bsN mw + j, ?_, ?_⟩
    · rw [Nat.pow_succ]
      have : (i + 1) * bsN mw ≤ bsN mw ^ n * bsN mw := Nat.mul_le_mul_right _ hi
      rw [Nat.add_mul, Nat.one_mul] at this
      omega
    · have q1 : (i * bsN mw + j) / bsN mw = i := by
        rw [Nat.mul_comm, Nat.mul_add_div bp, Nat.div_eq_of_lt hj, Nat.add_zero]
      have q2 : (i * bsN mw + j) % bsN mw = j := by
        rw [Nat.mul_comm, Nat.mul_add_mod, Nat.mod_eq_of_lt hj]
      rw [nmb_s, q1, q2, e, ej]
      omega
theorem nmb_dg (mw : Nat → Int) : ∀ n i, hasM (dg (nmb mw n i) n) mw n
  | 0, _ => fun a ha => absurd ha (by omega)
  | n + 1, i => fun a ha => by
    have c1 := nmb_ch mw i
    have ca := ch_at (mw := mw) (j := i % bsN mw) (Nat.mod_lt _ (bs_pos mw))
    by_cases e : a = n
    · subst e
      rw [dg_la, nmb_s, show (nmb mw a (i / bsN mw) * 5 + chN mw (i % bsN mw)) % 5 = chN mw (i % bsN mw) by omega]
      rcases pB_t.mp ca.2.1 with z | z
      · exact Or.inl (by omega)
      · by_cases z0 : chN mw (i % bsN mw) = 0
        · exact Or.inl (by omega)
        · refine Or.inr ?_
          rw [show ((chN mw (i % bsN mw) : Int) - 1).toNat = chN mw (i % bsN mw) - 1 by omega]
          exact z
    · rw [dg_up (by omega), nmb_s, show (nmb mw n (i / bsN mw) * 5 + chN mw (i % bsN mw)) / 5 = nmb mw n (i / bsN mw) by omega]
      exact nmb_dg mw n _ a (by omega)
/-- a number without some of its acts -/
def zr (keep : Nat → Bool) : Nat → Nat → Nat
  | 0, _ => 0
  | n + 1, x => zr keep n (x / 5) * 5 + (if keep n = true then x % 5 else 0)
theorem zr_s (keep : Nat → Bool) (n x : Nat) : zr keep (n + 1) x = zr keep n (x / 5) * 5 + (if keep n = true then x % 5 else 0) := rfl
theorem zr_c (keep : Nat → Bool) (n x : Nat) : (if keep n = true then x % 5 else 0) ≤ x % 5 := by
  split <;> omega
theorem zr_dg (keep : Nat → Bool) : ∀ n x a, a < n → dg (zr keep n x) n a = if keep a = true then dg x n a else 0
  | 0, _, _, h => absurd h (by omega)
  | n + 1, x, a, h => by
    have zc := zr_c keep n x
    by_cases e : a = n
    · subst e
      rw [dg_la, dg_la, zr_s, show (zr keep a (x / 5) * 5 + (if keep a = true then x % 5 else 0)) % 5 = (if keep a = true then x % 5 else 0) by omega]
      by_cases k : keep a = true
      · rw [if_pos k, if_pos k]
      · rw [if_neg k, if_neg k]
        rfl
    · rw [dg_up (by omega), dg_up (x := x) (by omega), zr_s, show (zr keep n (x / 5) * 5 + (if keep n = true then x % 5 else 0)) / 5 = zr keep n (x / 5) by omega]
      exact zr_dg keep n (x / 5) a (by omega)
theorem zr_le (keep : Nat → Bool) : ∀ n x, zr keep n x ≤ x
  | 0, _ => by show 0 ≤ _; omega
  | n + 1, x => by
    have zc := zr_c keep n x
    have := zr_le keep n (x / 5)
    rw [zr_s]
    omega
theorem zr_lt (keep : Nat → Bool) : ∀ n x a, a < n → ¬ keep a = true → ¬ dg x n a = 0 → zr keep n x < x
  | 0, _, _, h, _, _ => absurd h (by omega)
  | n + 1, x, a, h, hk, hd => by
    have zc := zr_c keep n x
    have zl := zr_le keep n (x / 5)
    rw [zr_s]
    by_cases e : a = n
    · subst e
      rw [dg_la] at hd
      rw [if_neg hk]
      omega
    · rw [dg_up (by omega)] at hd
      have := zr_lt keep n (x / 5) a (by omega) hk hd
      omega
/-- all numbers, all but idle ones, and the class's -/
noncomputable def foR (n : Nat) (G : Nat → Nat → Int) (co mw mc : Nat → Int) : Nat → Int × Nat × Nat
  | 0 => (-9, 0, 0)
  | x + 1 => lst (foR n G co mw mc x) (x : Int) n G co mw mc (dg x n)
def idl (n : Nat) (G : Nat → Nat → Int) (mw act : Nat → Int) : Prop := ∃ a, a < n ∧ ¬ act a = 0 ∧ ¬ mor (qA G act mw) n a
noncomputable def foI (n : Nat) (G : Nat → Nat → Int) (co mw mc : Nat → Int) : Nat → Int × Nat × Nat
  | 0 => (-9, 0, 0)
  | x + 1 => @ite _ (idl n G mw (dg x n)) (Classical.propDecidable _) (foI n G co mw mc x) (lst (foI n G co mw mc x) (x : Int) n G co mw mc (dg x n))
noncomputable def foC (n : Nat) (G : Nat → Nat → Int) (co mw mc : Nat → Int) : Nat → Int × Nat × Nat
  | 0 => (-9, 0, 0)
  | i + 1 => @ite _ (idl n G mw (dg (nmb mw n i) n)) (Classical.propDecidable _) (foC n G co mw mc i) (lst (foC n G co mw mc i) (nmb mw n i : Int) n G co mw mc (dg (nmb mw n i) n))
theorem foC_t {n : Nat} {G : Nat → Nat → Int} {co mw mc : Nat → Int} {i : Nat} (h : idl n G mw (dg (nmb mw n i) n)) : foC n G co mw mc (i + 1) = foC n G co mw mc i := if_pos h
theorem foC_f {n : Nat} {G : Nat → Nat → Int} {co mw mc : Nat → Int} {i : Nat} (h : ¬ idl n G mw (dg (nmb mw n i) n)) : foC n G co mw mc (i + 1) = lst (foC n G co mw mc i) (nmb mw n i : Int) n G co mw mc (dg (nmb mw n i) n) := if_neg h
theorem dom_s {u e N E Ny Ey : Nat} (he : ¬ e = 0) (h1 : u * Ey ≤ Ny * e) (h2 : N * e < u * E) : N * Ey ≤ Ny * E := by
  have a1 : (N * e) * Ey ≤ (u * E) * Ey := Nat.mul_le_mul_right _ (by omega)
  have a2 : (u * Ey) * E ≤ (Ny * e) * E := Nat.mul_le_mul_right _ h1
  refine Nat.le_of_mul_le_mul_right (c := e) ?_ (by omega)
  have e1 : N * Ey * e = N * e * Ey := by rw [Nat.mul_assoc, Nat.mul_comm Ey, ← Nat.mul_assoc]
  have e2 : u * E * Ey = u * Ey * E := by rw [Nat.mul_assoc, Nat.mul_comm E, ← Nat.mul_assoc]
  have e3 : Ny * E * e = Ny * e * E := by rw [Nat.mul_assoc, Nat.mul_comm E, ← Nat.mul_assoc]
  omega
theorem foR_dom {n : Nat} {G : Nat → Nat → Int} {co mw mc : Nat → Int} (hR : ∀ x, RB n G co mw mc (dg x n)) : ∀ x y, y < x → rOk n G mw (dg y n) → ¬ (foR n G co mw mc x).2.2 = 0 ∧ (foR n G co mw mc x).2.1 * rE n G co mw mc (dg y n) ≤ rN n G co mw mc (dg y n) * (foR n G co mw mc x).2.2
  | 0, _, h, _ => absurd h (by omega)
  | x + 1, y, h, ok => by
    have ih := foR_dom hR x
    show ¬ (lst (foR n G co mw mc x) (x : Int) n G co mw mc (dg x n)).2.2 = 0 ∧ (lst (foR n G co mw mc x) (x : Int) n G co mw mc (dg x n)).2.1 * _ ≤ _ * (lst (foR n G co mw mc x) (x : Int) n G co mw mc (dg x n)).2.2
    by_cases c : stC (foR n G co mw mc x) n G co mw mc (dg x n)
    · rw [lst_t c]
      have ne := (hR x).ne c.1
      refine ⟨by show ¬ rE n G co mw mc (dg x n) = 0; omega, ?_⟩
      show rN n G co mw mc (dg x n) * rE n G co mw mc (dg y n) ≤ rN n G co mw mc (dg y n) * rE n G co mw mc (dg x n)
      by_cases q : y = x
      · rw [q]
        exact Nat.le_refl _
      · have i1 := ih y (by omega) ok
        rcases c.2 with z | z
        · exact absurd z i1.1
        · exact dom_s i1.1 i1.2 z
    · rw [lst_f c]
      by_cases q : y = x
      · subst q
        refine ⟨fun z => c ⟨ok, Or.inl z⟩, ?_⟩
        refine Nat.le_of_not_lt (fun z => c ⟨ok, Or.inr z⟩)
      · exact ih y (by omega) ok
theorem foR_fI {n : Nat} {G : Nat → Nat → Int} {co mw mc : Nat → Int} (hR : ∀ x, RB n G co mw mc (dg x n)) : ∀ x, foR n G co mw mc x = foI n G co mw mc x
  | 0 => rfl
  | x + 1 => by
    have ih := foR_fI hR x
    show lst (foR n G co mw mc x) (x : Int) n G co mw mc (dg x n) = @ite _ (idl n G mw (dg x n)) (Classical.propDecidable _) (foI n G co mw mc x) (lst (foI n G co mw mc x) (x : Int) n G co mw mc (dg x n))
    by_cases q : idl n G mw (dg x n)
    · rw [if_pos q, ← ih]
      refine lst_f (fun c => ?_)
      obtain ⟨a, ha, h1, h2⟩ := q
      have lt := zr_lt (mrB (qA G (dg x n) mw) n) n x a ha (fun z => h2 (mrB_t.mp z)) h1
      have eq := idle_eq (co := co) (mc := mc) (act' := dg (zr (mrB (qA G (dg x n) mw) n) n x) n) (fun a ha hm => by rw [zr_dg _ n x a ha, if_pos (mrB_t.mpr hm)]) (fun a ha => by
        rw [zr_dg _ n x a ha]
        split
        · exact Or.inl rfl
        · exact Or.inr rfl) c.1
      have d := foR_dom hR x _ lt eq.1
      rw [eq.2.1, eq.2.2] at d
      rcases c.2 with z | z
      · exact d.1 z
      · have := d.2
        omega
    · rw [if_neg q, ih]
theorem foI_no {n : Nat} {G : Nat → Nat → Int} {co mw mc : Nat → Int} {x : Nat} (h : ¬ hasM (dg x n) mw n) : foI n G co mw mc (x + 1) = foI n G co mw mc x := by
  show @ite _ (idl n G mw (dg x n)) (Classical.propDecidable _) (foI n G co mw mc x) (lst (foI n G co mw mc x) (x : Int) n G co mw mc (dg x n)) = _
  rw [lst_f (fun c => h c.1.1)]
  split <;> rfl
theorem foI_gap {n : Nat} {G : Nat → Nat → Int} {co mw mc : Nat → Int} {x : Nat} : ∀ k, (∀ y, x ≤ y → y < x + k → ¬ hasM (dg y n) mw n) → foI n G co mw mc (x + k) = foI n G co mw mc x
  | 0, _ => rfl
  | k + 1, h => by
    rw [show x + (k + 1) = x + k + 1 by omega, foI_no (h (x + k) (by omega) (by omega))]
    exact foI_gap k (fun y h1 h2 => h y h1 (by omega))
theorem foR_no {n : Nat} {G : Nat → Nat → Int} {co mw mc : Nat → Int} {x : Nat} (h : ¬ hasM (dg x n) mw n) : foR n G co mw mc (x + 1) = foR n G co mw mc x := lst_f (fun c => h c.1.1)
theorem foR_gap {n : Nat} {G : Nat → Nat → Int} {co mw mc : Nat → Int} {x : Nat} : ∀ k, (∀ y, x ≤ y → y < x + k → ¬ hasM (dg y n) mw n) → foR n G co mw mc (x + k) = foR n G co mw mc x
  | 0, _ => rfl
  | k + 1, h => by
    rw [show x + (k + 1) = x + k + 1 by omega, foR_no (h (x + k) (by omega) (by omega))]
    exact foR_gap k (fun y h1 h2 => h y h1 (by omega))
theorem foI_fC {n : Nat} {G : Nat → Nat → Int} {co mw mc : Nat → Int} : ∀ i, i ≤ bsN mw ^ n → foI n G co mw mc (if i < bsN mw ^ n then nmb mw n i else 5 ^ n) = foC n G co mw mc i
  | 0, _ => by
    rw [if_pos (Nat.pow_pos (bs_pos mw)), nmb_0]
    rfl
  | i + 1, h => by
    have ih := foI_fC (n := n) (mw := mw) (G := G) (co := co) (mc := mc) i (by omega)
    rw [if_pos (by omega)] at ih
    have st : foI n G co mw mc (nmb mw n i + 1) = foC n G co mw mc (i + 1) := by
      show @ite _ (idl n G mw (dg (nmb mw n i) n)) (Classical.propDecidable _) (foI n G co mw mc (nmb mw n i)) (lst (foI n G co mw mc (nmb mw n i)) (nmb mw n i : Int) n G co mw mc (dg (nmb mw n i) n)) = @ite _ (idl n G mw (dg (nmb mw n i) n)) (Classical.propDecidable _) (foC n G co mw mc i) (lst (foC n G co mw mc i) (nmb mw n i : Int) n G co mw mc (dg (nmb mw n i) n))
      rw [ih]
    rw [← st]
    have l1 := nmb_lt mw n i
    have le : nmb mw n i + 1 ≤ (if i + 1 < bsN mw ^ n then nmb mw n (i + 1) else 5 ^ n) := by
      split
      · exact nmb_mono mw n (by omega) (by assumption)
      · omega
    have lt5 : (if i + 1 < bsN mw ^ n then nmb mw n (i + 1) else 5 ^ n) ≤ 5 ^ n := by
      split
      · exact Nat.le_of_lt (nmb_lt mw n (i + 1))
      · exact Nat.le_refl _
    have := foI_gap (G := G) (co := co) (mc := mc) (mw := mw) (n := n) (x := nmb mw n i + 1) ((if i + 1 < bsN mw ^ n then nmb mw n (i + 1) else 5 ^ n) - (nmb mw n i + 1)) (fun y h1 h2 hm => by
      obtain ⟨j, hj, e⟩ := nmb_surj mw n y (by omega) hm
      have ij : i < j := Classical.byContradiction (fun z => by
        by_cases q : j = i
        · subst q
          omega
        · have := nmb_mono mw n (show j < i by omega) (by omega)
          omega)
      have h2' : y < (if i + 1 < bsN mw ^ n then nmb mw n (i + 1) else 5 ^ n) := by omega
      by_cases q : i + 1 < bsN mw ^ n
      · rw [if_pos q] at h2'
        by_cases q2 : j = i + 1
        · subst q2
          omega
        · have := nmb_mono mw n (show i + 1 < j by omega) hj
          omega
      · omega)
    rw [show nmb mw n i + 1 + ((if i + 1 < bsN mw ^ n then nmb mw n (i + 1) else 5 ^ n) - (nmb mw n i + 1)) = (if i + 1 < bsN mw ^ n then nmb mw n (i + 1) else 5 ^ n) by omega] at this
    exact this
/-- the class's best is the reference's -/
theorem foC_fR {n : Nat} {G : Nat → Nat → Int} {co mw mc : Nat → Int} (hR : ∀ x, RB n G co mw mc (dg x n)) : foC n G co mw mc (bsN mw ^ n) = foR n G co mw mc (5 ^ n) := by
  rw [foR_fI hR, ← foI_fC (bsN mw ^ n) (Nat.le_refl _), if_neg (Nat.lt_irrefl _)]
theorem p58 {n : Nat} (h : n ≤ 8) : 5 ^ n ≤ 390625 := by
  have := Nat.pow_le_pow_right (n := 5) (by omega) h
  have e : 5 ^ 8 = 390625 := by decide
  omega
theorem foR_i {n : Nat} {G : Nat → Nat → Int} {co mw mc : Nat → Int} (h8 : n ≤ 8) (hR : ∀ x, RB n G co mw mc (dg x n)) : ∀ x, x ≤ 5 ^ n → stI (foR n G co mw mc x)
  | 0, _ => stI_0
  | x + 1, h => (foR_i h8 hR x (by omega)).s ⟨by omega, by have := p58 h8; omega⟩ (hR x)
theorem foC_i {n : Nat} {G : Nat → Nat → Int} {co mw mc : Nat → Int} (h8 : n ≤ 8) (hR : ∀ x, RB n G co mw mc (dg x n)) : ∀ i, stI (foC n G co mw mc i)
  | 0 => stI_0
  | i + 1 => by
    have ih := foC_i h8 hR i
    by_cases q : idl n G mw (dg (nmb mw n i) n)
    · rw [foC_t q]
      exact ih
    · rw [foC_f q]
      have := nmb_lt mw n i
      have := p58 h8
      exact ih.s ⟨by omega, by omega⟩ (hR _)
