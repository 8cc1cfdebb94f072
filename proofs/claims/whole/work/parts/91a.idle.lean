/-! acts on mornings that never come (specs71.py) -/
theorem bd_congr {a a' : Nat → Nat → Int} {t : Nat} (h : ∀ i j, i < t → j < t → a i j = a' i j) : bd a t = bd a' t := dt_congr t (fun r l hr hl => h r l hr hl)
theorem bc_congr {a a' : Nat → Nat → Int} {t l j : Nat} (h : ∀ i j, i < t + 1 → j < t + 1 → a i j = a' i j) (hl : l < t) (hj : j < t + 1) : bc a t l j = bc a' t l j := by
  unfold bc
  rw [dt_congr t (R := a) (S := a') (s := fun i => if skp l i < t then skp l i else j) (t := fun i => if skp l i < t then skp l i else j) (fun r x hr hx => h r _ (by omega) (by split <;> omega))]
theorem xs_congr {a a' : Nat → Nat → Int} {k l : Nat} (h : ∀ i j, i < k → j < k → a i j = a' i j) (hl : l < k) : xs a k l = xs a' k l := by
  unfold xs
  by_cases q : l + 1 = k
  · rw [if_pos q, if_pos q]
    exact bd_congr (fun i j hi hj => h j i (by omega) (by omega))
  · rw [if_neg q, if_neg q, bc_congr (a := trp a) (a' := trp a') (t := k - 1) (l := l) (j := k - 1) (fun i j hi hj => h j i (by omega) (by omega)) (by omega) (by omega)]
/-- the same on all mornings that come -/
def sMo (q q' : Nat → Nat → Int) (n : Nat) : Prop := ∀ a b, a < n → b < n → mor q n a → q' a b = q a b
theorem sMo.re1 {q q' : Nat → Nat → Int} {n : Nat} (h : sMo q q' n) {a b : Nat} (hr : re q n a b = true) : mor q n a → re q' n a b = true ∧ mor q n b := pk_min (e := ed q n) (T := fun a b => mor q n a → re q' n a b = true ∧ mor q n b) (fun a b g hm => by
  have e := ed_t.mp g
  exact ⟨re_e e.1 e.2.1 (by rw [h a b e.1 e.2.1 hm]; exact e.2.2), mor_re hm (re_e e.1 e.2.1 e.2.2)⟩) (fun a c b h1 h2 hm => by
  have x1 := h1 hm
  have x2 := h2 x1.2
  exact ⟨re_tr x1.1 x2.1, x2.2⟩) n hr
theorem sMo.re2 {q q' : Nat → Nat → Int} {n : Nat} (h : sMo q q' n) {a b : Nat} (hr : re q' n a b = true) : mor q n a → re q n a b = true ∧ mor q n b := pk_min (e := ed q' n) (T := fun a b => mor q n a → re q n a b = true ∧ mor q n b) (fun a b g hm => by
  have e := ed_t.mp g
  have p : 0 < q a b := by rw [← h a b e.1 e.2.1 hm]; exact e.2.2
  exact ⟨re_e e.1 e.2.1 p, mor_re hm (re_e e.1 e.2.1 p)⟩) (fun a c b h1 h2 hm => by
  have x1 := h1 hm
  have x2 := h2 x1.2
  exact ⟨re_tr x1.1 x2.1, x2.2⟩) n hr
theorem sMo.reE {q q' : Nat → Nat → Int} {n : Nat} (h : sMo q q' n) {a b : Nat} (hm : mor q n a) : re q' n a b = re q n a b := by
  rw [Bool.eq_iff_iff]
  exact ⟨fun z => (h.re2 z hm).1, fun z => (h.re1 z hm).1⟩
theorem sMo.moE {q q' : Nat → Nat → Int} {n : Nat} (h : sMo q q' n) (a : Nat) : mor q' n a ↔ mor q n a := by
  have e := h.reE (a := 0) (b := a) (Or.inl rfl)
  unfold mor
  rw [e]
theorem sMo.coE {q q' : Nat → Nat → Int} {n : Nat} (h : sMo q q' n) : comB q' n = comB q n := funext (fun c => by
  rw [Bool.eq_iff_iff, comB_t, comB_t]
  constructor
  · intro z
    exact ⟨(h.moE c).mp z.1, fun a ha hm => by rw [← h.reE hm]; exact z.2 a ha ((h.moE a).mpr hm)⟩
  · intro z
    exact ⟨(h.moE c).mpr z.1, fun a ha hm => by
      have m := (h.moE a).mp hm
      rw [h.reE m]
      exact z.2 a ha m⟩)
theorem sMo.kc {q q' : Nat → Nat → Int} {n : Nat} (h : sMo q q' n) : kC q' n = kC q n := by
  unfold kC
  rw [h.coE]
theorem sMo.xc {q q' : Nat → Nat → Int} {n : Nat} (h : sMo q q' n) {i : Nat} (hi : i < kC q n) : xC q' n i = xC q n i := by
  unfold xC
  rw [h.coE, h.kc]
  refine xs_congr (fun x y hx hy => ?_) hi
  have ax := (nth_mem (comB q n) n).at_ x hx
  have ay := (nth_mem (comB q n) n).at_ y hy
  show (if x = y then 10 else 0) - q' _ _ = (if x = y then 10 else 0) - q _ _
  rw [h _ _ ax.1 ay.1 (comB_t.mp ax.2.1).1]
theorem sMo.dn {q q' : Nat → Nat → Int} {n : Nat} (h : sMo q q' n) : dnC q' n = dnC q n := by
  unfold dnC
  rw [h.kc]
  exact sumN_congr _ (fun i hi => h.xc hi)
theorem sMo.up {q q' : Nat → Nat → Int} {n : Nat} {pr pr' : Nat → Int} (h : sMo q q' n) (hp : ∀ a, a < n → mor q n a → pr' a = pr a) : upC q' n pr' = upC q n pr := by
  unfold upC
  rw [h.kc, h.coE]
  refine sumN_congr _ (fun i hi => ?_)
  have ai := (nth_mem (comB q n) n).at_ i hi
  show xC q' n i * pr' _ = xC q n i * pr _
  rw [h.xc hi, hp _ ai.1 (comB_t.mp ai.2.1).1]
/-- a rule without the acts on mornings that never come costs the same -/
theorem idle_eq {n : Nat} {G : Nat → Nat → Int} {co mw mc act act' : Nat → Int} (h1 : ∀ a, a < n → mor (qA G act mw) n a → act' a = act a) (h2 : ∀ a, a < n → act' a = act a ∨ act' a = 0) (ok : rOk n G mw act) : rOk n G mw act' ∧ rN n G co mw mc act' = rN n G co mw mc act ∧ rE n G co mw mc act' = rE n G co mw mc act := by
  have s : sMo (qA G act mw) (qA G act' mw) n := fun a b ha hb hm => by
    unfold qA stA
    rw [h1 a ha hm]
  have eu : rU n G co mw mc act' = rU n G co mw mc act := by
    unfold rU
    rw [s.up (pr := prA co mc act mw) (pr' := prA co mc act' mw) (fun a ha hm => by
      unfold prA stA
      rw [h1 a ha hm])]
  have ed : rD n G mw act' = rD n G mw act := by
    unfold rD
    rw [s.dn]
  refine ⟨⟨fun a ha => ?_, by rw [s.kc]; exact ok.2⟩, by unfold rN; rw [eu, ed], by unfold rE; rw [eu, ed]⟩
  rcases h2 a ha with e | e
  · rw [e]
    exact ok.1 a ha
  · exact Or.inl e
