/-! SOUNDNESS, 7: one instruction -/
theorem tw_mem {q : Nat} {w : Cond} (h : tw q = some w) : w ∈ lw_tbl := by
  unfold tw at h
  have h := List.mem_of_getElem? h
  have hs : ∀ (l : List (MethodName × Nat)), (∀ x ∈ l, x ∈ lw_privs) → w ∈ k2_sels l → w ∈ lw_tbl := fun l hl hw => by
    obtain ⟨x, hx, e⟩ := List.mem_map.mp hw
    exact List.mem_append_left _ (List.mem_map.mpr ⟨x, hl x hx, e⟩)
  have ht : w ∈ tables_1 → w ∈ lw_tbl := fun hw => List.mem_append_right _ hw
  generalize q / 256 = k at h
  match k, h with
  | 0, h => exact ht (by unfold tables_1; simp only [List.mem_append]; exact Or.inl h)
  | 1, h => exact ht (by unfold tables_1; simp only [List.mem_append]; exact Or.inr (Or.inl h))
  | 2, h => exact ht (by unfold tables_1; simp only [List.mem_append]; exact Or.inr (Or.inr (Or.inl h)))
  | 3, h => exact ht (by unfold tables_1; simp only [List.mem_append]; exact Or.inr (Or.inr (Or.inr (Or.inl h))))
  | 4, h => exact ht (by unfold tables_1; simp only [List.mem_append]; exact Or.inr (Or.inr (Or.inr (Or.inr (Or.inl h)))))
  | 5, h => exact ht (by unfold tables_1; simp only [List.mem_append]; exact Or.inr (Or.inr (Or.inr (Or.inr (Or.inr (Or.inl h))))))
  | 6, h => exact ht (by unfold tables_1; simp only [List.mem_append]; exact Or.inr (Or.inr (Or.inr (Or.inr (Or.inr (Or.inr h))))))
  | 7, h => exact hs _ (fun x hx => by unfold lw_privs; simp only [List.mem_append]; exact Or.inl hx) h
  | 8, h => exact hs _ (fun x hx => by unfold lw_privs; simp only [List.mem_append]; exact Or.inr (Or.inl hx)) h
  | 9, h => exact hs _ (fun x hx => by unfold lw_privs; simp only [List.mem_append]; exact Or.inr (Or.inr (Or.inl hx))) h
  | 10, h => exact hs _ (fun x hx => by unfold lw_privs; simp only [List.mem_append]; exact Or.inr (Or.inr (Or.inr (Or.inl hx)))) h
  | 11, h => exact hs _ (fun x hx => by unfold lw_privs; simp only [List.mem_append]; exact Or.inr (Or.inr (Or.inr (Or.inr (Or.inl hx))))) h
  | 12, h => exact hs _ (fun x hx => by unfold lw_privs; simp only [List.mem_append]; exact Or.inr (Or.inr (Or.inr (Or.inr (Or.inr hx))))) h
  | k + 13, h => exact absurd h List.not_mem_nil
theorem tw_gw {q : Nat} {w : Cond} (h : tw q = some w) (hg : goodWord w = true) : w ∈ gw := List.mem_filter.mpr ⟨tw_mem h, hg⟩
theorem g_over : ∀ y, (y = 2 ∨ y = 3 ∨ y = 5 ∨ y = 7) → Cond.arrayOver (.object (Rc y)) ∈ lw_tbl := by
  intro y hy
  rcases hy with rfl | rfl | rfl | rfl <;> decide +kernel
theorem g_over2 : Cond.arrayOver (.array .int) ∈ lw_tbl := by decide +kernel
theorem over2_use {A : Array Value} {U : State} (h : va_Nw (.arrayOver (.array .int)) U) : (Cond.arrayOver (.array .int)).before A U = true := h
theorem g_m1s : Cond.static Lib.MathLoose.max_long.x ∈ gw := by decide +kernel
theorem g_m2s : Cond.static Lib.MathLoose.min_long.x ∈ gw := by decide +kernel
theorem g_m3s : Cond.static Lib.Math.max.name ∈ gw := by decide +kernel
theorem g_mi : Cond.initialized "java/lang/Math" ∈ gw := by decide +kernel
theorem g_m1c : Cond.code Lib.MathLoose.max_long.x Lib.MathLoose.max_long.code 4 (some .long) ∈ gw := by decide +kernel
theorem g_m2c : Cond.code Lib.MathLoose.min_long.x Lib.MathLoose.min_long.code 4 (some .long) ∈ gw := by decide +kernel
theorem g_m3c : Cond.code Lib.Math.max.name Lib.Math.max.code 2 (some .int) ∈ gw := by decide +kernel
def OKA : Prop := ∀ m pc e, cdd m pc = some e → okI m pc e = true
/-- what holds in a body of a method: the machine, the code, the words, the classes, the script -/
def BC (X : Cx) (p : Program) (s : State) (mid : MethodId) (args : Array Value) (meth : Method) (c : Code) (m : Nat) : Prop :=
  p.tables.exec = Jvm.exec ∧ c.code = bM m ∧ c.maxLocals = mL m ∧ s.vm.findClass (yM m).cls = some mid.cls ∧ (∀ w ∈ gw, w.before args s = true) ∧ SF X s ∧ va_X X.1 (xL X) (xS X) s s.heap ∧ X.1 < xB X ∧ xB X ≤ s.heap.size ∧ (m = 0 ∨ meth.name = (yM m).name)
theorem ok_dec {m pc : Nat} {e : En} (h : okI m pc e = true) : decode (bM m) pc = .ok (e.1, e.2.1 - pc) ∧ (isSw e.1 = false → e.2.1 = pc + ilen e.1) ∧ okW m pc e = true := by
  simp only [okI, Bool.and_eq_true, decide_eq_true_eq, Bool.or_eq_true] at h
  refine ⟨h.1, fun q => ?_, h.2.2⟩
  rcases h.2.1 with z | z
  · rw [z] at q; cases q
  · exact Nat.eq_of_beq_eq_true z
theorem ok_dec1 {m pc : Nat} {e : En} (h : okI m pc e = true) (hs : isSw e.1 = false) : decode (bM m) pc = .ok (e.1, ilen e.1) ∧ e.2.1 = pc + ilen e.1 := by
  obtain ⟨h1, h2, -⟩ := ok_dec h
  have h2 := h2 hs
  rw [h2, Nat.add_sub_cancel_left] at h1
  exact ⟨h1, h2⟩
theorem fA_sw {ins : Instr} {z : Int} {st : St} {r : Bool × St} (h : fA ins z st = some r) : isSw ins = false := by
  cases ins <;> first | rfl | (simp [fA] at h)
theorem fL_sw {ins : Instr} {ls : LSt} {st : St} {r : Bool × LSt × St} (h : fL ins ls st = some r) : isSw ins = false := by
  cases ins <;> first | rfl | (simp [fL] at h)
theorem fM_sw {ins : Instr} {y w c : Nat} {st : St} {μ : Mm} {r : Bool × St × Mm} (h : fM ins y w c st μ = some r) : isSw ins = false := by
  cases ins <;> first | rfl | (simp [fM] at h)
theorem ok_A {X : Cx} {p : Program} {s : State} {mid : MethodId} {args : Array Value} {meth : Method} {c : Code} {m pc : Nat} {e : En} (B : BC X p s mid args meth c m) (h : okW m pc e = true) : kA (yM m).cls args s e.2.2.2.2.2.1 e.1 := by
  obtain ⟨-, -, -, -, hts, -⟩ := B
  obtain ⟨ins, nx, y, w, c', z, q⟩ := e
  cases ins <;> try trivial
  case bipush n => simpa [okW, kA] using h
  case sipush n => simpa [okW, kA] using h
  case ldc_w i =>
    have h : tw q = some (.constant (yM m).cls i (Int32.ofInt z)) := by simpa [okW] using h
    exact hts _ (tw_gw h rfl)
  case ldc2_w i =>
    have h : tw q = some (.constantLong (yM m).cls i (Int64.ofInt z)) := by simpa [okW] using h
    exact hts _ (tw_gw h rfl)
theorem ok_L {m pc : Nat} {e : En} (h : okW m pc e = true) : kL (mL m) e.1 := by
  obtain ⟨ins, nx, y, w, c', z, q⟩ := e
  cases ins <;> try trivial
  all_goals exact Nat.le_of_ble_eq_true h
theorem ok_J {m pc : Nat} {e : En} (h : okW m pc e = true) : kJ pc e.2.2.1 e.1 := by
  obtain ⟨ins, nx, y, w, c', z, q⟩ := e
  cases ins <;> try trivial
  case goto off => simpa [okW, kJ] using h
  case if_icmp cd off => simpa [okW, kJ] using h
  case ifCond cd off => simpa [okW, kJ] using h
  case tableswitch d lo hi offs => simpa [okW, kJ] using h
theorem cat_map (X : Cx) (r : St) : (r.map (vC X)).map (fun v => v.category) = r.map (fun v => cond (isL (some v)) 2 1) := by
  rw [List.map_map]
  apply List.map_congr_left
  intro v _
  rcases v with z | z | a <;> rfl
theorem isRf_get (X : Cx) (μ : Mm) {t : FieldType} (h : isRf t = true) (a k : Nat) : fVt X μ t a k = va_rf ((aR μ a k).map (ph X)) := by
  cases t <;> first | rfl | (simp [isRf] at h)
theorem isRf_fit {t : FieldType} (h : isRf t = true) (q : Nat) : narrow t (.ref q) = .ref q ∧ fits t (.ref q) = true := by
  cases t <;> first | exact ⟨rfl, rfl⟩ | (simp [isRf] at h)
theorem fV_put (X : Cx) (μ : Mm) (y a w : Nat) (z : Int) (v : Value) (hv : fVt X (wV μ a w z) (tc y w) a w = v) : ∀ j, fV X (wV μ a w z) y a j = updV (fV X μ y a) w v j := by
  intro j
  unfold updV
  by_cases e : j = w
  · subst e
    rw [if_pos rfl]
    exact hv
  · rw [if_neg e]
    unfold fV fVt
    have : aV (wV μ a w z) a j = aV μ a j := by
      show uV (aV μ) a w z a j = _
      rw [uV_at, if_neg e]
    rw [this]
    rfl
theorem fV_putR (X : Cx) (μ : Mm) (y a w q : Nat) (h : isRf (tc y w) = true) : ∀ j, fV X (wR μ a w q) y a j = updV (fV X μ y a) w (.ref (ph X q)) j := by
  intro j
  unfold updV
  by_cases e : j = w
  · subst e
    rw [if_pos rfl]
    unfold fV
    rw [isRf_get X _ h]
    show va_rf ((uR (aR μ) a j (some q) a j).map (ph X)) = _
    rw [uR_at, if_pos rfl]
    rfl
  · rw [if_neg e]
    unfold fV fVt
    have : aR (wR μ a w q) a j = aR μ a j := by
      show uR (aR μ) a w (some q) a j = _
      rw [uR_at, if_neg e]
    rw [this]
    rfl
theorem okL_in {m q i y w : Nat} (h : okL m q i y w = true) : y < 13 ∧ w < nf y ∧ tw q = some (.fieldLink (yM m).cls i (Rc y) (Tc y w).2.1 (Tc y w).2.2.1) ∧ (Tc y w).1 = Rc y := by
  simp only [okL, Bool.and_eq_true, decide_eq_true_eq] at h
  exact ⟨Nat.le_of_ble_eq_true h.1, Nat.le_of_ble_eq_true h.2.1, h.2.2.1, h.2.2.2⟩
theorem Wd.n0 {X : Cx} {μ : Mm} {H : Heap} (h : Wd X μ H) {a y : Nat} (hk : (aT μ a).1 = 64 + y) : a ≠ 0 := fun e => by
  subst e
  have := h.k0
  omega
section SMM
variable {p : Program} {l : Launch} {e : Env} {R : Room} {s : State} {mid : MethodId} {args : Array Value} {below : List Frame} {meth : Method} {c : Code} {H : Heap} {locs : List Loc} {Q : State → Prop}
theorem st_M (X : Cx) {m : Nat} (B : BC X p s mid args meth c m) (hR : 1 ≤ R.frames ∧ 64 ≤ R.locals) {ins : Instr} {nx y w c' q pc : Nat} {z : Int} (hd : decode (bM m) pc = .ok (ins, ilen ins)) (hw : okW m pc (ins, nx, y, w, c', z, q) = true) {st st' : St} {μ μ' : Mm} (h : fM ins y w c' st μ = some (true, st', μ')) {ls : LSt} {lc : Array Slot} (hL : LR X (mL m) ls lc) (hW : Wd X μ H) (hS : va_S (wA X) s.heap H locs) {j0 j1 k0 k1 : Nat} (hk0 : k0 ≤ μ.1 + j0) (hk1 : k1 ≤ μ.2.1 + j1) (hc : μ'.1 + j0 - k0 ≤ R.cells) (hs : μ'.2.1 + j1 - k1 ≤ R.slots)
    (k : ∀ H' locs', Wd X μ' H' → va_S (wA X) s.heap H' locs' → W p l e R s mid args below meth c H' locs' (μ'.1 + j0 - k0) (μ'.2.1 + j1 - k1) Q (F0 mid (pc + ilen ins) lc (st'.map (vC X)))) : W p l e R s mid args below meth c H locs (μ.1 + j0 - k0) (μ.2.1 + j1 - k1) Q (F0 mid pc lc (st.map (vC X))) := by
  obtain ⟨hx, hb, hml, hown, hts, hF, hX, hbb, hbs, hnm⟩ := B
  cases ins
  all_goals try (exfalso; simp [fM] at h; done)
  case iaload =>
    match st, h with
    | .inl i :: .inr (.inr a) :: r, h =>
      simp only [fM, Option.some.injEq, Prod.mk.injEq] at h
      obtain ⟨hg, rfl, rfl⟩ := h
      exact m_iald X hx hb hF hX hbb hbs hd hg hW hS (k H locs hW hS)
  case laload =>
    match st, h with
    | .inl i :: .inr (.inr a) :: r, h =>
      simp only [fM, Option.some.injEq, Prod.mk.injEq] at h
      obtain ⟨hg, rfl, rfl⟩ := h
      exact m_lald X hx hb hF hd hg hW (k H locs hW hS)
  case baload =>
    match st, h with
    | .inl i :: .inr (.inr a) :: r, h =>
      simp only [fM, Option.some.injEq, Prod.mk.injEq] at h
      obtain ⟨hg, rfl, rfl⟩ := h
      exact m_zald X hx hb hF hd hg hW (k H locs hW hS)
  case aaload =>
    match st, h with
    | .inl i :: .inr (.inr a) :: r, h =>
      simp only [fM, Option.some.injEq, Prod.mk.injEq, Bool.and_eq_true, decide_eq_true_eq] at h
      obtain ⟨⟨hg1, hg2, hg3, hg4⟩, rfl, rfl⟩ := h
      exact m_aald X hx hb hF hd hg1 hg2 hg3 hg4 hW (k H locs hW hS)
  case iastore =>
    match st, h with
    | .inl v :: .inl i :: .inr (.inr a) :: r, h =>
      simp only [fM, Option.some.injEq, Prod.mk.injEq, Bool.and_eq_true] at h
      obtain ⟨⟨hg1, hg2⟩, rfl, rfl⟩ := h
      exact m_iast X hx hb hF hd hg1 (nb hg2) hW hS k
  case lastore =>
    match st, h with
    | .inr (.inl v) :: .inl i :: .inr (.inr a) :: r, h =>
      simp only [fM, Option.some.injEq, Prod.mk.injEq, Bool.and_eq_true] at h
      obtain ⟨⟨hg1, hg2⟩, rfl, rfl⟩ := h
      exact m_last X hx hb hF hd hg1 (nb hg2) hW hS k
  case bastore =>
    match st, h with
    | .inl v :: .inl i :: .inr (.inr a) :: r, h =>
      simp only [fM, Option.some.injEq, Prod.mk.injEq, Bool.and_eq_true, decide_eq_true_eq] at h
      obtain ⟨⟨hg1, hg2, hg3⟩, rfl, rfl⟩ := h
      exact m_zast X hx hb hF hd hg1 (nb hg2) hg3 hW hS k
  case aastore =>
    match st, h with
    | .inr (.inr v) :: .inl i :: .inr (.inr a) :: r, h =>
      simp only [fM, Option.some.injEq, Prod.mk.injEq, Bool.and_eq_true, decide_eq_true_eq] at h
      obtain ⟨⟨hg1, hg2, hg3, hg4, hg5, hg6⟩, rfl, rfl⟩ := h
      exact m_aast X hx hb hF hd hg1 hg2 hg3 hg4 (nb hg5) (nb hg6) hW hS k
  case arraylength =>
    match st, h with
    | .inr (.inr a) :: r, h =>
      simp only [fM, Option.some.injEq, Prod.mk.injEq, decide_eq_true_eq] at h
      obtain ⟨hg, rfl, rfl⟩ := h
      exact m_alen X hx hb hF hX hbb hbs hd hg hW hS (k H locs hW hS)
  case getfield i =>
    have hw : (okL m q i y w && okF c' (tc y w)) = true := hw
    simp only [Bool.and_eq_true] at hw
    obtain ⟨hy, hww, hlk, hT⟩ := okL_in hw.1
    have hlk := hts _ (tw_gw hlk rfl)
    match st, h with
    | .inr (.inr a) :: r, h =>
      have h : fG μ a y w c' r = some (true, st', μ') := h
      match c', hw, h with
      | 0, hw, h =>
        simp only [fG, Option.some.injEq, Prod.mk.injEq, decide_eq_true_eq] at h
        obtain ⟨hg, rfl, rfl⟩ := h
        have ht : tc y w = .int := of_decide_eq_true hw.2
        exact m_get X hx hb hown hts hF hd hy hww hlk hT hg (hW.n0 hg) (by unfold fV; rw [ht]; rfl) hW (k H locs hW hS)
      | 1, hw, h =>
        simp only [fG, Option.some.injEq, Prod.mk.injEq, decide_eq_true_eq] at h
        obtain ⟨hg, rfl, rfl⟩ := h
        have ht : tc y w = .long := of_decide_eq_true hw.2
        exact m_get X hx hb hown hts hF hd hy hww hlk hT hg (hW.n0 hg) (by unfold fV; rw [ht]; rfl) hW (k H locs hW hS)
      | 2, hw, h =>
        simp only [fG] at h
        split at h
        · rename_i v hv
          simp only [Option.some.injEq, Prod.mk.injEq, decide_eq_true_eq] at h
          obtain ⟨hg, rfl, rfl⟩ := h
          exact m_get X hx hb hown hts hF hd hy hww hlk hT hg (hW.n0 hg) (by unfold fV; rw [isRf_get X _ hw.2, hv]; rfl) hW (k H locs hW hS)
        · cases h
      | 3, hw, h =>
        simp only [fG, Option.some.injEq, Prod.mk.injEq, decide_eq_true_eq] at h
        obtain ⟨hg, rfl, rfl⟩ := h
        have ht : tc y w = .boolean := of_decide_eq_true hw.2
        exact m_get X hx hb hown hts hF hd hy hww hlk hT hg (hW.n0 hg) (by unfold fV; rw [ht]; rfl) hW (k H locs hW hS)
      | o + 4, hw, h =>
        simp only [fG, Option.some.injEq, Prod.mk.injEq, Bool.and_eq_true, decide_eq_true_eq] at h
        obtain ⟨⟨hg, hv⟩, rfl, rfl⟩ := h
        exact m_get X hx hb hown hts hF hd hy hww hlk hT hg (hW.n0 hg) (by unfold fV; rw [isRf_get X _ hw.2, hv]; rfl) hW (k H locs hW hS)
  case putfield i =>
    have hw : (okL m q i y w && (okF c' (tc y w) && (cond (Tc y w).2.2.2 (decide ((yM m).name = "<init>") && decide (Rc y = (yM m).cls)) true))) = true := hw
    simp only [Bool.and_eq_true] at hw
    obtain ⟨hy, hww, hlk, hT⟩ := okL_in hw.1
    have hlk := hts _ (tw_gw hlk rfl)
    have hfin : (Tc y w).2.2.2 = true → meth.name = "<init>" ∧ Rc y = (yM m).cls := fun hq => by
      have h3 := hw.2.2
      rw [hq] at h3
      simp only [cond_true, Bool.and_eq_true, decide_eq_true_eq] at h3
      rcases hnm with e0 | hnm
      · subst e0
        exact absurd h3.1 (by decide)
      · exact ⟨hnm.trans h3.1, h3.2⟩
    match st, h with
    | .inl v :: .inr (.inr a) :: r, h =>
      simp only [fM, Option.some.injEq, Prod.mk.injEq, Bool.and_eq_true, decide_eq_true_eq] at h
      obtain ⟨⟨hg, hv⟩, rfl, rfl⟩ := h
      rcases hv with rfl | ⟨rfl, hv⟩
      · have ht : tc y w = .int := of_decide_eq_true hw.2.1
        exact m_put (μ' := wV μ a w v) X hx hb hown hts hF hd hy hww hlk hT hfin hg (hW.n0 hg) (by rw [ht]; rfl) (by rw [ht]; rfl) rfl rfl (fun a' h => uV_ne h) (fun a' _ => rfl) (fun j _ => fV_put X μ y a w v _ (by rw [ht]; show Value.int (Int32.ofInt (uV (aV μ) a w v a w)) = _; rw [uV_at, if_pos rfl]; rfl) j) hW hS k
      · have ht : tc y w = .boolean := of_decide_eq_true hw.2.1
        exact m_put (μ' := wV μ a w v) X hx hb hown hts hF hd hy hww hlk hT hfin hg (hW.n0 hg) (by rw [ht]; exact nar_b hv) (by rw [ht]; exact fit_b hv) rfl rfl (fun a' h => uV_ne h) (fun a' _ => rfl) (fun j _ => fV_put X μ y a w v _ (by rw [ht]; show Value.int (Int32.ofInt (uV (aV μ) a w v a w)) = _; rw [uV_at, if_pos rfl]; rfl) j) hW hS k
    | .inr (.inl v) :: .inr (.inr a) :: r, h =>
      simp only [fM, Option.some.injEq, Prod.mk.injEq, Bool.and_eq_true, decide_eq_true_eq] at h
      obtain ⟨⟨hg, rfl⟩, rfl, rfl⟩ := h
      have ht : tc y w = .long := of_decide_eq_true hw.2.1
      exact m_put (μ' := wV μ a w v) X hx hb hown hts hF hd hy hww hlk hT hfin hg (hW.n0 hg) (by rw [ht]; rfl) (by rw [ht]; rfl) rfl rfl (fun a' h => uV_ne h) (fun a' _ => rfl) (fun j _ => fV_put X μ y a w v _ (by rw [ht]; show Value.long (Int64.ofInt (uV (aV μ) a w v a w)) = _; rw [uV_at, if_pos rfl]; rfl) j) hW hS k
    | .inr (.inr v) :: .inr (.inr a) :: r, h =>
      simp only [fM, Option.some.injEq, Prod.mk.injEq, Bool.and_eq_true, decide_eq_true_eq] at h
      obtain ⟨⟨hg, hv⟩, rfl, rfl⟩ := h
      have ht : isRf (tc y w) = true := by
        have h4 := hw.2.1
        rcases hv with rfl | hv
        · exact h4
        · match c', hv, h4 with
          | c' + 4, _, h4 => exact h4
      exact m_put (μ' := wR μ a w v) X hx hb hown hts hF hd hy hww hlk hT hfin hg (hW.n0 hg) (isRf_fit ht _).1 (isRf_fit ht _).2 rfl rfl (fun a' _ => rfl) (fun a' h => uR_ne h) (fun j _ => fV_putR X μ y a w v ht j) hW hS k
  case new i =>
    have hw : (Nat.blt y 13 && decide (tw q = some (.classLink (yM m).cls i (Rc y)))) = true := hw
    simp only [Bool.and_eq_true, decide_eq_true_eq] at hw
    simp only [fM, Option.some.injEq, Prod.mk.injEq] at h
    obtain ⟨hg, rfl, rfl⟩ := h
    have hg := nb hg
    have e1 : (nw μ (64 + y) (nf y)).1 + j0 - k0 = μ.1 + j0 - k0 + 1 := by show μ.1 + 1 + j0 - k0 = _; omega
    have e2 : (nw μ (64 + y) (nf y)).2.1 + j1 - k1 = μ.2.1 + j1 - k1 + nf y := by show μ.2.1 + nf y + j1 - k1 = _; omega
    rw [e1] at hc
    rw [e2] at hs
    exact m_new X hx hb hown hts hF hd (Nat.le_of_ble_eq_true hw.1) (hts _ (tw_gw hw.2 rfl)) hg hW hS hbs hc hs (fun H' w1 w2 => by have hk := k H' locs w1 w2; rw [e1, e2] at hk; exact hk)
  case newarray t =>
    have hw : Nat.blt 0 (atk t) = true := hw
    match st, h with
    | .inl n :: r, h =>
      simp only [fM, Option.some.injEq, Prod.mk.injEq, Bool.and_eq_true, decide_eq_true_eq] at h
      obtain ⟨⟨hg, hn0, hn1⟩, rfl, rfl⟩ := h
      have hg := nb hg
      have e1 : (nw μ (atk t) n.toNat).1 + j0 - k0 = μ.1 + j0 - k0 + 1 := by show μ.1 + 1 + j0 - k0 = _; omega
      have e2 : (nw μ (atk t) n.toNat).2.1 + j1 - k1 = μ.2.1 + j1 - k1 + n.toNat := by show μ.2.1 + n.toNat + j1 - k1 = _; omega
      rw [e1] at hc
      rw [e2] at hs
      exact m_newa X hx hb hts hF hd (Nat.le_of_ble_eq_true hw) hg hn0 hn1 hW hS hc hs (fun H' w1 w2 => by have hk := k H' locs w1 w2; rw [e1, e2] at hk; exact hk)
  case anewarray i =>
    have hw : ((Nat.beq y 2 || (Nat.beq y 3 || (Nat.beq y 5 || Nat.beq y 7))) && decide (tw q = some (.classLink (yM m).cls i (Rc y)))) = true := hw
    simp only [Bool.and_eq_true, decide_eq_true_eq, Bool.or_eq_true] at hw
    have hy : y = 2 ∨ y = 3 ∨ y = 5 ∨ y = 7 := by
      rcases hw.1 with z | z | z | z
      · exact Or.inl (Nat.eq_of_beq_eq_true z)
      · exact Or.inr (Or.inl (Nat.eq_of_beq_eq_true z))
      · exact Or.inr (Or.inr (Or.inl (Nat.eq_of_beq_eq_true z)))
      · exact Or.inr (Or.inr (Or.inr (Nat.eq_of_beq_eq_true z)))
    match st, h with
    | .inl n :: r, h =>
      simp only [fM, Option.some.injEq, Prod.mk.injEq, Bool.and_eq_true, decide_eq_true_eq] at h
      obtain ⟨⟨hg, hn0, hn1⟩, rfl, rfl⟩ := h
      have hg := nb hg
      have e1 : (nw μ (32 + y) n.toNat).1 + j0 - k0 = μ.1 + j0 - k0 + 1 := by show μ.1 + 1 + j0 - k0 = _; omega
      have e2 : (nw μ (32 + y) n.toNat).2.1 + j1 - k1 = μ.2.1 + j1 - k1 + n.toNat := by show μ.2.1 + n.toNat + j1 - k1 = _; omega
      rw [e1] at hc
      rw [e2] at hs
      have hov : (Cond.arrayOver (.object (Rc y))).before args s = true := by
        have : Cond.arrayOver (.object (Rc y)) ∈ lw_tbl := g_over y hy
        exact va_AO.use (hF.2 _ this rfl)
      exact m_anew X hx hb hown hF hd hy (hts _ (tw_gw hw.2 rfl)) hov hg hn0 hn1 hW hS hc hs (fun H' w1 w2 => by have hk := k H' locs w1 w2; rw [e1, e2] at hk; exact hk)
  case multianewarray i n =>
    have hw : (Nat.beq n 2 && decide (tw q = some (.classLink (yM m).cls i "[[I"))) = true := hw
    simp only [Bool.and_eq_true, decide_eq_true_eq] at hw
    have hn := Nat.eq_of_beq_eq_true hw.1
    subst hn
    match st, h with
    | .inl kk :: .inl nn :: r, h =>
      simp only [fM, Option.some.injEq, Prod.mk.injEq, Bool.and_eq_true, decide_eq_true_eq] at h
      obtain ⟨⟨hg, rfl, rfl⟩, rfl, rfl⟩ := h
      have hg := nb hg
      have e1 : (nw2 μ 4 8).1 + j0 - k0 = μ.1 + j0 - k0 + 5 := by show μ.1 + 1 + 4 + j0 - k0 = _; omega
      have e2 : (nw2 μ 4 8).2.1 + j1 - k1 = μ.2.1 + j1 - k1 + 36 := by show μ.2.1 + 4 + 4 * 8 + j1 - k1 = _; omega
      rw [e1] at hc
      rw [e2] at hs
      exact m_mult X hx hb hown hts hF hd (hts _ (tw_gw hw.2 rfl)) (over2_use (hF.2 _ g_over2 rfl)) hg hW hS hbs hc hs (fun H' locs' w1 w2 => by have hk := k H' locs' w1 w2; rw [e1, e2] at hk; exact hk)
  case invokespecial i =>
    match c', st, hw, h with
    | 10, .inr (.inr a) :: r, hw, h =>
      simp only [fM, Option.some.injEq, Prod.mk.injEq, decide_eq_true_eq] at h
      obtain ⟨hg, rfl, rfl⟩ := h
      have hw : tw q = some (.methodLink (yM m).cls i objectInit) := of_decide_eq_true hw
      exact m_oi X hx hb hown hts hd (hts _ (tw_gw hw rfl)) (hL.1.trans hml.symm) (by rw [cat_map]; exact hg) hR (k H locs hW hS)
  case invokestatic i =>
    match c', st, hw, h with
    | 11, .inl n :: .inl dp :: .inr (.inr d) :: .inl sp :: .inr (.inr sc) :: r, hw, h =>
      simp only [fM, Option.some.injEq, Prod.mk.injEq, Bool.and_eq_true, decide_eq_true_eq] at h
      obtain ⟨⟨hg0, hg1, hg2, hg3, hg4, hg5, hg6, hg7⟩, rfl, rfl⟩ := h
      have hw : tw q = some (.methodLink (yM m).cls i arraycopyName) := of_decide_eq_true hw
      exact m_copy X hx hb hown hts hF hd (hts _ (tw_gw hw rfl)) (hL.1.trans hml.symm) (by rw [cat_map]; exact hg1) hR (Nat.eq_of_beq_eq_true hg0) hg2 (nb hg3) (nb hg4) hg5 hg6 hg7 hW hS k
    | 12, .inr (.inl b) :: .inr (.inl a) :: r, hw, h =>
      simp only [fM, Option.some.injEq, Prod.mk.injEq, Bool.and_eq_true, decide_eq_true_eq] at h
      obtain ⟨⟨ha, hb2, hg⟩, rfl, rfl⟩ := h
      have hw : tw q = some (.methodLink (yM m).cls i Lib.MathLoose.max_long.x) := of_decide_eq_true hw
      refine va_mmax_long (own := (yM m).cls) hx hb (hml.trans hL.1.symm) hown (hts _ (tw_gw hw rfl)) (hts _ g_m1s) (hts _ g_mi) (hts _ g_m1c) hR.1 (by rw [cat_map]; omega) hc hs hd ?_
      have hk := k H locs hW hS
      have e : (if Int64.ofInt b < Int64.ofInt a then Int64.ofInt a else Int64.ofInt b) = Int64.ofInt (cond (decide (b < a)) a b) := by
        have hl : Int64.ofInt b < Int64.ofInt a ↔ b < a := by rw [Int64.lt_iff_toInt_lt, t64 ha, t64 hb2]
        by_cases h : b < a
        · rw [if_pos (hl.mpr h)]; simp [h]
        · rw [if_neg (fun z => h (hl.mp z))]; simp [h]
      rw [e]
      exact hk
    | 13, .inr (.inl b) :: .inr (.inl a) :: r, hw, h =>
      simp only [fM, Option.some.injEq, Prod.mk.injEq, Bool.and_eq_true, decide_eq_true_eq] at h
      obtain ⟨⟨ha, hb2, hg⟩, rfl, rfl⟩ := h
      have hw : tw q = some (.methodLink (yM m).cls i Lib.MathLoose.min_long.x) := of_decide_eq_true hw
      refine va_mmin_long (own := (yM m).cls) hx hb (hml.trans hL.1.symm) hown (hts _ (tw_gw hw rfl)) (hts _ g_m2s) (hts _ g_mi) (hts _ g_m2c) hR.1 (by rw [cat_map]; omega) hc hs hd ?_
      have hk := k H locs hW hS
      have e : (if Int64.ofInt b < Int64.ofInt a then Int64.ofInt b else Int64.ofInt a) = Int64.ofInt (cond (decide (b < a)) b a) := by
        have hl : Int64.ofInt b < Int64.ofInt a ↔ b < a := by rw [Int64.lt_iff_toInt_lt, t64 ha, t64 hb2]
        by_cases h : b < a
        · rw [if_pos (hl.mpr h)]; simp [h]
        · rw [if_neg (fun z => h (hl.mp z))]; simp [h]
      rw [e]
      exact hk
    | 14, .inl b :: .inl a :: r, hw, h =>
      simp only [fM, Option.some.injEq, Prod.mk.injEq, Bool.and_eq_true, decide_eq_true_eq] at h
      obtain ⟨⟨ha, hb2, hg⟩, rfl, rfl⟩ := h
      have hw : tw q = some (.methodLink (yM m).cls i Lib.Math.max.name) := of_decide_eq_true hw
      refine va_mmax (own := (yM m).cls) hx hb (hml.trans hL.1.symm) hown (hts _ (tw_gw hw rfl)) (hts _ g_m3s) (hts _ g_mi) (hts _ g_m3c) hR.1 (by rw [cat_map]; omega) hc hs hd ?_
      have hk := k H locs hW hS
      have e : (if Int32.ofInt a < Int32.ofInt b then Int32.ofInt b else Int32.ofInt a) = Int32.ofInt (cond (decide (a < b)) b a) := by
        have hl : Int32.ofInt a < Int32.ofInt b ↔ a < b := by rw [Int32.lt_iff_toInt_lt, t32 ha, t32 hb2]
        by_cases h : a < b
        · rw [if_pos (hl.mpr h)]; simp [h]
        · rw [if_neg (fun z => h (hl.mp z))]; simp [h]
      rw [e]
      exact hk
end SMM
