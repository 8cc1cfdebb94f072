/-! SOUNDNESS, 3: fields, new cells -/
theorem c_lays : ∀ y, y < 13 → ∀ w ∈ u_ws (Rc y) (Tc y) (nf y), w ∈ gw := by decide +kernel
theorem c_names : ∀ y, y < 13 → ∀ a, a < nf y → ∀ b, b < nf y → a ≠ b → (Tc y a).2.1 ≠ (Tc y b).2.1 := by decide +kernel
theorem c_types : ∀ y, y < 13 → ∀ k, k < nf y → parseFieldDescriptor (Tc y k).2.2.1 = some (tc y k) := by decide +kernel
theorem c_inst : ∀ y, y < 13 → Cond.instantiable (Rc y) (nf y) ∈ gw := by decide +kernel
theorem c_init : ∀ y, y < 13 → Cond.initialized (Rc y) ∈ gw := by decide +kernel
theorem c_small : ∀ y, y < 13 → nf y < 100 := by decide +kernel
theorem fV_zero (X : Cx) (μ : Mm) (y a k : Nat) (hV : aV μ a k = 0) (hR : aR μ a k = none) (ht : okF 0 (tc y k) = true ∨ okF 1 (tc y k) = true ∨ okF 2 (tc y k) = true ∨ okF 3 (tc y k) = true) : fV X μ y a k = defaultValue (tc y k) := by
  unfold fV fVt
  rw [hV, hR]
  revert ht
  generalize tc y k = t
  intro ht
  cases t <;> first | rfl | (exfalso; revert ht; simp [okF, isRf])
theorem c_okF : ∀ y, y < 13 → ∀ k, k < nf y → (okF 0 (tc y k) = true ∨ okF 1 (tc y k) = true ∨ okF 2 (tc y k) = true ∨ okF 3 (tc y k) = true) := by decide +kernel
theorem zV_at (V : Nat → Nat → Int) (a k : Nat) : zV V a 0 a k = 0 := by
  unfold zV
  rw [Nat.add_zero, Nat.ble_eq_true_of_le (Nat.le_refl a)]
  rfl
theorem zR_at (V : Nat → Nat → Option Nat) (a k : Nat) : zR V a 0 a k = none := by
  unfold zR
  rw [Nat.add_zero, Nat.ble_eq_true_of_le (Nat.le_refl a)]
  rfl
theorem zV_ne {V : Nat → Nat → Int} {a a' : Nat} (h : a' ≠ a) : zV V a 0 a' = V a' := by
  funext k
  unfold zV
  have : (Nat.ble a a' && Nat.ble a' (a + 0)) = false := by
    cases q : (Nat.ble a a' && Nat.ble a' (a + 0)) with
    | false => rfl
    | true =>
      simp only [Bool.and_eq_true] at q
      have h1 := Nat.le_of_ble_eq_true q.1
      have h2 := Nat.le_of_ble_eq_true q.2
      omega
  rw [this]
  rfl
theorem zR_ne {V : Nat → Nat → Option Nat} {a a' : Nat} (h : a' ≠ a) : zR V a 0 a' = V a' := by
  funext k
  unfold zR
  have : (Nat.ble a a' && Nat.ble a' (a + 0)) = false := by
    cases q : (Nat.ble a a' && Nat.ble a' (a + 0)) with
    | false => rfl
    | true =>
      simp only [Bool.and_eq_true] at q
      have h1 := Nat.le_of_ble_eq_true q.1
      have h2 := Nat.le_of_ble_eq_true q.2
      omega
  rw [this]
  rfl
theorem uT_at (T : Nat → Nat × Nat) (a : Nat) (t : Nat × Nat) : uT T a t a = t := by
  simp [uT]
theorem uT_ne {T : Nat → Nat × Nat} {a a' : Nat} {t : Nat × Nat} (h : a' ≠ a) : uT T a t a' = T a' := by
  unfold uT
  rw [beqF h]
  rfl
theorem nN_pos {μ : Mm} (h : μ.1 ≠ 0) : nN μ = μ.1 - 1 := by
  unfold nN
  rw [beqF h]
  rfl
theorem Wd.push {X : Cx} {μ : Mm} {H H' : Heap} {k n : Nat} (h : Wd X μ H) (h0 : μ.1 ≠ 0) (hk : KOK (k, n)) (hz : H'.size = H.size + 1) (ho : ∀ q, q < H.size → H'[q]? = H[q]?) (he : cOK X (nw μ k n) μ.1 H') : Wd X (nw μ k n) H' := by
  obtain ⟨⟨t1, t2, t3⟩, w, z⟩ := h
  have z := z h0
  have en : nN μ = μ.1 - 1 := nN_pos h0
  have en' : nN (nw μ k n) = μ.1 := by
    rw [nN_pos (by show μ.1 + 1 ≠ 0; omega)]
    rfl
  refine ⟨⟨fun a' q => ?_, fun a' => ?_, ?_⟩, fun a' q1 q2 => ?_, fun q => ?_⟩
  · show (uT (aT μ) μ.1 (k, n) a').1 = 0
    rw [uT_ne (by omega)]
    exact t1 a' (by omega)
  · show KOK (uT (aT μ) μ.1 (k, n) a')
    by_cases e : a' = μ.1
    · subst e; rw [uT_at]; exact hk
    · rw [uT_ne e]; exact t2 a'
  · show (uT (aT μ) μ.1 (k, n) 0).1 = 0 ∨ (uT (aT μ) μ.1 (k, n) 0 = (1, xL X) ∧ ∀ j, j < xL X → Int32.ofInt (zV (aV μ) μ.1 0 0 j) = xS X j)
    rw [uT_ne (by omega), zV_ne (by omega)]
    exact t3
  · by_cases e : a' = μ.1
    · subst e; exact he
    · have hw := w a' q1 (by omega)
      refine hw.kept (ho _ ?_) (uT_ne e) (zV_ne e) (zR_ne e)
      rw [ph_pos X q1]
      omega
  · show H'.size + 1 = xB X + (μ.1 + 1)
    omega
section SM3
variable {p : Program} {l : Launch} {e : Env} {R : Room} {s : State} {m : MethodId} {args : Array Value} {below : List Frame} {meth : Method} {c : Code} {H : Heap} {locs : List Loc} {cells slots : Nat} {Q : State → Prop} {cc : ByteArray} {own : String}
theorem m_get (X : Cx) (hx : p.tables.exec = Jvm.exec) (hb : c.code = cc) (hown : s.vm.findClass own = some m.cls) (hts : ∀ w ∈ gw, w.before args s = true) (hF : SF X s) {μ : Mm} {a y w i : Nat} {v : Value} {r : List Value} {pc : Nat} {lc : Array Slot} (hd : decode cc pc = .ok (.getfield i, 3)) (hy : y < 13) (hw : w < nf y) (hlk : (Cond.fieldLink own i (Rc y) (Tc y w).2.1 (Tc y w).2.2.1).before args s = true) (hT : (Tc y w).1 = Rc y) (hk : (aT μ a).1 = 64 + y) (ha : a ≠ 0) (hv : fV X μ y a w = v) (hW : Wd X μ H)
    (k : W p l e R s m args below meth c H locs cells slots Q (F0 m (pc + 3) lc (v :: r))) : W p l e R s m args below meth c H locs cells slots Q (F0 m pc lc (.ref (ph X a) :: r)) := by
  obtain ⟨cell, q1, q2, q3, q4⟩ := hW.obj ha hk
  obtain ⟨hS, hfc, kC, hkC, hkind⟩ := hF.cls hy
  obtain ⟨cf, kf, fi, f, hi, hsl⟩ := hS w hw
  have hst := (u_facts hfc hkC (u_lays hts (c_lays y hy) hw) hi).1
  rw [hT] at hi
  refine W.getf hx hb hown hlk hi hst q1 (by rw [q3]; exact fun h => by cases h) (v := v) ?_ rfl rfl hd k
  rw [hsl, q4 w hw, hv]
theorem m_putV (X : Cx) (hx : p.tables.exec = Jvm.exec) (hb : c.code = cc) (hown : s.vm.findClass own = some m.cls) (hts : ∀ w ∈ gw, w.before args s = true) (hF : SF X s) {a y w i : Nat} {v : Value} {V : Nat → Value} {r : List Value} {pc : Nat} {lc : Array Slot} (hd : decode cc pc = .ok (.putfield i, 3)) (hy : y < 13) (hw : w < nf y) (hlk : (Cond.fieldLink own i (Rc y) (Tc y w).2.1 (Tc y w).2.2.1).before args s = true) (hT : (Tc y w).1 = Rc y) (hfin : (Tc y w).2.2.2 = true → meth.name = "<init>" ∧ Rc y = own)
    (hn : narrow (tc y w) v = v) (hf : fits (tc y w) v = true) (hO : t_OB a ((xD X).1 y) (nf y) ((xD X).2 y) H V)
    (k : ∀ (H' : Heap) (k0 : Nat), t_OB a ((xD X).1 y) (nf y) ((xD X).2 y) H' (updV V w v) → H'.size = H.size → (∀ q, q ≠ a → H'[q]? = H[q]?) → W p l e R s m args below meth c H' (locs ++ [⟨a, k0⟩]) cells slots Q (F0 m (pc + 3) lc r)) : W p l e R s m args below meth c H locs cells slots Q (F0 m pc lc (v :: .ref a :: r)) := by
  have hap := va_apart (own := own) hts (c_lays y hy) (tc y) (c_types y hy) (c_names y hy) hF.1 (CLS_at hy)
  obtain ⟨cell, q1, q2, q3, q4⟩ := hO
  obtain ⟨hS, hfc, kC, hkC, hkind⟩ := hF.cls hy
  obtain ⟨cf, kf, fi, f, hi, hsl⟩ := hS w hw
  have hlay := hts _ (c_lays y hy _ (u_in_lay hw))
  have hst := (u_facts hfc hkC (u_lays hts (c_lays y hy) hw) hi).1
  have hdt := c_types y hy w hw
  by_cases hq : (Tc y w).2.2.2 = true
  · obtain ⟨hin2, hown2⟩ := hfin hq
    unfold u_lay at hlay
    rw [if_pos hq] at hlay
    have hcf : m.cls = cf := by
      obtain ⟨_, _, c', _, _, _, -, -, hf', -, -, -, hown3, -⟩ := Cond.laysFinal_spec hlay
      have e1 : c' = cf := by have := hi.symm.trans hf'; simp at this; exact this.1.symm
      rw [hT, hown2] at hown3
      rw [← e1]; exact Option.some.inj (hown.symm.trans hown3)
    have h6 := u_fits hfc hkC hkind (Or.inr hlay) hi hdt hn hf
    rw [hT] at hi
    refine W.putFinK hx hb hown hlk hi hst hcf hin2 (by rw [q2]; exact h6) q1 q3 (by rw [hsl]; exact k2_hasslot (q4 w hw)) rfl rfl hd fun H' e1 e2 e3 => ?_
    rw [hsl] at e1
    exact k H' _ ⟨_, e1, q2, q3, t_set q4 hap hw v⟩ e2 e3
  · unfold u_lay at hlay
    rw [if_neg hq] at hlay
    have h6 := u_store hfc hkC hkind hlay hi hdt hn hf
    rw [hT] at hi
    refine W.putK hx hb (f := f) ⟨hown, hlk, ⟨_, _, _, hi⟩, hst⟩ (by rw [q2]; exact h6) q1 q3 (by rw [hsl]; exact k2_hasslot (q4 w hw)) rfl rfl hd fun H' e1 e2 e3 => ?_
    rw [hsl] at e1
    exact k H' _ ⟨_, e1, q2, q3, t_set q4 hap hw v⟩ e2 e3
theorem m_put (X : Cx) (hx : p.tables.exec = Jvm.exec) (hb : c.code = cc) (hown : s.vm.findClass own = some m.cls) (hts : ∀ w ∈ gw, w.before args s = true) (hF : SF X s) {μ μ' : Mm} {a y w i : Nat} {v : Value} {r : List Value} {pc : Nat} {lc : Array Slot} (hd : decode cc pc = .ok (.putfield i, 3)) (hy : y < 13) (hw : w < nf y) (hlk : (Cond.fieldLink own i (Rc y) (Tc y w).2.1 (Tc y w).2.2.1).before args s = true) (hT : (Tc y w).1 = Rc y) (hfin : (Tc y w).2.2.2 = true → meth.name = "<init>" ∧ Rc y = own)
    (hk : (aT μ a).1 = 64 + y) (ha : a ≠ 0) (hn : narrow (tc y w) v = v) (hf : fits (tc y w) v = true) (e0 : μ'.1 = μ.1) (eT : aT μ' = aT μ) (eV : ∀ a', a' ≠ a → aV μ' a' = aV μ a') (eR : ∀ a', a' ≠ a → aR μ' a' = aR μ a') (ev : ∀ j, j < nf y → fV X μ' y a j = updV (fV X μ y a) w v j) (hW : Wd X μ H) (hS : va_S (wA X) s.heap H locs)
    (k : ∀ H' locs', Wd X μ' H' → va_S (wA X) s.heap H' locs' → W p l e R s m args below meth c H' locs' cells slots Q (F0 m (pc + 3) lc r)) : W p l e R s m args below meth c H locs cells slots Q (F0 m pc lc (v :: .ref (ph X a) :: r)) := by
  have hl := hW.live (a := a) (by omega) ha
  refine m_putV X hx hb hown hts hF hd hy hw hlk hT hfin hn hf (hW.obj ha hk) fun H' k0 h1 h2 h3 => ?_
  refine k H' _ (hW.put hl.1 e0 eT eV eR (fun _ => h2) h3 ?_) (hS.put h2 h3 (ph_A X hl.1))
  refine ⟨fun _ => ?_, fun q => ?_⟩
  · rw [eT, hk, Nat.add_sub_cancel_left]
    exact h1.to (fun j hj => (ev j hj).symm)
  · rw [eT, hk] at q
    omega
theorem m_new (X : Cx) (hx : p.tables.exec = Jvm.exec) (hb : c.code = cc) (hown : s.vm.findClass own = some m.cls) (hts : ∀ w ∈ gw, w.before args s = true) (hF : SF X s) {μ : Mm} {y i : Nat} {r : List Value} {pc : Nat} {lc : Array Slot} (hd : decode cc pc = .ok (.new i, 3)) (hy : y < 13) (hlk : (Cond.classLink own i (Rc y)).before args s = true) (h0 : μ.1 ≠ 0) (hW : Wd X μ H) (hS : va_S (wA X) s.heap H locs) (hbs : xB X ≤ s.heap.size) (hc : cells + 1 ≤ R.cells) (hs : slots + nf y ≤ R.slots)
    (k : ∀ H', Wd X (nw μ (64 + y) (nf y)) H' → va_S (wA X) s.heap H' locs → W p l e R s m args below meth c H' locs (cells + 1) (slots + nf y) Q (F0 m (pc + 3) lc (.ref (ph X μ.1) :: r))) : W p l e R s m args below meth c H locs cells slots Q (F0 m pc lc r) := by
  refine W.newc hx hb hown hlk (hts _ (c_inst y hy)) (hts _ (c_init y hy)) rfl hd hc hs fun cC kC h1 h2 h3 h4 => ?_
  have hz := hW.2.2 h0
  have hp : ph X μ.1 = H.size := by rw [ph_pos X (by omega)]; omega
  have hKn := hF.cls hy
  have hcc : cC = (xD X).1 y := Option.some.inj (h1.symm.trans hKn.2.1)
  subst hcc
  generalize hH1 : H.push ({ cls := (xD X).1 y, slots := kC.instanceTypes.map defaultValue, vm := .none } : Cell) = H1
  have z1 : H1.size = H.size + 1 := by rw [← hH1, Array.size_push]
  have e1 : H1[H.size]? = some (blank ((xD X).1 y) kC) := by rw [← hH1, Array.getElem?_push_size]; rfl
  have o1 : ∀ q : Nat, q < H.size → H1[q]? = H[q]? := fun q hq => by rw [← hH1, Array.getElem?_push, if_neg (Nat.ne_of_lt hq)]
  have hb1 := u_born (o := H.size) (H := H1) (tc y) hts (c_lays y hy) hKn h2 e1 (c_types y hy)
  have hcOK : cOK X (nw μ (64 + y) (nf y)) μ.1 H1 := by
    have ek : aT (nw μ (64 + y) (nf y)) μ.1 = (64 + y, nf y) := uT_at _ _ _
    refine ⟨fun _ => ?_, fun q => ?_⟩
    · rw [ek, Nat.add_sub_cancel_left, hp]
      exact hb1.to (fun j hj => (fV_zero X _ y μ.1 j (zV_at _ _ _) (zR_at _ _ _) (c_okF y hy j hj)).symm)
    · rw [ek] at q
      have : 64 + y < 64 := q
      omega
  have hk2 := k H1 (hW.push h0 ⟨by have := c_small y hy; show nf y < 100000; omega, Or.inr (Or.inr ⟨by show 64 ≤ 64 + y; omega, by show 64 + y < 77; omega⟩)⟩ z1 o1 hcOK) ⟨Nat.le_trans hS.1 (by omega), fun q h1 h2 => (o1 q (Nat.lt_of_lt_of_le h1 hS.1)).trans (hS.2.1 q h1 h2), hS.2.2⟩
  rw [hp] at hk2
  exact hk2
end SM3
