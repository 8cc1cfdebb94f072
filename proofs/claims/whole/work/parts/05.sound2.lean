/-! SOUNDNESS, 2: the world, arrays, fields -/
abbrev xB (X : Cx) : Nat := X.2.1
abbrev xL (X : Cx) : Nat := X.2.2.1
abbrev xS (X : Cx) : Nat → Int32 := X.2.2.2.1
abbrev xD (X : Cx) : va_G := X.2.2.2.2.1
abbrev xA (X : Cx) : Nat → ClassId := X.2.2.2.2.2
def NC : Nat := 150
def nN (μ : Mm) : Nat := cond (Nat.beq μ.1 0) NC (μ.1 - 1)
def tyK (k : Nat) : FieldType := match k with
  | 1 => .int
  | 2 => .long
  | 3 => .boolean
  | 4 => .array .int
  | k => .object (Rc (k - 32))
def CLS : List vw_C := (List.range 13).map (fun y => (Rc y, Tc y, nf y))
def kds : List Nat := [1, 2, 3, 4, 34, 35, 37, 39]
def TYS (X : Cx) : List (ClassId × FieldType) := kds.map (fun k => (xA X k, tyK k))
def fVt (X : Cx) (μ : Mm) (t : FieldType) (a k : Nat) : Value := match t with
  | .int => .int (Int32.ofInt (aV μ a k))
  | .boolean => .int (Int32.ofInt (aV μ a k))
  | .long => .long (Int64.ofInt (aV μ a k))
  | _ => va_rf ((aR μ a k).map (ph X))
def fV (X : Cx) (μ : Mm) (y a k : Nat) : Value := fVt X μ (tc y k) a k
def elV (X : Cx) (μ : Mm) (k a : Nat) : Nat → Value := match k with
  | 1 => fun j => .int (Int32.ofInt (aV μ a j))
  | 2 => fun j => .long (Int64.ofInt (aV μ a j))
  | 3 => fun j => .int (Int32.ofInt (aV μ a j))
  | _ => fun j => va_rf ((aR μ a j).map (ph X))
def cOK (X : Cx) (μ : Mm) (a : Nat) (H : Heap) : Prop := (64 ≤ (aT μ a).1 → t_OB (ph X a) ((xD X).1 ((aT μ a).1 - 64)) (nf ((aT μ a).1 - 64)) ((xD X).2 ((aT μ a).1 - 64)) H (fV X μ ((aT μ a).1 - 64) a)) ∧ ((aT μ a).1 < 64 → H[ph X a]? = some (arrV (xA X (aT μ a).1) (aT μ a).2 (elV X μ (aT μ a).1 a)))
def KOK (t : Nat × Nat) : Prop := t.2 < 100000 ∧ (t.1 = 0 ∨ t.1 ∈ kds ∨ (64 ≤ t.1 ∧ t.1 < 77))
def TI (X : Cx) (μ : Mm) : Prop := (∀ a, nN μ < a → (aT μ a).1 = 0) ∧ (∀ a, KOK (aT μ a)) ∧ ((aT μ 0).1 = 0 ∨ (aT μ 0 = (1, xL X) ∧ ∀ j, j < xL X → Int32.ofInt (aV μ 0 j) = xS X j))
def Wd (X : Cx) (μ : Mm) (H : Heap) : Prop := TI X μ ∧ (∀ a, 1 ≤ a → a ≤ nN μ → cOK X μ a H) ∧ (μ.1 ≠ 0 → H.size + 1 = xB X + μ.1)
def spW (w : Cond) : Bool := match w with
  | .methodLinkNest _ _ _ _ => true
  | .arrayOver _ => true
  | _ => false
/-- what stays as it is: classes, array classes, words that are no table's -/
def SF (X : Cx) (U : State) : Prop := va_K (xD X) CLS (TYS X) U ∧ ∀ w ∈ lw_tbl, spW w = true → va_Nw w U
def gw : List Cond := lw_tbl.filter goodWord
abbrev wA (X : Cx) : Nat → Prop := fun q => xB X ≤ q
theorem ph_pos (X : Cx) {a : Nat} (h : 1 ≤ a) : ph X a = xB X + (a - 1) := by
  cases a with
  | zero => omega
  | succ n => rfl
theorem ph_inj (X : Cx) {a a' : Nat} (h : 1 ≤ a) (h' : 1 ≤ a') (e : ph X a = ph X a') : a = a' := by
  rw [ph_pos X h, ph_pos X h'] at e
  omega
theorem ph_A (X : Cx) {a : Nat} (h : 1 ≤ a) : wA X (ph X a) := by
  rw [ph_pos X h]
  exact Nat.le_add_right _ _
theorem Wd.live {X : Cx} {μ : Mm} {H : Heap} {a : Nat} (h : Wd X μ H) (hk : (aT μ a).1 ≠ 0) (ha : a ≠ 0) : 1 ≤ a ∧ a ≤ nN μ := by
  refine ⟨by omega, ?_⟩
  by_cases q : nN μ < a
  · exact absurd (h.1.1 a q) hk
  · omega
theorem Wd.len {X : Cx} {μ : Mm} {H : Heap} (h : Wd X μ H) (a : Nat) : (aT μ a).2 < 100000 := (h.1.2.1 a).1
theorem Wd.kind {X : Cx} {μ : Mm} {H : Heap} (h : Wd X μ H) {a : Nat} (hk : (aT μ a).1 ≠ 0) (h4 : (aT μ a).1 < 64) : (aT μ a).1 ∈ kds := by
  rcases (h.1.2.1 a).2 with q | q | q
  · exact absurd q hk
  · exact q
  · omega
theorem Wd.arr {X : Cx} {μ : Mm} {H : Heap} {a : Nat} (h : Wd X μ H) (ha : a ≠ 0) (hk : (aT μ a).1 ≠ 0) (h4 : (aT μ a).1 < 64) : H[ph X a]? = some (arrV (xA X (aT μ a).1) (aT μ a).2 (elV X μ (aT μ a).1 a)) := (h.2.1 a (h.live hk ha).1 (h.live hk ha).2).2 h4
theorem Wd.obj {X : Cx} {μ : Mm} {H : Heap} {a y : Nat} (h : Wd X μ H) (ha : a ≠ 0) (hk : (aT μ a).1 = 64 + y) : t_OB (ph X a) ((xD X).1 y) (nf y) ((xD X).2 y) H (fV X μ y a) := by
  have h1 := h.live (a := a) (by omega) ha
  have h2 := (h.2.1 a h1.1 h1.2).1 (by omega)
  rw [hk, Nat.add_sub_cancel_left] at h2
  exact h2
theorem Wd.k0 {X : Cx} {μ : Mm} {H : Heap} (h : Wd X μ H) : (aT μ 0).1 ≤ 1 := by
  rcases h.1.2.2 with q | q
  · omega
  · rw [q.1]; exact Nat.le_refl _
theorem Wd.s0 {X : Cx} {μ : Mm} {H : Heap} (h : Wd X μ H) (h1 : 0 < (aT μ 0).1) : aT μ 0 = (1, xL X) ∧ ∀ j, j < xL X → Int32.ofInt (aV μ 0 j) = xS X j := by
  rcases h.1.2.2 with q | q
  · omega
  · exact q
theorem idx_in {n : Nat} {i : Int} (h0 : 0 ≤ i) (h1 : i < (n : Int)) (hn : n < 100000) : vp_in (Int32.ofInt i) n ∧ (Int32.ofInt i).toNatClampNeg = i.toNat := by
  have e : (Int32.ofInt i).toNatClampNeg = i.toNat := Int32.toNatClampNeg_ofInt_of_le (by omega) (by omega)
  refine ⟨?_, e⟩
  have hr : r32 i = true := by simp [r32]; omega
  intro q
  rcases q with q | q
  · rw [show (0 : Int32) = Int32.ofInt 0 from rfl, l32 hr rfl] at q
    omega
  · rw [e] at q
    omega
theorem SF.arr {X : Cx} {U : State} (h : SF X U) {k : Nat} (hk : k ∈ kds) : ArrOfT U (xA X k) (tyK k) ∧ va_RA U (xA X k) (tyK k) := by
  obtain ⟨t0, hl, he⟩ := List.getElem_of_mem hk
  exact h.1.2 t0 (xA X k, tyK k) (by
    unfold TYS
    rw [List.getElem?_map, List.getElem?_eq_getElem hl, he]
    rfl)
theorem CLS_at {y : Nat} (h : y < 13) : CLS[y]? = some (Rc y, Tc y, nf y) := by
  unfold CLS
  rw [List.getElem?_map, List.getElem?_range h]
  rfl
theorem SF.cls {X : Cx} {U : State} (h : SF X U) {y : Nat} (hy : y < 13) : u_Kn U (Rc y) (Tc y) (nf y) ((xD X).1 y) ((xD X).2 y) := h.1.1 y _ (CLS_at hy)
theorem gX_in {μ : Mm} {a k : Nat} {i : Int} (h : gX μ a k i = true) : (aT μ a).1 = k ∧ 0 ≤ i ∧ i < ((aT μ a).2 : Int) := by
  simpa [gX] using h
theorem nb {a : Nat} (h : (!Nat.beq a 0) = true) : a ≠ 0 := by
  intro e
  subst e
  cases h
theorem cOK.kept {X : Cx} {μ μ' : Mm} {a : Nat} {H H' : Heap} (h : cOK X μ a H) (hq : H'[ph X a]? = H[ph X a]?) (eT : aT μ' a = aT μ a) (eV : aV μ' a = aV μ a) (eR : aR μ' a = aR μ a) : cOK X μ' a H' := by
  have e1 : ∀ y, fV X μ' y a = fV X μ y a := fun y => by
    funext k
    unfold fV fVt
    rw [eV, eR]
  have e2 : ∀ k, elV X μ' k a = elV X μ k a := fun k => by
    unfold elV
    rw [eV, eR]
  unfold cOK
  rw [eT]
  refine ⟨fun q => ?_, fun q => ?_⟩
  · rw [e1]
    exact (h.1 q).kept hq
  · rw [e2, hq]
    exact h.2 q
theorem Wd.put {X : Cx} {μ μ' : Mm} {H H' : Heap} {a : Nat} (h : Wd X μ H) (ha : 1 ≤ a) (e1 : μ'.1 = μ.1) (eT : aT μ' = aT μ) (eV : ∀ a', a' ≠ a → aV μ' a' = aV μ a') (eR : ∀ a', a' ≠ a → aR μ' a' = aR μ a')
    (hz : μ.1 ≠ 0 → H'.size = H.size) (ho : ∀ q, q ≠ ph X a → H'[q]? = H[q]?) (he : cOK X μ' a H') : Wd X μ' H' := by
  have en : nN μ' = nN μ := by unfold nN; rw [e1]
  obtain ⟨⟨t1, t2, t3⟩, w, z⟩ := h
  refine ⟨⟨fun a' q => ?_, fun a' => ?_, ?_⟩, fun a' q1 q2 => ?_, fun q => ?_⟩
  · rw [eT]; exact t1 a' (by rw [← en]; exact q)
  · rw [eT]; exact t2 a'
  · rw [eT, eV 0 (by omega)]; exact t3
  · by_cases e : a' = a
    · subst e; exact he
    · exact (w a' q1 (by rw [← en]; exact q2)).kept (ho _ (fun z => e (ph_inj X q1 ha z))) (by rw [eT]) (eV a' e) (eR a' e)
  · rw [e1] at q ⊢
    rw [hz q]
    exact z q
theorem beqF {a b : Nat} (h : a ≠ b) : Nat.beq a b = false := by
  cases q : Nat.beq a b with
  | false => rfl
  | true => exact absurd (Nat.eq_of_beq_eq_true q) h
theorem uV_ne {V : Nat → Nat → Int} {a k a' : Nat} {z : Int} (h : a' ≠ a) : uV V a k z a' = V a' := by
  funext k'
  unfold uV
  rw [show Nat.beq a' a = false from beqF h]
  rfl
theorem uR_ne {V : Nat → Nat → Option Nat} {a k a' : Nat} {z : Option Nat} (h : a' ≠ a) : uR V a k z a' = V a' := by
  funext k'
  unfold uR
  rw [show Nat.beq a' a = false from beqF h]
  rfl
theorem uV_at (V : Nat → Nat → Int) (a k : Nat) (z : Int) (k' : Nat) : uV V a k z a k' = if k' = k then z else V a k' := by
  unfold uV
  rw [Nat.beq_refl]
  by_cases h : k' = k
  · subst h; simp
  · rw [show Nat.beq k' k = false from beqF h]
    simp [h]
theorem uR_at (V : Nat → Nat → Option Nat) (a k : Nat) (z : Option Nat) (k' : Nat) : uR V a k z a k' = if k' = k then z else V a k' := by
  unfold uR
  rw [Nat.beq_refl]
  by_cases h : k' = k
  · subst h; simp
  · rw [show Nat.beq k' k = false from beqF h]
    simp [h]
section SM
variable {p : Program} {l : Launch} {e : Env} {R : Room} {s : State} {m : MethodId} {args : Array Value} {below : List Frame} {meth : Method} {c : Code} {H : Heap} {locs : List Loc} {cells slots : Nat} {Q : State → Prop} {cc : ByteArray} {own : String}
theorem m_iald (X : Cx) (hx : p.tables.exec = Jvm.exec) (hb : c.code = cc) (hF : SF X s) (hX : va_X X.1 (xL X) (xS X) s s.heap) (hbb : X.1 < xB X) (hbs : xB X ≤ s.heap.size) {μ : Mm} {a : Nat} {i : Int} {r : List Value} {pc : Nat} {lc : Array Slot} (hd : decode cc pc = .ok (.iaload, 1)) (hg : gX μ a 1 i = true) (hW : Wd X μ H) (hS : va_S (wA X) s.heap H locs)
    (k : W p l e R s m args below meth c H locs cells slots Q (F0 m (pc + 1) lc (.int (Int32.ofInt (aV μ a i.toNat)) :: r))) : W p l e R s m args below meth c H locs cells slots Q (F0 m pc lc (.int (Int32.ofInt i) :: .ref (ph X a) :: r)) := by
  obtain ⟨hk, h0, h1⟩ := gX_in hg
  obtain ⟨q1, q2⟩ := idx_in h0 h1 (hW.len a)
  by_cases ha : a = 0
  · subst ha
    obtain ⟨e, ex⟩ := hW.s0 (by omega)
    rw [e] at h1 q1
    refine va_sld hx hb hX (by omega) (A := wA X) (by show ¬ xB X ≤ X.1; omega) hS q1 hd ?_
    rw [q2, ← ex i.toNat (by have : i < (xL X : Int) := h1; omega)]
    exact k
  · have hc := hW.arr ha (by omega) (by omega)
    rw [hk] at hc
    refine W.iald (v := .int (Int32.ofInt (aV μ a i.toNat))) hx hb hc ((hF.arr (k := 1) (by decide)).1 _ _) (fun q => by cases q) (by rw [arrV_size]; exact q1) ?_ rfl rfl hd k
    rw [q2, arrV_read _ _ (by omega)]
    rfl
theorem m_lald (X : Cx) (hx : p.tables.exec = Jvm.exec) (hb : c.code = cc) (hF : SF X s) {μ : Mm} {a : Nat} {i : Int} {r : List Value} {pc : Nat} {lc : Array Slot} (hd : decode cc pc = .ok (.laload, 1)) (hg : gX μ a 2 i = true) (hW : Wd X μ H)
    (k : W p l e R s m args below meth c H locs cells slots Q (F0 m (pc + 1) lc (.long (Int64.ofInt (aV μ a i.toNat)) :: r))) : W p l e R s m args below meth c H locs cells slots Q (F0 m pc lc (.int (Int32.ofInt i) :: .ref (ph X a) :: r)) := by
  obtain ⟨hk, h0, h1⟩ := gX_in hg
  obtain ⟨q1, q2⟩ := idx_in h0 h1 (hW.len a)
  have ha : a ≠ 0 := fun e => by
    subst e
    have := hW.k0
    omega
  have hc := hW.arr ha (by omega) (by omega)
  rw [hk] at hc
  refine W.lald (v := .long (Int64.ofInt (aV μ a i.toNat))) hx hb hc ((hF.arr (k := 2) (by decide)).1 _ _) (fun q => by cases q) (by rw [arrV_size]; exact q1) ?_ rfl rfl hd k
  rw [q2, arrV_read _ _ (by omega)]
  rfl
theorem m_zald (X : Cx) (hx : p.tables.exec = Jvm.exec) (hb : c.code = cc) (hF : SF X s) {μ : Mm} {a : Nat} {i : Int} {r : List Value} {pc : Nat} {lc : Array Slot} (hd : decode cc pc = .ok (.baload, 1)) (hg : gX μ a 3 i = true) (hW : Wd X μ H)
    (k : W p l e R s m args below meth c H locs cells slots Q (F0 m (pc + 1) lc (.int (Int32.ofInt (aV μ a i.toNat)) :: r))) : W p l e R s m args below meth c H locs cells slots Q (F0 m pc lc (.int (Int32.ofInt i) :: .ref (ph X a) :: r)) := by
  obtain ⟨hk, h0, h1⟩ := gX_in hg
  obtain ⟨q1, q2⟩ := idx_in h0 h1 (hW.len a)
  have ha : a ≠ 0 := fun e => by
    subst e
    have := hW.k0
    omega
  have hc := hW.arr ha (by omega) (by omega)
  rw [hk] at hc
  refine W.zald (v := .int (Int32.ofInt (aV μ a i.toNat))) hx hb hc ((hF.arr (k := 3) (by decide)).1 _ _) (fun q => by cases q) (by rw [arrV_size]; exact q1) ?_ rfl rfl hd k
  rw [q2, arrV_read _ _ (by omega)]
  rfl
theorem tyK_ref {k : Nat} (h4 : 4 ≤ k) : (tyK k).isReference = true := by
  match k, h4 with
  | 4, _ => rfl
  | k + 5, _ => rfl
theorem elV_ref (X : Cx) (μ : Mm) {k : Nat} (h4 : 4 ≤ k) (a j : Nat) : elV X μ k a j = va_rf ((aR μ a j).map (ph X)) := by
  match k, h4 with
  | k + 4, _ => rfl
theorem m_aald (X : Cx) (hx : p.tables.exec = Jvm.exec) (hb : c.code = cc) (hF : SF X s) {μ : Mm} {a q : Nat} {i : Int} {r : List Value} {pc : Nat} {lc : Array Slot} (hd : decode cc pc = .ok (.aaload, 1)) (hk : 4 ≤ (aT μ a).1 ∧ (aT μ a).1 < 64) (h0 : 0 ≤ i) (h1 : i < ((aT μ a).2 : Int)) (hr : aR μ a i.toNat = some q) (hW : Wd X μ H)
    (k : W p l e R s m args below meth c H locs cells slots Q (F0 m (pc + 1) lc (.ref (ph X q) :: r))) : W p l e R s m args below meth c H locs cells slots Q (F0 m pc lc (.int (Int32.ofInt i) :: .ref (ph X a) :: r)) := by
  obtain ⟨q1, q2⟩ := idx_in h0 h1 (hW.len a)
  have ha : a ≠ 0 := fun e => by
    subst e
    have := hW.k0
    omega
  have hc := hW.arr ha (by omega) hk.2
  refine W.aald (v := .ref (ph X q)) (ty := tyK (aT μ a).1) hx hb hc ((hF.arr (hW.kind (by omega) hk.2)).1 _ _) (tyK_ref hk.1) (fun q => by cases q) (by rw [arrV_size]; exact q1) ?_ rfl rfl hd k
  rw [q2, arrV_read _ _ (by omega), elV_ref X μ hk.1, hr]
  rfl
theorem m_alen (X : Cx) (hx : p.tables.exec = Jvm.exec) (hb : c.code = cc) (hF : SF X s) (hX : va_X X.1 (xL X) (xS X) s s.heap) (hbb : X.1 < xB X) (hbs : xB X ≤ s.heap.size) {μ : Mm} {a : Nat} {r : List Value} {pc : Nat} {lc : Array Slot} (hd : decode cc pc = .ok (.arraylength, 1)) (hk : 0 < (aT μ a).1 ∧ (aT μ a).1 < 64) (hW : Wd X μ H) (hS : va_S (wA X) s.heap H locs)
    (k : W p l e R s m args below meth c H locs cells slots Q (F0 m (pc + 1) lc (.int (Int32.ofInt ((aT μ a).2 : Int)) :: r))) : W p l e R s m args below meth c H locs cells slots Q (F0 m pc lc (.ref (ph X a) :: r)) := by
  by_cases ha : a = 0
  · subst ha
    refine va_slen (b := X.1) hx hb hX (Nat.lt_of_lt_of_le hbb hbs) (A := wA X) (by show ¬ xB X ≤ X.1; omega) hS hd ?_
    rw [(hW.s0 hk.1).1] at k
    exact k
  · have hc := hW.arr ha (by omega) hk.2
    refine W.alen (n := Int32.ofInt ((aT μ a).2 : Int)) hx hb hc ((hF.arr (hW.kind (by omega) hk.2)).1 _ _) ?_ rfl rfl hd k
    rw [arrV_size]
    rfl
theorem m_iast (X : Cx) (hx : p.tables.exec = Jvm.exec) (hb : c.code = cc) (hF : SF X s) {μ : Mm} {a : Nat} {i z : Int} {r : List Value} {pc : Nat} {lc : Array Slot} (hd : decode cc pc = .ok (.iastore, 1)) (hg : gX μ a 1 i = true) (ha : a ≠ 0) (hW : Wd X μ H) (hS : va_S (wA X) s.heap H locs)
    (k : ∀ H' locs', Wd X (wV μ a i.toNat z) H' → va_S (wA X) s.heap H' locs' → W p l e R s m args below meth c H' locs' cells slots Q (F0 m (pc + 1) lc r)) : W p l e R s m args below meth c H locs cells slots Q (F0 m pc lc (.int (Int32.ofInt z) :: .int (Int32.ofInt i) :: .ref (ph X a) :: r)) := by
  obtain ⟨hk, h0, h1⟩ := gX_in hg
  obtain ⟨q1, q2⟩ := idx_in h0 h1 (hW.len a)
  have hl := hW.live (a := a) (by omega) ha
  have hc := hW.arr ha (by omega) (by omega)
  rw [hk] at hc
  refine W.iast hx hb hc ((hF.arr (k := 1) (by decide)).1 _ _) (fun q => by cases q) (by rw [arrV_size]; exact q1) rfl rfl hd fun H' e1 e2 e3 => ?_
  refine k H' _ (hW.put hl.1 rfl rfl (fun a' h => uV_ne h) (fun a' _ => rfl) (fun _ => e2) e3 ?_) (hS.put e2 e3 (ph_A X hl.1))
  have ek : (aT (wV μ a i.toNat z) a).1 = 1 := hk
  refine ⟨fun q => by omega, fun _ => ?_⟩
  rw [ek, e1, arrV_store, q2]
  congr 2
  funext j
  show updV _ _ _ j = Value.int (Int32.ofInt (uV (aV μ) a i.toNat z a j))
  rw [uV_at]
  unfold updV
  split <;> rfl
theorem m_last (X : Cx) (hx : p.tables.exec = Jvm.exec) (hb : c.code = cc) (hF : SF X s) {μ : Mm} {a : Nat} {i z : Int} {r : List Value} {pc : Nat} {lc : Array Slot} (hd : decode cc pc = .ok (.lastore, 1)) (hg : gX μ a 2 i = true) (ha : a ≠ 0) (hW : Wd X μ H) (hS : va_S (wA X) s.heap H locs)
    (k : ∀ H' locs', Wd X (wV μ a i.toNat z) H' → va_S (wA X) s.heap H' locs' → W p l e R s m args below meth c H' locs' cells slots Q (F0 m (pc + 1) lc r)) : W p l e R s m args below meth c H locs cells slots Q (F0 m pc lc (.long (Int64.ofInt z) :: .int (Int32.ofInt i) :: .ref (ph X a) :: r)) := by
  obtain ⟨hk, h0, h1⟩ := gX_in hg
  obtain ⟨q1, q2⟩ := idx_in h0 h1 (hW.len a)
  have hl := hW.live (a := a) (by omega) ha
  have hc := hW.arr ha (by omega) (by omega)
  rw [hk] at hc
  refine W.last hx hb hc ((hF.arr (k := 2) (by decide)).1 _ _) (fun q => by cases q) (by rw [arrV_size]; exact q1) rfl rfl hd fun H' e1 e2 e3 => ?_
  refine k H' _ (hW.put hl.1 rfl rfl (fun a' h => uV_ne h) (fun a' _ => rfl) (fun _ => e2) e3 ?_) (hS.put e2 e3 (ph_A X hl.1))
  have ek : (aT (wV μ a i.toNat z) a).1 = 2 := hk
  refine ⟨fun q => by omega, fun _ => ?_⟩
  rw [ek, e1, arrV_store, q2]
  congr 2
  funext j
  show updV _ _ _ j = Value.long (Int64.ofInt (uV (aV μ) a i.toNat z a j))
  rw [uV_at]
  unfold updV
  split <;> rfl
theorem nar_b {z : Int} (h : z = 0 ∨ z = 1) : narrow .boolean (.int (Int32.ofInt z)) = .int (Int32.ofInt z) := by
  rcases h with rfl | rfl <;> rfl
theorem fit_b {z : Int} (h : z = 0 ∨ z = 1) : fits .boolean (.int (Int32.ofInt z)) = true := by
  rcases h with rfl | rfl <;> rfl
theorem m_zast (X : Cx) (hx : p.tables.exec = Jvm.exec) (hb : c.code = cc) (hF : SF X s) {μ : Mm} {a : Nat} {i z : Int} {r : List Value} {pc : Nat} {lc : Array Slot} (hd : decode cc pc = .ok (.bastore, 1)) (hg : gX μ a 3 i = true) (ha : a ≠ 0) (hz : z = 0 ∨ z = 1) (hW : Wd X μ H) (hS : va_S (wA X) s.heap H locs)
    (k : ∀ H' locs', Wd X (wV μ a i.toNat z) H' → va_S (wA X) s.heap H' locs' → W p l e R s m args below meth c H' locs' cells slots Q (F0 m (pc + 1) lc r)) : W p l e R s m args below meth c H locs cells slots Q (F0 m pc lc (.int (Int32.ofInt z) :: .int (Int32.ofInt i) :: .ref (ph X a) :: r)) := by
  obtain ⟨hk, h0, h1⟩ := gX_in hg
  obtain ⟨q1, q2⟩ := idx_in h0 h1 (hW.len a)
  have hl := hW.live (a := a) (by omega) ha
  have hc := hW.arr ha (by omega) (by omega)
  rw [hk] at hc
  refine W.zast hx hb hc ((hF.arr (k := 3) (by decide)).1 _ _) (fun q => by cases q) (by rw [arrV_size]; exact q1) rfl rfl hd fun H' e1 e2 e3 => ?_
  refine k H' _ (hW.put hl.1 rfl rfl (fun a' h => uV_ne h) (fun a' _ => rfl) (fun _ => e2) e3 ?_) (hS.put e2 e3 (ph_A X hl.1))
  have ek : (aT (wV μ a i.toNat z) a).1 = 3 := hk
  refine ⟨fun q => by omega, fun _ => ?_⟩
  rw [ek, e1, nar_b hz, arrV_store, q2]
  congr 2
  funext j
  show updV _ _ _ j = Value.int (Int32.ofInt (uV (aV μ) a i.toNat z a j))
  rw [uV_at]
  unfold updV
  split <;> rfl
end SM
