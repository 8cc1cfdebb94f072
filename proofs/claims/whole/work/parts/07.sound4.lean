/-! SOUNDNESS, 4: new arrays, stores of references, Object's constructor, System.arraycopy -/
theorem g_ai : Cond.arrayClass .int ∈ gw := by decide +kernel
theorem g_aj : Cond.arrayClass .long ∈ gw := by decide +kernel
theorem g_az : Cond.arrayClass .boolean ∈ gw := by decide +kernel
theorem g_oi : Cond.instanceMethod objectInit ∈ gw := by decide +kernel
theorem g_oc : Cond.code objectInit ⟨#[0xb1]⟩ 1 none ∈ gw := by decide +kernel
theorem g_cn : Cond.native arraycopyName ∈ gw := by decide +kernel
theorem g_cs : Cond.static arraycopyName ∈ gw := by decide +kernel
theorem g_cy : Cond.initialized "java/lang/System" ∈ gw := by decide +kernel
theorem elV_zero (X : Cx) (μ : Mm) {k : Nat} (hk : k ∈ kds) (a j : Nat) (hV : aV μ a j = 0) (hR : aR μ a j = none) : elV X μ k a j = defaultValue (tyK k) := by
  unfold elV
  simp only [kds, List.mem_cons, List.not_mem_nil, or_false] at hk
  rcases hk with rfl | rfl | rfl | rfl | rfl | rfl | rfl | rfl <;> simp only [hV, hR] <;> rfl
theorem kds_lt {k : Nat} (hk : k ∈ kds) : k < 64 := by
  simp only [kds, List.mem_cons, List.not_mem_nil, or_false] at hk
  omega
/-- an array of nothing is pushed -/
theorem Wd.pushA {X : Cx} {μ : Mm} {H : Heap} {k n : Nat} (h : Wd X μ H) (h0 : μ.1 ≠ 0) (hk : k ∈ kds) (hn : n < 100000) : Wd X (nw μ k n) (H.push ({ cls := xA X k, slots := Array.replicate n (defaultValue (tyK k)), vm := .none } : Cell)) ∧ ph X μ.1 = H.size := by
  have hz := h.2.2 h0
  have hp : ph X μ.1 = H.size := by rw [ph_pos X (by omega)]; omega
  refine ⟨?_, hp⟩
  generalize hH1 : H.push ({ cls := xA X k, slots := Array.replicate n (defaultValue (tyK k)), vm := .none } : Cell) = H1
  have z1 : H1.size = H.size + 1 := by rw [← hH1, Array.size_push]
  have e1 : H1[H.size]? = some (arrV (xA X k) n (fun _ => defaultValue (tyK k))) := by rw [← hH1, Array.getElem?_push_size, ← arrV_new]
  have o1 : ∀ q : Nat, q < H.size → H1[q]? = H[q]? := fun q hq => by rw [← hH1, Array.getElem?_push, if_neg (Nat.ne_of_lt hq)]
  refine h.push h0 ⟨hn, Or.inr (Or.inl hk)⟩ z1 o1 ?_
  have ek : aT (nw μ k n) μ.1 = (k, n) := uT_at _ _ _
  refine ⟨fun q => ?_, fun _ => ?_⟩
  · rw [ek] at q
    have := kds_lt hk
    have : 64 ≤ k := q
    omega
  · rw [ek, hp, e1]
    congr 2
    funext j
    exact (elV_zero X _ hk μ.1 j (zV_at _ _ _) (zR_at _ _ _)).symm
theorem va_S.grow {A : Nat → Prop} {H0 H : Heap} {locs : List Loc} (h : va_S A H0 H locs) (x : Cell) : va_S A H0 (H.push x) locs := ⟨Nat.le_trans h.1 (by rw [Array.size_push]; omega), fun q h1 h2 => by
  rw [Array.getElem?_push, if_neg (Nat.ne_of_lt (Nat.lt_of_lt_of_le h1 h.1))]
  exact h.2.1 q h1 h2, h.2.2⟩
theorem n_in {n : Int} (h0 : 0 ≤ n) (h1 : n < 100000) : ¬ Int32.ofInt n < 0 ∧ (Int32.ofInt n).toNatClampNeg = n.toNat := by
  have hr : r32 n = true := by simp [r32]; omega
  refine ⟨fun q => ?_, Int32.toNatClampNeg_ofInt_of_le (by omega) (by omega)⟩
  rw [show (0 : Int32) = Int32.ofInt 0 from rfl, l32 hr rfl] at q
  omega
section SM4
variable {p : Program} {l : Launch} {e : Env} {R : Room} {s : State} {m : MethodId} {args : Array Value} {below : List Frame} {meth : Method} {c : Code} {H : Heap} {locs : List Loc} {cells slots : Nat} {Q : State → Prop} {cc : ByteArray} {own : String}
theorem m_newa (X : Cx) (hx : p.tables.exec = Jvm.exec) (hb : c.code = cc) (hts : ∀ w ∈ gw, w.before args s = true) (hF : SF X s) {μ : Mm} {t : ArrayType} {n : Int} {r : List Value} {pc : Nat} {lc : Array Slot} (hd : decode cc pc = .ok (.newarray t, 2)) (ht : 0 < atk t) (h0 : μ.1 ≠ 0) (hn0 : 0 ≤ n) (hn1 : n < 100000) (hW : Wd X μ H) (hS : va_S (wA X) s.heap H locs) (hc : cells + 1 ≤ R.cells) (hs : slots + n.toNat ≤ R.slots)
    (k : ∀ H', Wd X (nw μ (atk t) n.toNat) H' → va_S (wA X) s.heap H' locs → W p l e R s m args below meth c H' locs (cells + 1) (slots + n.toNat) Q (F0 m (pc + 2) lc (.ref (ph X μ.1) :: r))) : W p l e R s m args below meth c H locs cells slots Q (F0 m pc lc (.int (Int32.ofInt n) :: r)) := by
  obtain ⟨q1, q2⟩ := n_in hn0 hn1
  cases t
  case int =>
    refine W.newa (atype := .int) hx hb (hts _ g_ai) rfl hd rfl q1 (by rw [q2]; show n.toNat * 4 ≤ _; omega) hc (by rw [q2]; exact hs) fun cA kA comp f1 f2 f3 => ?_
    have e1 : cA = xA X 1 := Option.some.inj (f1.symm.trans (hF.arr (k := 1) (by decide)).2)
    subst e1
    obtain ⟨w1, w2⟩ := hW.pushA h0 (k := 1) (by decide) (n := n.toNat) (by omega)
    have hk := k _ w1 (hS.grow _)
    rw [w2] at hk
    rw [q2]
    exact hk
  case long =>
    refine W.newa (atype := .long) hx hb (hts _ g_aj) rfl hd rfl q1 (by rw [q2]; show n.toNat * 8 ≤ _; omega) hc (by rw [q2]; exact hs) fun cA kA comp f1 f2 f3 => ?_
    have e1 : cA = xA X 2 := Option.some.inj (f1.symm.trans (hF.arr (k := 2) (by decide)).2)
    subst e1
    obtain ⟨w1, w2⟩ := hW.pushA h0 (k := 2) (by decide) (n := n.toNat) (by omega)
    have hk := k _ w1 (hS.grow _)
    rw [w2] at hk
    rw [q2]
    exact hk
  case boolean =>
    refine W.newa (atype := .boolean) hx hb (hts _ g_az) rfl hd rfl q1 (by rw [q2]; show n.toNat * 1 ≤ _; omega) hc (by rw [q2]; exact hs) fun cA kA comp f1 f2 f3 => ?_
    have e1 : cA = xA X 3 := Option.some.inj (f1.symm.trans (hF.arr (k := 3) (by decide)).2)
    subst e1
    obtain ⟨w1, w2⟩ := hW.pushA h0 (k := 3) (by decide) (n := n.toNat) (by omega)
    have hk := k _ w1 (hS.grow _)
    rw [w2] at hk
    rw [q2]
    exact hk
  all_goals (exfalso; revert ht; decide)
theorem anew_in {y : Nat} (hy : y = 2 ∨ y = 3 ∨ y = 5 ∨ y = 7) : 32 + y ∈ kds ∧ tyK (32 + y) = .object (Rc y) := by
  rcases hy with rfl | rfl | rfl | rfl <;> exact ⟨by decide, rfl⟩
theorem m_anew (X : Cx) (hx : p.tables.exec = Jvm.exec) (hb : c.code = cc) (hown : s.vm.findClass own = some m.cls) (hF : SF X s) {μ : Mm} {y i : Nat} {n : Int} {r : List Value} {pc : Nat} {lc : Array Slot} (hd : decode cc pc = .ok (.anewarray i, 3)) (hy : y = 2 ∨ y = 3 ∨ y = 5 ∨ y = 7) (hlk : (Cond.classLink own i (Rc y)).before args s = true) (hov : (Cond.arrayOver (.object (Rc y))).before args s = true) (h0 : μ.1 ≠ 0) (hn0 : 0 ≤ n) (hn1 : n < 100000) (hW : Wd X μ H) (hS : va_S (wA X) s.heap H locs) (hc : cells + 1 ≤ R.cells) (hs : slots + n.toNat ≤ R.slots)
    (k : ∀ H', Wd X (nw μ (32 + y) n.toNat) H' → va_S (wA X) s.heap H' locs → W p l e R s m args below meth c H' locs (cells + 1) (slots + n.toNat) Q (F0 m (pc + 3) lc (.ref (ph X μ.1) :: r))) : W p l e R s m args below meth c H locs cells slots Q (F0 m pc lc (.int (Int32.ofInt n) :: r)) := by
  obtain ⟨q1, q2⟩ := n_in hn0 hn1
  obtain ⟨hk1, hk2⟩ := anew_in hy
  refine W.anew hx hb hown hlk hov rfl hd rfl q1 (by rw [q2]; omega) hc (by rw [q2]; exact hs) fun cA kA comp f1 f2 f3 f4 => ?_
  have hra := (hF.arr hk1).2
  rw [hk2] at hra
  obtain ⟨_, _, -, -, -, f5⟩ := hra
  have e1 : cA = xA X (32 + y) := Option.some.inj (f1.symm.trans f5)
  subst e1
  obtain ⟨w1, w2⟩ := hW.pushA h0 hk1 (n := n.toNat) (by omega)
  rw [hk2] at w1
  have hk := k _ w1 (hS.grow _)
  rw [w2] at hk
  rw [q2]
  exact hk
theorem ast_in {k : Nat} (hk : k ∈ kds) (h : 32 ≤ k) : k - 32 < 13 ∧ tyK k = .object (Rc (k - 32)) := by
  simp only [kds, List.mem_cons, List.not_mem_nil, or_false] at hk
  rcases hk with rfl | rfl | rfl | rfl | rfl | rfl | rfl | rfl <;> first | omega | exact ⟨by decide, rfl⟩
theorem m_aast (X : Cx) (hx : p.tables.exec = Jvm.exec) (hb : c.code = cc) (hF : SF X s) {μ : Mm} {a q : Nat} {i : Int} {r : List Value} {pc : Nat} {lc : Array Slot} (hd : decode cc pc = .ok (.aastore, 1)) (hk : 32 ≤ (aT μ a).1 ∧ (aT μ a).1 < 64) (h0 : 0 ≤ i) (h1 : i < ((aT μ a).2 : Int)) (hq : (aT μ q).1 = (aT μ a).1 + 32) (ha : a ≠ 0) (hq0 : q ≠ 0) (hW : Wd X μ H) (hS : va_S (wA X) s.heap H locs)
    (k : ∀ H' locs', Wd X (wR μ a i.toNat q) H' → va_S (wA X) s.heap H' locs' → W p l e R s m args below meth c H' locs' cells slots Q (F0 m (pc + 1) lc r)) : W p l e R s m args below meth c H locs cells slots Q (F0 m pc lc (.ref (ph X q) :: .int (Int32.ofInt i) :: .ref (ph X a) :: r)) := by
  obtain ⟨q1, q2⟩ := idx_in h0 h1 (hW.len a)
  have hl := hW.live (a := a) (by omega) ha
  have hkd := hW.kind (a := a) (by omega) hk.2
  obtain ⟨hy, hty⟩ := ast_in hkd hk.1
  obtain ⟨cellV, g1, g2, g3, -⟩ := hW.obj (y := (aT μ a).1 - 32) hq0 (by omega)
  have hcls := (hF.cls hy).2
  have hra := (hF.arr hkd).2
  rw [hty] at hra
  obtain ⟨kA, comp, k1, k2, k3, -⟩ := hra
  have hcomp : comp = (xD X).1 ((aT μ a).1 - 32) := Option.some.inj (k3.symm.trans hcls.1)
  subst hcomp
  obtain ⟨kC, hkC, -⟩ := hcls.2
  refine W.aast hx hb (hW.arr ha (by omega) hk.2) (fun q h => by cases h) (fun h => by cases h) k1 k2 rfl hkC ⟨fun z => q1 (Or.inl z), by rw [arrV_size]; exact Nat.not_le.mp fun z => q1 (Or.inr z)⟩ g1 (fun q h => by rw [g3] at h; cases h) (by rw [g2]; exact hkC) (by rw [g2]; exact va_assign hcls) rfl rfl hd fun H1 e1 e2 e3 => ?_
  refine k H1 _ (hW.put hl.1 rfl rfl (fun a' _ => rfl) (fun a' h => uR_ne h) (fun _ => e2) e3 ?_) (hS.put e2 e3 (ph_A X hl.1))
  have ek : aT (wR μ a i.toNat q) a = aT μ a := rfl
  refine ⟨fun q => by rw [ek] at q; omega, fun _ => ?_⟩
  rw [ek, e1, arrV_store, q2]
  congr 2
  funext j
  rw [elV_ref X _ (by omega)]
  show updV _ _ _ j = va_rf ((uR (aR μ) a i.toNat (some q) a j).map (ph X))
  rw [uR_at]
  unfold updV
  split
  · rfl
  · rw [elV_ref X _ (by omega)]
theorem m_oi (X : Cx) (hx : p.tables.exec = Jvm.exec) (hb : c.code = cc) (hown : s.vm.findClass own = some m.cls) (hts : ∀ w ∈ gw, w.before args s = true) {a i : Nat} {r : List Value} {pc : Nat} {lc : Array Slot} (hd : decode cc pc = .ok (.invokespecial i, 3)) (hlk : (Cond.methodLink own i objectInit).before args s = true) (hsz : lc.size = c.maxLocals) (hr : (r.map fun v => v.category).sum ≤ 8) (hR : 1 ≤ R.frames ∧ 64 ≤ R.locals)
    (k : W p l e R s m args below meth c H locs cells slots Q (F0 m (pc + 3) lc r)) : W p l e R s m args below meth c H locs cells slots Q (F0 m pc lc (.ref a :: r)) := by
  refine W.objInit hx hb hown hlk (hts _ g_oi) (hts _ g_oc) rfl hsz rfl hd hR.1 ?_ k
  have := lv_room (m := m) (pc := pc) (ls := lc) (rest := (.ref a :: r)) hr
  omega
end SM4
