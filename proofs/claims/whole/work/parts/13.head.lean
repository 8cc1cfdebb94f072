/-! THE LAW'S HEAD: from the entry to the loop, and the claim out of one run of the abstract machine -/
section S13
variable {p : Program} {l : Launch} {e : Env} {R : Room} {s : State} {mid : MethodId} {args : Array Value} {below : List Frame} {meth : Method} {c : Code} {H : Heap} {locs : List Loc} {Q : State → Prop}
theorem st_1 (X : Cx) (hA : OKA) {m : Nat} (B : BC X p s mid args meth c m) (hR : 1 ≤ R.frames ∧ 64 ≤ R.locals) {pc pc1 : Nat} {ls ls1 : LSt} {st st1 : St} {μ μ1 : Mm} (q : nx1 m pc ls st μ = some (true, pc1, ls1, st1, μ1)) {lc : Array Slot} (hL : LR X (mL m) ls lc) (hW : Wd X μ H) (hS : va_S (wA X) s.heap H locs) {j0 j1 k0 k1 : Nat} (hk0 : k0 ≤ μ.1 + j0) (hk1 : k1 ≤ μ.2.1 + j1) (hc : μ1.1 + j0 - k0 ≤ R.cells) (hs : μ1.2.1 + j1 - k1 ≤ R.slots)
    (go : ∀ H' locs' lc', LR X (mL m) ls1 lc' → Wd X μ1 H' → va_S (wA X) s.heap H' locs' → W p l e R s mid args below meth c H' locs' (μ1.1 + j0 - k0) (μ1.2.1 + j1 - k1) Q (F0 mid pc1 lc' (st1.map (vC X)))) : W p l e R s mid args below meth c H locs (μ.1 + j0 - k0) (μ.2.1 + j1 - k1) Q (F0 mid pc lc (st.map (vC X))) := by
  unfold nx1 at q
  split at q
  · rename_i ins nx y w c' z qq hcd
    have hok := hA m pc _ hcd
    obtain ⟨hd, hnx, hw⟩ := ok_dec hok
    obtain ⟨hx, hb, hml, hown, hts, hF, hX, hbb, hbs, hnm⟩ := id B
    unfold fN at q
    split at q
    · rename_i g1 st2 q1
      simp only [Option.some.injEq, Prod.mk.injEq] at q
      obtain ⟨rfl, rfl, rfl, rfl, rfl⟩ := q
      obtain ⟨hd1, hn1⟩ := ok_dec1 hok (fA_sw q1)
      have hn1 : nx = pc + ilen ins := hn1
      subst hn1
      exact st_A X hx hb hown hd1 (ok_A B hw) q1 (go H locs lc hL hW hS)
    · split at q
      · rename_i g1 ls2 st2 q1
        simp only [Option.some.injEq, Prod.mk.injEq] at q
        obtain ⟨rfl, rfl, rfl, rfl, rfl⟩ := q
        obtain ⟨hd1, hn1⟩ := ok_dec1 hok (fL_sw q1)
        have hn1 : nx = pc + ilen ins := hn1
        subst hn1
        exact st_L X hx hb hd1 (ok_L hw) q1 hL (fun lc' a1 => go H locs lc' a1 hW hS)
      · split at q
        · rename_i g1 st2 μ2 q1
          simp only [Option.some.injEq, Prod.mk.injEq] at q
          obtain ⟨rfl, rfl, rfl, rfl, rfl⟩ := q
          obtain ⟨hd1, hn1⟩ := ok_dec1 hok (fM_sw q1)
          have hn1 : nx = pc + ilen ins := hn1
          subst hn1
          exact st_M X B hR hd1 hw q1 hL hW hS hk0 hk1 hc hs (fun H' locs' a2 a3 => go H' locs' lc hL a2 a3)
        · split at q
          · rename_i g1 pc2 st2 q1
            simp only [Option.some.injEq, Prod.mk.injEq] at q
            obtain ⟨rfl, rfl, rfl, rfl, rfl⟩ := q
            exact st_J X hx hb hd hnx (ok_J hw) q1 (go H locs lc hL hW hS)
          · cases q
  · cases q
end S13
theorem all_in {n : Nat} {f : Nat → Bool} (h : (List.range n).all f = true) : ∀ i, i < n → f i = true := fun i hi => List.all_eq_true.mp h i (List.mem_range.mpr hi)
theorem chk_in {μ : Mm} (h : chk μ = true) : ∀ a, 1 ≤ a → a ≤ 150 → aT μ a = T00 a ∧ ∀ k, k < (T00 a).2 → aV μ a k = V00 a k ∧ aR μ a k = RR false a k := by
  intro a h1 h2
  have q := all_in h (a - 1) (by omega)
  rw [show a - 1 + 1 = a by omega, Bool.and_eq_true] at q
  refine ⟨of_decide_eq_true q.1, fun k hk => ?_⟩
  have q2 := all_in q.2 k hk
  rw [Bool.and_eq_true] at q2
  exact ⟨of_decide_eq_true q2.1, of_decide_eq_true q2.2⟩
theorem T00_ok : ∀ a, a < 151 → (T00 a).2 < 100000 ∧ ((T00 a).1 = 0 ∨ (T00 a).1 ∈ kds ∨ (64 ≤ (T00 a).1 ∧ (T00 a).1 < 77)) := by decide +kernel
theorem T00_obj : ∀ a, a < 151 → 64 ≤ (T00 a).1 → (T00 a).2 = nf ((T00 a).1 - 64) := by decide +kernel
theorem T00_out {a : Nat} (h : 151 ≤ a) : T00 a = (0, 0) := by
  unfold T00
  rw [blt_f h]
  rfl
theorem TT_pos (L : Nat) {a : Nat} (h : 1 ≤ a) : TT L a = T00 a := by
  unfold TT
  rw [beqF (by omega)]
  rfl
theorem V0_pos (xs : Nat → Int32) {a : Nat} (h : 1 ≤ a) (k : Nat) : V0 xs a k = V00 a k := by
  unfold V0
  rw [beqF (by omega)]
  rfl
theorem elV_congr (X : Cx) {μ μ' : Mm} {k a j : Nat} (h1 : aV μ a j = aV μ' a j) (h2 : aR μ a j = aR μ' a j) : elV X μ k a j = elV X μ' k a j := by
  match k with
  | 0 => show va_rf _ = va_rf _; rw [h2]
  | 1 => show Value.int _ = Value.int _; rw [h1]
  | 2 => show Value.long _ = Value.long _; rw [h1]
  | 3 => show Value.int _ = Value.int _; rw [h1]
  | k + 4 => show va_rf _ = va_rf _; rw [h2]
/-- the world as the constructors left it, told by the tables -/
theorem Wd.start {X : Cx} {μ : Mm} {H : Heap} (h : Wd X μ H) (h1 : μ.1 = 151) (hc : chk μ = true) (hL : xL X < 100000) : Wd X (M0 (xL X) (V0 (xS X)) false) H := by
  have hc := chk_in hc
  have en : nN μ = 150 := by rw [nN_pos (by omega), h1]
  refine ⟨⟨fun a q => ?_, fun a => ?_, Or.inr ⟨rfl, fun j _ => ?_⟩⟩, fun a q1 q2 => ?_, fun q => absurd rfl q⟩
  · have q : 150 < a := q
    show (TT (xL X) a).1 = 0
    rw [TT_pos _ (by omega), T00_out (by omega)]
  · show KOK (TT (xL X) a)
    by_cases e : a = 0
    · subst e; exact ⟨hL, Or.inr (Or.inl (show 1 ∈ kds by decide))⟩
    · rw [TT_pos _ (by omega)]
      by_cases e2 : a < 151
      · exact T00_ok a e2
      · rw [T00_out (by omega)]; exact ⟨by decide, Or.inl rfl⟩
  · show Int32.ofInt (V0 (xS X) 0 j) = xS X j
    exact Int32.ofInt_toInt _
  · have q2 : a ≤ 150 := q2
    obtain ⟨eT, eK⟩ := hc a q1 q2
    have w := h.2.1 a q1 (by omega)
    have eT2 : aT (M0 (xL X) (V0 (xS X)) false) a = T00 a := TT_pos _ q1
    refine ⟨fun q => ?_, fun q => ?_⟩
    · rw [eT2] at q ⊢
      have w1 := w.1 (by rw [eT]; exact q)
      rw [eT] at w1
      refine w1.to fun k hk => ?_
      obtain ⟨e1, e2⟩ := eK k (by rw [T00_obj a (by omega) q]; exact hk)
      unfold fV fVt
      rw [e1, e2]
      show _ = (match tc ((T00 a).1 - 64) k with | .int => _ | .boolean => _ | .long => _ | _ => _)
      rw [show aV (M0 (xL X) (V0 (xS X)) false) a k = V00 a k from V0_pos _ q1 k]
      rfl
    · rw [eT2] at q ⊢
      have w2 := w.2 (by rw [eT]; exact q)
      rw [eT] at w2
      rw [w2]
      congr 1
      refine arrV_congr _ _ fun j hj => ?_
      obtain ⟨e1, e2⟩ := eK j hj
      exact elV_congr X (e1.trans (V0_pos _ q1 j).symm) e2
/-! the claim's frame (as the kit's skeleton has it) -/
def R_law : String := "MendedOrNewLaw"
def lw_P (b : Addr) (xs : List Int32) (args : Array Value) (s : State) : Prop := args = #[.ref b] ∧ s.IntsAt b xs ∧ xs.length ≤ 3584 ∧ (Jvm.Cond.and given_1 narrow_1).before args s = true
def lw_Q (_ : Array Value) (s : State) (o : Outcome) (t : State) : Prop := o = .returned (some (.int 1)) ∧ Framed s o t [] 600000 7302250
def lw_Z (below : List Frame) (a : Array Value) (s : State) : State → Prop := fun t => ∃ o, t.status = .running ∧ Ended t below o ∧ lw_Q a s o t
theorem lw_ret {p : Program} {l : Launch} {e : Env} {s : State} {m : MethodId} {below : List Frame} {meth : Method} {c : Code} {b : Nat} (hx : p.tables.exec = Jvm.exec) (hb : c.code = code) (hr : meth.sig.returnType = ret) (hlocks : meth.locks = false) {pc : Nat} {H : Heap} {ls : Array Slot} (hdg : decode code pc = .ok (.ireturn, 1)) : W p l e room_1 s m #[Value.ref b] below meth c H [] 600000 7302250 (lw_Z below #[Value.ref b] s) (F0 m pc ls [.int 1]) := by
  intro T hT X
  obtain ⟨fs, hret, hrun, hended, hW, hframe⟩ := X.leave (v := some (.int 1)) (hlocks := hlocks) (fun h => by rw [hr] at h; cases h)
  have hmeth' : T.vm.method? m = some meth := X.method'
  refine ⟨T.setFrames fs, ?_, .returned (some (.int 1)), hrun, hended, rfl, ⟨_, rfl⟩, hW, hframe⟩
  jvm_step X.here [X.here.top, hx, hb, hdg, hmeth', hr, ret, narrow_b1]
  (try refine ⟨rfl, ?_⟩); (try refine ⟨rfl, ?_⟩)
  first | (intro acts; rw [hret _ acts rfl rfl rfl]) | rw [hret _ _ rfl rfl rfl]
  exact Steps.refl _
def lw_At (p : Program) (s : State) (m : MethodId) (meth : Method) (c : Code) (b L : Nat) (xs : Nat → Int32) : Prop :=
  p.tables.exec = Jvm.exec ∧ c.code = code ∧ meth.sig.returnType = ret ∧ c.maxLocals = 4 ∧ s.vm.findClass R_law = some m.cls ∧ (∀ w ∈ lw_tbl, w.before #[Value.ref b] s = true) ∧ va_X b L xs s s.heap ∧ b < s.heap.size ∧ meth.locks = false ∧ (Jvm.Cond.and given_1 narrow_1).before #[Value.ref b] s = true
theorem gw_sub {w : Cond} (h : w ∈ gw) : w ∈ lw_tbl := (List.mem_filter.mp h).1
/-- the array class of a kind -/
theorem arr_known {args : Array Value} {s : State} (hts : ∀ w ∈ lw_tbl, w.before args s = true) (k : Nat) (hk : k ∈ kds) : ∃ cA : ClassId, ArrOfT s cA (tyK k) ∧ va_RA s cA (tyK k) := by
  have prim : ∀ ty : FieldType, (Cond.arrayClass ty).before args s = true → (∀ cA, s.vm.findClass ("[" ++ ty.toString) = some cA → va_RA s cA ty) → ∃ cA : ClassId, ArrOfT s cA ty ∧ va_RA s cA ty := fun ty h hr => by
    obtain ⟨cA, kA, comp, f1, f2, f3⟩ := Cond.arrayClass_spec h
    exact ⟨cA, fun N z => ⟨(fun k h => by cases h), kA, f2, comp, f3⟩, hr cA f1⟩
  have obj : ∀ y, (y = 2 ∨ y = 3 ∨ y = 5 ∨ y = 7) → ∃ cA : ClassId, ArrOfT s cA (.object (Rc y)) ∧ va_RA s cA (.object (Rc y)) := fun y hy => by
    obtain ⟨comp, cA, kA, f1, f2, f3, f4, f5⟩ := Cond.arrayOver_spec (hts _ (g_over y hy))
    exact ⟨cA, fun N z => ⟨(fun k h => by cases h), kA, f3, comp, f4⟩, kA, comp, f3, f4, f1, f5⟩
  simp only [kds, List.mem_cons, List.not_mem_nil, or_false] at hk
  rcases hk with rfl | rfl | rfl | rfl | rfl | rfl | rfl | rfl
  · exact prim .int (hts _ (gw_sub g_ai)) (fun cA h => h)
  · exact prim .long (hts _ (gw_sub g_aj)) (fun cA h => h)
  · exact prim .boolean (hts _ (gw_sub g_az)) (fun cA h => h)
  · obtain ⟨cI, cA, kA, f1, f2, f3, f4⟩ := over_in (hts _ g_over2)
    exact ⟨cA, fun N z => ⟨(fun k h => by cases h), kA, f2, cI, f3⟩, f4⟩
  · exact obj 2 (by omega)
  · exact obj 3 (by omega)
  · exact obj 5 (by omega)
  · exact obj 7 (by omega)
theorem SF_start {args : Array Value} {s : State} (hts : ∀ w ∈ lw_tbl, w.before args s = true) : ∃ (D : va_G) (dA : Nat → ClassId), ∀ b base L xs, SF (b, base, L, xs, D, dA) s := by
  have h1 : ∀ y, ∃ (q : ClassId × (Nat → Nat)), y < 13 → u_Kn s (Rc y) (Tc y) (nf y) q.1 q.2 := fun y => by
    by_cases hy : y < 13
    · obtain ⟨cC, iS, h⟩ := u_known (n := nf y) hts (fun w hw => gw_sub (c_lays y hy w hw)) (hts _ (gw_sub (c_inst y hy)))
      exact ⟨(cC, iS), fun _ => h⟩
    · exact ⟨(0, fun _ => 0), fun q => absurd q hy⟩
  have h2 : ∀ k, ∃ cA : ClassId, k ∈ kds → ArrOfT s cA (tyK k) ∧ va_RA s cA (tyK k) := fun k => by
    by_cases hk : k ∈ kds
    · obtain ⟨cA, h⟩ := arr_known hts k hk
      exact ⟨cA, fun _ => h⟩
    · exact ⟨0, fun q => absurd q hk⟩
  refine ⟨(fun y => (Classical.choose (h1 y)).1, fun y => (Classical.choose (h1 y)).2), fun k => Classical.choose (h2 k), fun b base L xs => ⟨⟨fun y q hq => ?_, fun t q hq => ?_⟩, fun w hw hs => ?_⟩⟩
  · have hy : y < 13 := by
      have := (List.getElem?_eq_some_iff.mp hq).1
      simpa [CLS] using this
    rw [CLS_at hy] at hq
    cases hq
    exact Classical.choose_spec (h1 y) hy
  · unfold TYS at hq
    rw [List.getElem?_map] at hq
    obtain ⟨k, hk, e⟩ := Option.map_eq_some_iff.mp hq
    subst e
    exact Classical.choose_spec (h2 k) (List.mem_of_getElem? hk)
  · have h := hts w hw
    cases w <;> first | (cases hs; done) | skip
    case methodLinkNest a i x hst => exact va_Nw.of rfl h
    case arrayOver ty => exact h
