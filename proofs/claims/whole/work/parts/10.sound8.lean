/-! SOUNDNESS, 8: calls, and runs of the abstract machine -/
theorem SF.moved {X : Cx} {u U : State} (hW : u.WarmedH U.vm) (h : SF X u) : SF X U := by
  refine ⟨va_K.moved hW.alike h.1, fun w hw hs => ?_⟩
  have h2 := h.2 w hw hs
  cases w <;> first | (cases hs; done) | skip
  case methodLinkNest a i x hst => exact va_Nw.warmM hW h2
  case arrayOver ty =>
    have e : (Cond.arrayOver ty).before #[] (u.setVm U.vm) = (Cond.arrayOver ty).before #[] u := Cond.arrayOver_setVmC hW.alike ty
    have h3 : (Cond.arrayOver ty).before #[] (u.setVm U.vm) = true := e.trans h2
    exact h3
theorem SF.same {X : Cx} {u U : State} (hv : u.vm = U.vm) (h : SF X u) : SF X U := by
  refine ⟨va_K.moved (by rw [hv]; exact Vm.Alike.refl _) h.1, fun w hw hs => ?_⟩
  have h2 := h.2 w hw hs
  cases w <;> first | (cases hs; done) | skip
  case methodLinkNest a i x hst => exact va_Nw.same rfl hv h2
  case arrayOver ty =>
    have e : (Cond.arrayOver ty).before #[] (u.setVm U.vm) = (Cond.arrayOver ty).before #[] u := Cond.arrayOver_setVmC (by rw [hv]; exact Vm.Alike.refl _) ty
    have h3 : (Cond.arrayOver ty).before #[] (u.setVm U.vm) = true := e.trans h2
    exact h3
/-- the world at a state -/
def WS (X : Cx) (μ : Mm) (U : State) : Prop := SF X U ∧ Wd X μ U.heap ∧ va_X X.1 (xL X) (xS X) U U.heap ∧ X.1 < xB X ∧ xB X ≤ U.heap.size
def rmD (d mc ms : Nat) : Room := { frames := d + 1, cells := mc, slots := ms, locals := 64 * d + 64 }
def wsM (m : Nat) : List Cond := Cond.code (yM m) (bM m) (mL m) (rM m) :: gw
def Qm (X : Cx) (v : Option AV) (μ : Mm) : Array Value → State → Outcome → State → Prop := fun _ st oc t => oc = .returned (v.map (vC X)) ∧ Wd X μ t.heap ∧ va_F (wA X) st t
def CON (X : Cx) (l : Launch) (d m : Nat) (as : List AV) (μ : Mm) (v : Option AV) (μ' : Mm) : Prop := Met l (yM m) (wsM m) (rmD d (μ'.1 - μ.1) (μ'.2.1 - μ.2.1)) (va_Pc (as.map (vC X)) (WS X μ)) (Qm X v μ') (μ'.1 - μ.1) (μ'.2.1 - μ.2.1) (wA X)
theorem WS_blind (X : Cx) (μ : Mm) (as : List Value) : FrameBlind (va_Pc as (WS X μ)) := fun a U g mk h => ⟨h.1, SF.same (u := U) (U := U.calling g mk a) rfl h.2.1, h.2.2.1, va_X.moved (u := U) (U := U.calling g mk a) (Vm.Alike.refl U.vm) h.2.2.2.1, h.2.2.2.2⟩
theorem va_X.at {X : Cx} {s : State} {H : Heap} {locs : List Loc} (hX : va_X X.1 (xL X) (xS X) s s.heap) (hbb : X.1 < xB X) (hbs : xB X ≤ s.heap.size) (hS : va_S (wA X) s.heap H locs) : va_X X.1 (xL X) (xS X) s H := hX.kept (hS.2.1 X.1 (by omega) (by show ¬ xB X ≤ X.1; omega))
theorem WS_of {X : Cx} {μ : Mm} {s U : State} {H : Heap} {locs : List Loc} (hF : SF X s) (hX : va_X X.1 (xL X) (xS X) s s.heap) (hbb : X.1 < xB X) (hbs : xB X ≤ s.heap.size) (hS : va_S (wA X) s.heap H locs) (hW : Wd X μ H) (hU : U.heap = H) (hw : s.WarmedH U.vm) : WS X μ U := by
  refine ⟨hF.moved hw, by rw [hU]; exact hW, ?_, hbb, ?_⟩
  · rw [hU]
    exact va_X.moved hw.alike (va_X.at hX hbb hbs hS)
  · rw [hU]
    exact Nat.le_trans hbs hS.1
theorem gw_good {w : Cond} (h : w ∈ gw) : goodWord w = true := (List.mem_filter.mp h).2
def OKM : Prop := ∀ m, 1 ≤ m → m < 232 → okMt m = true ∧ tw (mQ m).2.2.1 = some (.code (yM m) (bM m) (mL m) (rM m))
theorem okMt_in {m : Nat} (h : okMt m = true ∧ tw (mQ m).2.2.1 = some (.code (yM m) (bM m) (mL m) (rM m))) : Cond.code (yM m) (bM m) (mL m) (rM m) ∈ gw ∧ Cond.initialized (yM m).cls ∈ gw ∧ plainName (yM m).cls = true ∧ (yM m).cls ≠ "java/lang/invoke/MethodHandle" ∧ (yM m).cls ≠ "java/lang/invoke/VarHandle" ∧ (parseMethodDescriptor (yM m).desc).map (fun d => d.parameters.length) = some (mN m) ∧ mL m ≤ 45 ∧ ((yM m).name = "<init>" → tw (mQ m).1 = some (.instanceMethod (yM m))) := by
  obtain ⟨h, h1⟩ := h
  simp only [okMt, Bool.and_eq_true, decide_eq_true_eq, Bool.or_eq_true, beq_iff_eq, decide_eq_false_iff_not] at h
  obtain ⟨h2, h3, h4, h5, h6, h7, h8⟩ := h
  refine ⟨tw_gw h1 rfl, tw_gw h2 rfl, h3, h4, h5, h6, Nat.le_of_ble_eq_true h7, fun q => ?_⟩
  rcases h8 with z | z
  · exact absurd q z
  · exact z
theorem good_ws {m : Nat} (h : okMt m = true ∧ tw (mQ m).2.2.1 = some (.code (yM m) (bM m) (mL m) (rM m))) : GoodIn gw (wsM m) := fun w hw => by
  have hg : w ∈ gw := by
    rcases List.mem_cons.mp hw with e | e
    · rw [e]; exact (okMt_in h).1
    · exact e
  exact ⟨hg, good_of_word (gw_good hg)⟩
section SR
variable {p : Program} {l : Launch} {e : Env} {R : Room} {s : State} {mid : MethodId} {args : Array Value} {below : List Frame} {meth : Method} {c : Code} {H : Heap} {locs : List Loc} {cells slots : Nat} {Q : State → Prop}
theorem cl_go {X : Cx} {mc ms pc : Nat} {lc : Array Slot} {st0 rest : List Value} {v : Option AV} {μ' : Mm} {a : Array Value} (hr : va_Run p l e R s mid args below meth c H locs cells slots mc ms (F0 mid pc lc st0) rest (Qm X v μ' a) (wA X)) (hS : va_S (wA X) s.heap H locs)
    (kk : ∀ (H1 : Heap) (locs1 : List Loc), Wd X μ' H1 → va_S (wA X) s.heap H1 locs1 → W p l e R s mid args below meth c H1 locs1 (cells + mc) (slots + ms) Q (F0 mid (pc + 3) lc ((v.map (vC X)).toList ++ rest))) : W p l e R s mid args below meth c H locs cells slots Q (F0 mid pc lc st0) := by
  intro T hT X0
  obtain ⟨v', st₀, t, T', L, h0, X', hL, e1, e2, ⟨hv, hw, hz, hk⟩, st⟩ := hr T hT X0
  cases hv
  rw [h0] at hz hk
  obtain ⟨t2, a1, b1⟩ := kk T'.heap (locs ++ L) (by rw [e1]; exact hw) ⟨Nat.le_trans hS.1 (by rw [e1]; exact hz), fun q h1 h2 => by rw [e1, hk q (Nat.lt_of_lt_of_le h1 hS.1) h2]; exact hS.2.1 q h1 h2, fun q hq => by
    rcases List.mem_append.mp hq with h | h
    · exact hS.2.2 q h
    · exact hL q h⟩ T' rfl X'
  exact ⟨t2, st t2 a1, b1⟩
theorem tl_map (X : Cx) (v : Option AV) (r : St) : (v.map (vC X)).toList ++ r.map (vC X) = (v.toList ++ r).map (vC X) := by
  cases v <;> simp
theorem sk_map (X : Cx) (st : St) (w : Nat) : st.map (vC X) = (((st.take w).reverse).map (vC X)).reverse ++ (st.drop w).map (vC X) := by
  rw [← List.map_reverse, List.reverse_reverse, ← List.map_append, List.take_append_drop]
/-- a call -/
theorem st_C (X : Cx) {m : Nat} (hA : OKA) (hM : OKM) (B : BC X p s mid args meth c m) {d : Nat} (hR : d + 2 ≤ R.frames ∧ 64 * (d + 1) + 64 ≤ R.locals) {y pc nx : Nat} {as : List AV} {st rest : St} {μ μ1 : Mm} {v : Option AV} (h : fC m pc st μ = some (y, true, as, rest, nx)) (hC : 1 ≤ y → y < 232 → (entL as).length ≤ mL y → CON X l d y as μ v μ1) {ls : LSt} {lc : Array Slot} (hL : LR X (mL m) ls lc) (hW : Wd X μ H) (hS : va_S (wA X) s.heap H locs) {j0 j1 k0 k1 : Nat} (hk0 : k0 ≤ μ.1 + j0) (hk1 : k1 ≤ μ.2.1 + j1) (hm0 : μ.1 ≤ μ1.1) (hm1 : μ.2.1 ≤ μ1.2.1) (hc : μ1.1 + j0 - k0 ≤ R.cells) (hs : μ1.2.1 + j1 - k1 ≤ R.slots)
    (k : ∀ H' locs', Wd X μ1 H' → va_S (wA X) s.heap H' locs' → W p l e R s mid args below meth c H' locs' (μ1.1 + j0 - k0) (μ1.2.1 + j1 - k1) Q (F0 mid nx lc ((v.toList ++ rest).map (vC X)))) : W p l e R s mid args below meth c H locs (μ.1 + j0 - k0) (μ.2.1 + j1 - k1) Q (F0 mid pc lc (st.map (vC X))) := by
  obtain ⟨hx, hb, hml, hown, hts, hF, hX, hbb, hbs, hnm⟩ := B
  have e1 : μ1.1 + j0 - k0 = μ.1 + j0 - k0 + (μ1.1 - μ.1) := by omega
  have e2 : μ1.2.1 + j1 - k1 = μ.2.1 + j1 - k1 + (μ1.2.1 - μ.2.1) := by omega
  have hsz : lc.size = mL m := hL.1
  unfold fC at h
  split at h
  · -- static
    rename_i i nx' y' w' c' z' q' hcd
    have hok := hA m pc _ hcd
    obtain ⟨hd, hnx⟩ := ok_dec1 hok rfl
    obtain ⟨-, -, hw⟩ := ok_dec hok
    have hd : decode (bM m) pc = .ok (.invokestatic i, 3) := hd
    have hnx : nx' = pc + 3 := hnx
    cases hc2 : Nat.blt c' 2 with
    | false => rw [hc2] at h; cases h
    | true =>
      rw [hc2] at h
      simp only [cond_true, Option.some.injEq, Prod.mk.injEq, Bool.and_eq_true, decide_eq_true_eq] at h
      obtain ⟨rfl, ⟨hg1, hg2, hge⟩, rfl, rfl, rfl⟩ := h
      rw [hnx, e1, e2] at k
      rw [e1] at hc
      rw [e2] at hs
      rw [sk_map X st w']
      match c', hc2, hw with
      | 0, _, hw =>
        have hw : (Nat.blt 0 y' && (Nat.blt y' 232 && (Nat.beq w' (mN y') && (decide (tw (mQ y').1 = some (.static (yM y'))) && decide (tw q' = some (.methodLink (yM m).cls i (yM y'))))))) = true := hw
        simp only [Bool.and_eq_true, decide_eq_true_eq] at hw
        obtain ⟨w1, w2, w3, w4, w5⟩ := hw
        have w1 := Nat.le_of_ble_eq_true w1
        have w2 := Nat.le_of_ble_eq_true w2
        have w3 := Nat.eq_of_beq_eq_true w3
        have hmt := hM y' w1 w2
        obtain ⟨m1, m2, m3, m4, m5, m6, m7, m8⟩ := okMt_in hmt
        refine cl_go (va_runS (n := mN y') (bytes := bM y') (maxL := mL y') (ret := rM y') (As := ((st.take w').reverse).map (vC X)) (rest := (st.drop w').map (vC X)) ⟨hx, hb, hml, hown, hts⟩ (hC w1 w2 (Nat.le_of_ble_eq_true hge)) ⟨callB_of (mN y') hts (good_ws hmt) rfl rfl rfl (hts _ m2) (hts _ (tw_gw w5 rfl)) ⟨m4, m5, m6⟩ ⟨hR.1, Nat.le_trans (by show 8 + (mL y' + 11) + (64 * d + 64) ≤ 64 * (d + 1) + 64; omega) hR.2⟩, hts _ (tw_gw w4 rfl)⟩ ⟨WS_blind X μ _, fun U hU hW' => ⟨rfl, WS_of hF hX hbb hbs hS hW hU hW'⟩⟩ rfl ?_ hsz rfl (lv_room (by rw [cat_map]; exact hg1)) hd ⟨hc, hs⟩) hS ?_
        · rw [List.length_map, List.length_reverse, List.length_take]; omega
        · intro H1 locs1 g1 g2
          rw [tl_map]
          exact k H1 locs1 g1 g2
      | 1, _, hw =>
        have hw : (Nat.blt 0 y' && (Nat.blt y' 232 && (Nat.beq w' (mN y') && (decide (tw (mQ y').1 = some (.static (yM y'))) && decide (tw q' = some (.methodLinkNest (yM m).cls i (yM y') "MendedOrNew")))))) = true := hw
        simp only [Bool.and_eq_true, decide_eq_true_eq] at hw
        obtain ⟨w1, w2, w3, w4, w5⟩ := hw
        have w1 := Nat.le_of_ble_eq_true w1
        have w2 := Nat.le_of_ble_eq_true w2
        have w3 := Nat.eq_of_beq_eq_true w3
        have hmt := hM y' w1 w2
        obtain ⟨m1, m2, m3, m4, m5, m6, m7, m8⟩ := okMt_in hmt
        refine cl_go (va_runSN (n := mN y') (bytes := bM y') (maxL := mL y') (ret := rM y') (host := "MendedOrNew") (As := ((st.take w').reverse).map (vC X)) (rest := (st.drop w').map (vC X)) ⟨hx, hb, hml, hown, hts⟩ (hC w1 w2 (Nat.le_of_ble_eq_true hge)) ⟨va_cnB (mN y') hts (good_ws hmt) rfl rfl rfl (hF.2 _ (tw_mem w5) rfl) (hts _ m2) ⟨m4, m5, m6⟩ ⟨hR.1, Nat.le_trans (by show 8 + (mL y' + 11) + (64 * d + 64) ≤ 64 * (d + 1) + 64; omega) hR.2⟩, hts _ (tw_gw w4 rfl), trivial⟩ ⟨WS_blind X μ _, fun U hU hW' => ⟨rfl, WS_of hF hX hbb hbs hS hW hU hW'⟩⟩ rfl ?_ hsz rfl (lv_room (by rw [cat_map]; exact hg1)) hd ⟨hc, hs⟩) hS ?_
        · rw [List.length_map, List.length_reverse, List.length_take]; omega
        · intro H1 locs1 g1 g2
          rw [tl_map]
          exact k H1 locs1 g1 g2
  · -- special
    rename_i i nx' y' w' c' z' q' hcd
    have hok := hA m pc _ hcd
    obtain ⟨hd, hnx⟩ := ok_dec1 hok rfl
    obtain ⟨-, -, hw⟩ := ok_dec hok
    have hd : decode (bM m) pc = .ok (.invokespecial i, 3) := hd
    have hnx : nx' = pc + 3 := hnx
    cases hc2 : (Nat.beq c' 3 || Nat.beq c' 4) with
    | false => rw [hc2] at h; cases h
    | true =>
      rw [hc2] at h
      simp only [cond_true] at h
      split at h
      · rename_i a as' hst
        simp only [Option.some.injEq, Prod.mk.injEq, Bool.and_eq_true, decide_eq_true_eq] at h
        obtain ⟨rfl, ⟨hg1, hg2, hge⟩, rfl, rfl, rfl⟩ := h
        rw [hnx, e1, e2] at k
        rw [e1] at hc
        rw [e2] at hs
        rw [sk_map X st w', hst]
        have hlen : (as'.map (vC X)).length = w' - 1 := by
          have := congrArg List.length hst
          rw [List.length_reverse, List.length_take, List.length_cons] at this
          rw [List.length_map]
          omega
        have hrev : (List.map (vC X) (Sum.inr (Sum.inr a) :: as')).reverse ++ (st.drop w').map (vC X) = (as'.map (vC X)).reverse ++ .ref (ph X a) :: (st.drop w').map (vC X) := by
          simp [vC]
        rw [hrev]
        have hcc : c' = 3 ∨ c' = 4 := by
          simp only [Bool.or_eq_true] at hc2
          rcases hc2 with z | z
          · exact Or.inl (Nat.eq_of_beq_eq_true z)
          · exact Or.inr (Nat.eq_of_beq_eq_true z)
        rcases hcc with rfl | rfl
        · have hw : (Nat.blt 0 y' && (Nat.blt y' 232 && (Nat.beq w' (mN y' + 1) && (decide ((yM y').name = "<init>") && (decide (rM y' = none) && decide (tw q' = some (.methodLink (yM m).cls i (yM y')))))))) = true := hw
          simp only [Bool.and_eq_true, decide_eq_true_eq] at hw
          obtain ⟨w1, w2, w3, w4, w6, w5⟩ := hw
          have w1 := Nat.le_of_ble_eq_true w1
          have w2 := Nat.le_of_ble_eq_true w2
          have w3 := Nat.eq_of_beq_eq_true w3
          have hmt := hM y' w1 w2
          obtain ⟨m1, m2, m3, m4, m5, m6, m7, m8⟩ := okMt_in hmt
          refine cl_go (va_runI (n := mN y') (bytes := bM y') (maxL := mL y') (As := as'.map (vC X)) (rest := (st.drop w').map (vC X)) ⟨hx, hb, hml, hown, hts⟩ (hC w1 w2 (Nat.le_of_ble_eq_true hge)) ⟨callB_of (mN y') hts (good_ws hmt) (by unfold wsM; rw [w6]) rfl rfl (hts _ m2) (hts _ (tw_gw w5 rfl)) ⟨m4, m5, m6⟩ ⟨hR.1, Nat.le_trans (by show 8 + (mL y' + 11) + (64 * d + 64) ≤ 64 * (d + 1) + 64; omega) hR.2⟩, w4, hts _ (tw_gw (m8 w4) rfl)⟩ ⟨WS_blind X μ _, fun U hU hW' => ⟨rfl, WS_of hF hX hbb hbs hS hW hU hW'⟩⟩ rfl (by rw [hlen]; omega) hsz rfl (lv_room (by rw [cat_map]; exact hg1)) hd ⟨hc, hs⟩) hS ?_
          intro H1 locs1 g1 g2
          rw [tl_map]
          exact k H1 locs1 g1 g2
        · have hw : (Nat.blt 0 y' && (Nat.blt y' 232 && (Nat.beq w' (mN y' + 1) && (decide ((yM y').name = "<init>") && (decide (rM y' = none) && decide (tw q' = some (.methodLinkNest (yM m).cls i (yM y') "MendedOrNew"))))))) = true := hw
          simp only [Bool.and_eq_true, decide_eq_true_eq] at hw
          obtain ⟨w1, w2, w3, w4, w6, w5⟩ := hw
          have w1 := Nat.le_of_ble_eq_true w1
          have w2 := Nat.le_of_ble_eq_true w2
          have w3 := Nat.eq_of_beq_eq_true w3
          have hmt := hM y' w1 w2
          obtain ⟨m1, m2, m3, m4, m5, m6, m7, m8⟩ := okMt_in hmt
          refine cl_go (va_runIN (n := mN y') (bytes := bM y') (maxL := mL y') (host := "MendedOrNew") (As := as'.map (vC X)) (rest := (st.drop w').map (vC X)) ⟨hx, hb, hml, hown, hts⟩ (hC w1 w2 (Nat.le_of_ble_eq_true hge)) ⟨va_cnB (mN y') hts (good_ws hmt) (by unfold wsM; rw [w6]) rfl rfl (hF.2 _ (tw_mem w5) rfl) (hts _ m2) ⟨m4, m5, m6⟩ ⟨hR.1, Nat.le_trans (by show 8 + (mL y' + 11) + (64 * d + 64) ≤ 64 * (d + 1) + 64; omega) hR.2⟩, w4, hts _ (tw_gw (m8 w4) rfl)⟩ ⟨WS_blind X μ _, fun U hU hW' => ⟨rfl, WS_of hF hX hbb hbs hS hW hU hW'⟩⟩ rfl (by rw [hlen]; omega) hsz rfl (lv_room (by rw [cat_map]; exact hg1)) hd ⟨hc, hs⟩) hS ?_
          intro H1 locs1 g1 g2
          rw [tl_map]
          exact k H1 locs1 g1 g2
      · cases h
  · -- virtual
    rename_i i nx' y' w' c' z' q' hcd
    have hok := hA m pc _ hcd
    obtain ⟨hd, hnx⟩ := ok_dec1 hok rfl
    obtain ⟨-, -, hw⟩ := ok_dec hok
    have hd : decode (bM m) pc = .ok (.invokevirtual i, 3) := hd
    have hnx : nx' = pc + 3 := hnx
    cases hc2 : Nat.beq c' 2 with
    | false => rw [hc2] at h; cases h
    | true =>
      rw [hc2] at h
      simp only [cond_true] at h
      have hc2 := Nat.eq_of_beq_eq_true hc2
      subst hc2
      split at h
      · rename_i a as' hst
        simp only [Option.some.injEq, Prod.mk.injEq, Bool.and_eq_true, decide_eq_true_eq] at h
        obtain ⟨rfl, ⟨hg1, hg2, hg3, hg4, hge⟩, rfl, rfl, rfl⟩ := h
        rw [show nx' = pc + 3 from hnx, e1, e2] at k
        rw [e1] at hc
        rw [e2] at hs
        rw [sk_map X st w', hst]
        have hlen : (as'.map (vC X)).length = w' - 1 := by
          have := congrArg List.length hst
          rw [List.length_reverse, List.length_take, List.length_cons] at this
          rw [List.length_map]
          omega
        have hrev : (List.map (vC X) (Sum.inr (Sum.inr a) :: as')).reverse ++ (st.drop w').map (vC X) = (as'.map (vC X)).reverse ++ .ref (ph X a) :: (st.drop w').map (vC X) := by
          simp [vC]
        rw [hrev]
        have hw : (Nat.blt 0 y' && (Nat.blt y' 232 && (Nat.beq w' (mN y' + 1) && (Nat.blt (mC y') 13 && (decide ((yM y').cls = Rc (mC y')) && (decide (tw (mQ y').2.1 = some (.selects (yM y').cls (yM y') (yM y'))) && (decide (tw (mQ y').1 = some (.instanceMethod (yM y'))) && decide (tw q' = some (.methodLink (yM m).cls i (yM y')))))))))) = true := hw
        simp only [Bool.and_eq_true, decide_eq_true_eq] at hw
        obtain ⟨w1, w2, w3, w4, w6, w7, w8, w5⟩ := hw
        have w1 := Nat.le_of_ble_eq_true w1
        have w2 := Nat.le_of_ble_eq_true w2
        have w3 := Nat.eq_of_beq_eq_true w3
        have w4 := Nat.le_of_ble_eq_true w4
        have hmt := hM y' w1 w2
        obtain ⟨m1, m2, m3, m4, m5, m6, m7, m8⟩ := okMt_in hmt
        obtain ⟨cellB, b1, b2, b3, -⟩ := hW.obj (nb hg3) hg4
        have hcls := (hF.cls w4).2.1
        refine cl_go (va_runV (n := mN y') (C := (yM y').cls) (bytes := bM y') (maxL := mL y') (ret := rM y') (As := as'.map (vC X)) (rest := (st.drop w').map (vC X)) ⟨hx, hb, hml, hown, hts⟩ (hC w1 w2 (Nat.le_of_ble_eq_true hge)) ⟨callB_of (mN y') hts (good_ws hmt) rfl rfl rfl (hts _ m2) (hts _ (tw_gw w5 rfl)) ⟨m4, m5, m6⟩ ⟨hR.1, Nat.le_trans (by show 8 + (mL y' + 11) + (64 * d + 64) ≤ 64 * (d + 1) + 64; omega) hR.2⟩, hts _ (tw_gw w8 rfl), hts _ (tw_gw w7 rfl)⟩ ⟨WS_blind X μ _, ⟨cellB, b1, by rw [b3]; rfl, by rw [b2, w6]; exact hcls⟩, fun U hU hW' => ⟨rfl, WS_of hF hX hbb hbs hS hW hU hW'⟩⟩ rfl (by rw [hlen]; omega) hsz rfl (lv_room (by rw [cat_map]; exact hg1)) hd ⟨hc, hs⟩) hS ?_
        intro H1 locs1 g1 g2
        rw [tl_map]
        exact k H1 locs1 g1 g2
      · cases h
  · cases h
end SR
