/-! THE CLAIM OUT OF RUNS OF THE ABSTRACT MACHINE -/
/-- what is left: the law's loop, over the abstract machine alone -/
def LAWR : Prop := ∀ (L : Nat) (xs : Nat → Int32), L ≤ 3584 → ∃ (n : Nat) (V : Nat → Nat → Int) (b : Bool), run n 30 0 16 [some (.inr (.inr 0)), some (.inr (.inr 1)), some (.inr (.inr 120)), none] [] (M0 L (V0 xs) false) = some (some (.inl 1), M0 L V b)
theorem ctr_in (h : ctr = true) : ∃ μ1 μ2 : Mm, ctr1 = some (none, μ1) ∧ μ1.1 = 120 ∧ ctr2 μ1 = some (none, μ2) ∧ μ2.1 = 151 ∧ μ2.2.1 ≤ 100000 ∧ chk μ2 = true := by
  unfold ctr at h
  split at h
  · rename_i μ1 q1
    rw [Bool.and_eq_true] at h
    have h2 := h.2
    split at h2
    · rename_i μ2 q2
      simp only [Bool.and_eq_true] at h2
      exact ⟨μ1, μ2, q1, Nat.eq_of_beq_eq_true h.1, q2, Nat.eq_of_beq_eq_true h2.1, Nat.le_of_ble_eq_true h2.2.1, h2.2.2⟩
    · cases h2
  · cases h
theorem Wd00 (X : Cx) (H : Heap) (h : H.size = xB X) : Wd X μ00 H := by
  refine ⟨⟨fun a _ => rfl, fun a => ⟨by show (0 : Nat) < 100000; decide, Or.inl rfl⟩, Or.inl rfl⟩, fun a q1 q2 => ?_, fun _ => by rw [h]; rfl⟩
  have q2 : a ≤ 0 := q2
  omega
theorem z_num (n : Nat) : 0 + n - 0 = n := by rw [Nat.sub_zero, Nat.zero_add]
set_option maxRecDepth 10000 in
theorem whole_start0 (hA : OKA) (hM : OKM) (hC : ctr = true) (hR : LAWR) {p : Program} {e : Env} {s : State} {m : MethodId} {below : List Frame} {meth : Method} {c : Code} (l : Launch) {b L : Nat} {xs : Nat → Int32} (hL : L ≤ 3584) (C0 : lw_At p s m meth c b L xs) : W p l e room_1 s m #[Value.ref b] below meth c s.heap [] 0 0 (lw_Z below #[Value.ref b] s) (entryFrame m ([Value.ref b] : List Value).toArray 4) := by
  obtain ⟨hx, hb, hr, hml, hown, hts, hX, hbl, hlocks, hgv⟩ := id C0
  obtain ⟨D, dA, hSF⟩ := SF_start hts
  obtain ⟨X, eX⟩ : ∃ X : Cx, X = (b, s.heap.size, L, xs, D, dA) := ⟨_, rfl⟩
  have hF : SF X s := by rw [eX]; exact hSF _ _ _ _
  have e1 : X.1 = b := by rw [eX]
  have e2 : xB X = s.heap.size := by rw [eX]
  have e3 : xL X = L := by rw [eX]
  have e4 : xS X = xs := by rw [eX]
  have B : BC X p s m #[.ref b] meth c 0 := ⟨hx, hb, hml, hown, fun w hw => hts w (gw_sub hw), hF, by rw [e1, e3, e4]; exact hX, by rw [e1, e2]; exact hbl, by rw [e2]; exact Nat.le_refl _, Or.inl rfl⟩
  obtain ⟨μ1, μ2, c1, n1, c2, n2, n3, n4⟩ := ctr_in hC
  have hroom : 1 ≤ room_1.frames ∧ 64 ≤ room_1.locals := ⟨Nat.le_of_ble_eq_true rfl, Nat.le_of_ble_eq_true rfl⟩
  have hroomC : 29 + 2 ≤ room_1.frames ∧ 64 * (29 + 1) + 64 ≤ room_1.locals := ⟨Nat.le_of_ble_eq_true rfl, Nat.le_of_ble_eq_true rfl⟩
  have hcells : ∀ x, x ≤ 1000 → x ≤ room_1.cells := fun x h => Nat.le_trans h (Nat.le_of_ble_eq_true rfl)
  have hslots : ∀ x, x ≤ 200000 → x ≤ room_1.slots := fun x h => Nat.le_trans h (Nat.le_of_ble_eq_true rfl)
  have m1 := run_mono _ _ _ _ _ _ _ _ _ c1
  have m2 := run_mono _ _ _ _ _ _ _ _ _ c2
  have m1a : μ1.1 = 120 := n1
  have m1b : μ1.2.1 + 44 ≤ μ2.2.1 := m2.2
  have m1c : 17 ≤ μ1.2.1 := m1.2
  -- pc 16: the loop
  have f16 : ∀ (H' : Heap) (locs' : List Loc) (lc' : Array Slot), LR X (mL 0) [some (.inr (.inr 0)), some (.inr (.inr 1)), some (.inr (.inr 120)), none] lc' → Wd X μ2 H' → va_S (wA X) s.heap H' locs' → W p l e room_1 s m #[Value.ref b] below meth c H' locs' (μ2.1 + 0 - 1) (μ2.2.1 + 0 - 0) (lw_Z below #[Value.ref b] s) (F0 m 16 lc' []) := by
    intro H' locs' lc' l1 w1 s1
    refine va_forget (fun q hq => by have := s1.2.2 q hq; have : xB X ≤ q.base := this; rw [e2] at this; exact this) ?_
    refine W.widen (k := 600000) (n := 7302250) (by rw [n2]; exact Nat.le_of_ble_eq_true rfl) (Nat.le_trans n3 (Nat.le_of_ble_eq_true rfl)) ?_
    obtain ⟨n, V, b', hrun⟩ := hR L xs hL
    have w2 : Wd X (M0 L (V0 xs) false) H' := by
      have := w1.start n2 n4 (by rw [e3]; omega)
      rw [e3, e4] at this
      exact this
    have hs2 : va_S (wA X) s.heap H' [] := ⟨s1.1, s1.2.1, fun _ h => by cases h⟩
    have key := sim X l hA hM n p e room_1 s m #[Value.ref b] below meth c (lw_Z below #[Value.ref b] s) 30 0 16 _ [] (M0 L (V0 xs) false) (some (.inl 1)) (M0 L V b') 600000 7302250 0 0 H' [] lc' B (Nat.le_of_ble_eq_true rfl) (Nat.le_of_ble_eq_true rfl) hrun l1 w2 hs2 (Nat.zero_le _) (Nat.zero_le _) (Nat.le_of_eq (z_num 600000)) (Nat.le_of_eq (z_num 7302250)) (fun pc' st' H'' locs'' lc'' hfr hw'' hs'' => ?_)
    · have k1 : (M0 L (V0 xs) false).1 + 600000 - 0 = 600000 := z_num 600000
      have k2 : (M0 L (V0 xs) false).2.1 + 7302250 - 0 = 7302250 := z_num 7302250
      rw [k1, k2] at key
      exact key
    · refine va_forget (fun q hq => by have := hs''.2.2 q hq; have : xB X ≤ q.base := this; rw [e2] at this; exact this) ?_
      have k1 : (M0 L V b').1 + 600000 - 0 = 600000 := z_num 600000
      have k2 : (M0 L V b').2.1 + 7302250 - 0 = 7302250 := z_num 7302250
      rw [k1, k2]
      unfold fR at hfr
      split at hfr
      · rename_i en2 hcd
        obtain ⟨hd, -⟩ := ok_dec1 (hA 0 pc' _ hcd) rfl
        have hd : decode code pc' = .ok (.ireturn, 1) := hd
        split at hfr
        · rename_i z' hrm
          cases hrm
        · rename_i z' hrm
          simp only [Option.some.injEq, Prod.mk.injEq, decide_eq_true_eq] at hfr
          obtain ⟨-, hz⟩ := hfr
          have hz : z' = 1 := Sum.inl.inj hz
          subst hz
          exact lw_ret hx hb hr hlocks hd
        · cases hfr
      · rename_i en2 hcd
        split at hfr
        · rename_i z' hrm
          cases hrm
        · cases hfr
      · split at hfr <;> cases hfr
      · cases hfr
  -- pc 15: astore_2
  have f15 : ∀ (H' : Heap) (locs' : List Loc) (lc' : Array Slot), LR X (mL 0) [some (.inr (.inr 0)), some (.inr (.inr 1)), none, none] lc' → Wd X μ2 H' → va_S (wA X) s.heap H' locs' → W p l e room_1 s m #[Value.ref b] below meth c H' locs' (μ2.1 + 0 - 1) (μ2.2.1 + 0 - 0) (lw_Z below #[Value.ref b] s) (F0 m 15 lc' (List.map (vC X) [.inr (.inr 120)])) := fun H' locs' lc' l1 w1 s1 =>
    st_1 X hA B hroom (pc := 15) (pc1 := 16) (ls1 := [some (.inr (.inr 0)), some (.inr (.inr 1)), some (.inr (.inr 120)), none]) (st1 := []) (μ1 := μ2) rfl l1 w1 s1 (by omega) (Nat.zero_le _) (hcells _ (by omega)) (hslots _ (by omega)) f16
  -- pc 12: MendedOrNewModel()
  have f12 : ∀ (H' : Heap) (locs' : List Loc) (lc' : Array Slot), LR X (mL 0) [some (.inr (.inr 0)), some (.inr (.inr 1)), none, none] lc' → Wd X (nw μ1 76 44) H' → va_S (wA X) s.heap H' locs' → W p l e room_1 s m #[Value.ref b] below meth c H' locs' ((nw μ1 76 44).1 + 0 - 1) ((nw μ1 76 44).2.1 + 0 - 0) (lw_Z below #[Value.ref b] s) (F0 m 12 lc' (List.map (vC X) [.inr (.inr 120), .inr (.inr 120)])) := fun H' locs' lc' l1 w1 s1 =>
    st_C X hA hM B hroomC (pc := 12) (nx := 15) (as := [.inr (.inr 120)]) (rest := [.inr (.inr 120)]) (v := none) (μ1 := μ2) rfl (fun y1 y2 y3 => con_of (sim X l hA hM 20000) hA hM y1 y2 y3 c2) l1 w1 s1 (by show 1 ≤ μ1.1 + 1 + 0; omega) (Nat.zero_le _) m2.1 m2.2 (hcells _ (by omega)) (hslots _ (by omega)) (fun H1 locs1 g1 g2 => f15 H1 locs1 lc' l1 g1 g2)
  have f11 : ∀ (H' : Heap) (locs' : List Loc) (lc' : Array Slot), LR X (mL 0) [some (.inr (.inr 0)), some (.inr (.inr 1)), none, none] lc' → Wd X (nw μ1 76 44) H' → va_S (wA X) s.heap H' locs' → W p l e room_1 s m #[Value.ref b] below meth c H' locs' ((nw μ1 76 44).1 + 0 - 1) ((nw μ1 76 44).2.1 + 0 - 0) (lw_Z below #[Value.ref b] s) (F0 m 11 lc' (List.map (vC X) [.inr (.inr 120)])) := fun H' locs' lc' l1 w1 s1 =>
    st_1 X hA B hroom (pc := 11) (pc1 := 12) (st1 := [.inr (.inr 120), .inr (.inr 120)]) (μ1 := nw μ1 76 44) rfl l1 w1 s1 (by show 1 ≤ μ1.1 + 1 + 0; omega) (Nat.zero_le _) (hcells _ (by show μ1.1 + 1 + 0 - 1 ≤ _; omega)) (hslots _ (by show μ1.2.1 + 44 + 0 - 0 ≤ _; omega)) f12
  have f8 : ∀ (H' : Heap) (locs' : List Loc) (lc' : Array Slot), LR X (mL 0) [some (.inr (.inr 0)), some (.inr (.inr 1)), none, none] lc' → Wd X μ1 H' → va_S (wA X) s.heap H' locs' → W p l e room_1 s m #[Value.ref b] below meth c H' locs' (μ1.1 + 0 - 1) (μ1.2.1 + 0 - 0) (lw_Z below #[Value.ref b] s) (F0 m 8 lc' (List.map (vC X) [])) := fun H' locs' lc' l1 w1 s1 =>
    st_1 X hA B hroom (pc := 8) (pc1 := 11) (st1 := [.inr (.inr 120)]) (μ1 := nw μ1 76 44) (by show some (!Nat.beq μ1.1 0, 11, _, [(Sum.inr (Sum.inr μ1.1) : AV)], nw μ1 76 44) = _; rw [n1]; rfl) l1 w1 s1 (by omega) (Nat.zero_le _) (hcells _ (by show μ1.1 + 1 + 0 - 1 ≤ _; omega)) (hslots _ (by show μ1.2.1 + 44 + 0 - 0 ≤ _; omega)) f11
  have f7 : ∀ (H' : Heap) (locs' : List Loc) (lc' : Array Slot), LR X (mL 0) [some (.inr (.inr 0)), none, none, none] lc' → Wd X μ1 H' → va_S (wA X) s.heap H' locs' → W p l e room_1 s m #[Value.ref b] below meth c H' locs' (μ1.1 + 0 - 1) (μ1.2.1 + 0 - 0) (lw_Z below #[Value.ref b] s) (F0 m 7 lc' (List.map (vC X) [.inr (.inr 1)])) := fun H' locs' lc' l1 w1 s1 =>
    st_1 X hA B hroom (pc := 7) (pc1 := 8) (ls1 := [some (.inr (.inr 0)), some (.inr (.inr 1)), none, none]) (st1 := []) (μ1 := μ1) rfl l1 w1 s1 (by omega) (Nat.zero_le _) (hcells _ (by omega)) (hslots _ (by omega)) f8
  have f4 : ∀ (H' : Heap) (locs' : List Loc) (lc' : Array Slot), LR X (mL 0) [some (.inr (.inr 0)), none, none, none] lc' → Wd X (nw μ00 64 17) H' → va_S (wA X) s.heap H' locs' → W p l e room_1 s m #[Value.ref b] below meth c H' locs' ((nw μ00 64 17).1 + 0 - 1) ((nw μ00 64 17).2.1 + 0 - 0) (lw_Z below #[Value.ref b] s) (F0 m 4 lc' (List.map (vC X) [.inr (.inr 1), .inr (.inr 1)])) := fun H' locs' lc' l1 w1 s1 =>
    st_C X hA hM B hroomC (pc := 4) (nx := 7) (as := [.inr (.inr 1)]) (rest := [.inr (.inr 1)]) (v := none) (μ1 := μ1) rfl (fun y1 y2 y3 => con_of (sim X l hA hM 20000) hA hM y1 y2 y3 c1) l1 w1 s1 (Nat.le_of_ble_eq_true rfl) (Nat.zero_le _) m1.1 m1.2 (hcells _ (by omega)) (hslots _ (by omega)) (fun H1 locs1 g1 g2 => f7 H1 locs1 lc' l1 g1 g2)
  have f3 : ∀ (H' : Heap) (locs' : List Loc) (lc' : Array Slot), LR X (mL 0) [some (.inr (.inr 0)), none, none, none] lc' → Wd X (nw μ00 64 17) H' → va_S (wA X) s.heap H' locs' → W p l e room_1 s m #[Value.ref b] below meth c H' locs' ((nw μ00 64 17).1 + 0 - 1) ((nw μ00 64 17).2.1 + 0 - 0) (lw_Z below #[Value.ref b] s) (F0 m 3 lc' (List.map (vC X) [.inr (.inr 1)])) := fun H' locs' lc' l1 w1 s1 =>
    st_1 X hA B hroom (pc := 3) (pc1 := 4) (st1 := [.inr (.inr 1), .inr (.inr 1)]) (μ1 := nw μ00 64 17) rfl l1 w1 s1 (Nat.le_of_ble_eq_true rfl) (Nat.zero_le _) (hcells _ (Nat.le_of_ble_eq_true rfl)) (hslots _ (Nat.le_of_ble_eq_true rfl)) f4
  have f0 : ∀ (lc' : Array Slot), LR X (mL 0) [some (.inr (.inr 0)), none, none, none] lc' → W p l e room_1 s m #[Value.ref b] below meth c s.heap [] (μ00.1 + 0 - 1) (μ00.2.1 + 0 - 0) (lw_Z below #[Value.ref b] s) (F0 m 0 lc' (List.map (vC X) [])) := fun lc' l1 =>
    st_1 X hA B hroom (pc := 0) (pc1 := 3) (st1 := [.inr (.inr 1)]) (μ1 := nw μ00 64 17) rfl l1 (Wd00 X s.heap e2.symm) va_S.rf (Nat.le_of_ble_eq_true rfl) (Nat.zero_le _) (hcells _ (Nat.le_of_ble_eq_true rfl)) (hslots _ (Nat.le_of_ble_eq_true rfl)) f3
  rw [lg_entry_eq]
  have hL0 := ent_LR X [.inr (.inr 0)] (n := 4) (by decide)
  have ev : List.map (vC X) [.inr (.inr 0)] = [Value.ref b] := by
    show [Value.ref X.1] = _
    rw [e1]
  rw [ev] at hL0
  exact f0 _ hL0
