/-! SOUNDNESS, 9: a run of the abstract machine is a contract -/
theorem fG_mono {μ μ' : Mm} {a y w c : Nat} {r st' : St} {g : Bool} (h : fG μ a y w c r = some (g, st', μ')) : μ' = μ := by
  match c, h with
  | 0, h => simp only [fG, Option.some.injEq, Prod.mk.injEq] at h; exact h.2.2.symm
  | 1, h => simp only [fG, Option.some.injEq, Prod.mk.injEq] at h; exact h.2.2.symm
  | 2, h =>
    simp only [fG] at h
    split at h
    · simp only [Option.some.injEq, Prod.mk.injEq] at h; exact h.2.2.symm
    · cases h
  | 3, h => simp only [fG, Option.some.injEq, Prod.mk.injEq] at h; exact h.2.2.symm
  | o + 4, h => simp only [fG, Option.some.injEq, Prod.mk.injEq] at h; exact h.2.2.symm
theorem fM_mono {ins : Instr} {y w c : Nat} {st st' : St} {μ μ' : Mm} {g : Bool} (h : fM ins y w c st μ = some (g, st', μ')) : μ.1 ≤ μ'.1 ∧ μ.2.1 ≤ μ'.2.1 := by
  cases ins
  all_goals try (exfalso; simp [fM] at h; done)
  case getfield i =>
    simp only [fM] at h
    split at h
    · rw [fG_mono h]; exact ⟨Nat.le_refl _, Nat.le_refl _⟩
    · cases h
  all_goals (simp only [fM] at h)
  all_goals (repeat' split at h)
  all_goals first | (cases h; done) | skip
  all_goals (simp only [Option.some.injEq, Prod.mk.injEq] at h; obtain ⟨-, -, rfl⟩ := h)
  all_goals first | exact ⟨Nat.le_refl _, Nat.le_refl _⟩ | exact ⟨Nat.le_succ _, Nat.le_add_right _ _⟩ | exact ⟨by show μ.1 ≤ μ.1 + 1 + 4; omega, by show μ.2.1 ≤ μ.2.1 + 4 + 4 * 8; omega⟩
theorem fN_mono {ins : Instr} {pc nx y w c pc' : Nat} {z : Int} {ls ls' : LSt} {st st' : St} {μ μ' : Mm} {g : Bool} (h : fN ins pc nx y w c z ls st μ = some (g, pc', ls', st', μ')) : μ.1 ≤ μ'.1 ∧ μ.2.1 ≤ μ'.2.1 := by
  unfold fN at h
  split at h
  · simp only [Option.some.injEq, Prod.mk.injEq] at h
    rw [h.2.2.2.2]; exact ⟨Nat.le_refl _, Nat.le_refl _⟩
  · split at h
    · simp only [Option.some.injEq, Prod.mk.injEq] at h
      rw [h.2.2.2.2]; exact ⟨Nat.le_refl _, Nat.le_refl _⟩
    · split at h
      · rename_i q
        simp only [Option.some.injEq, Prod.mk.injEq] at h
        rw [← h.2.2.2.2]; exact fM_mono q
      · split at h
        · simp only [Option.some.injEq, Prod.mk.injEq] at h
          rw [h.2.2.2.2]; exact ⟨Nat.le_refl _, Nat.le_refl _⟩
        · cases h
theorem nx1_mono {m pc pc' : Nat} {ls ls' : LSt} {st st' : St} {μ μ' : Mm} {g : Bool} (h : nx1 m pc ls st μ = some (g, pc', ls', st', μ')) : μ.1 ≤ μ'.1 ∧ μ.2.1 ≤ μ'.2.1 := by
  unfold nx1 at h
  split at h
  · exact fN_mono h
  · cases h
theorem run_mono : ∀ (n d m pc : Nat) (ls : LSt) (st : St) (μ : Mm) (v : Option AV) (μ' : Mm), run n d m pc ls st μ = some (v, μ') → μ.1 ≤ μ'.1 ∧ μ.2.1 ≤ μ'.2.1
  | 0, _, _, _, _, _, _, _, _, h => by simp [run] at h
  | n + 1, d, m, pc, ls, st, μ, v, μ', h => by
    rw [run] at h
    split at h
    · rename_i g pc1 ls1 st1 μ1 q
      cases g with
      | false => cases h
      | true =>
        have h1 := nx1_mono q
        have h2 := run_mono n d m pc1 ls1 st1 μ1 v μ' h
        exact ⟨Nat.le_trans h1.1 h2.1, Nat.le_trans h1.2 h2.2⟩
    · split at h
      · rename_i y g as rest nx q
        split at h
        · cases h
        · rename_i d'
          cases g with
          | false => cases h
          | true =>
            simp only [cond_true] at h
            split at h
            · rename_i v1 μ1 q1
              have h1 := run_mono n d' y 0 _ _ _ _ _ q1
              have h2 := run_mono n _ m nx _ _ _ _ _ h
              exact ⟨Nat.le_trans h1.1 h2.1, Nat.le_trans h1.2 h2.2⟩
            · cases h
      · split at h
        · rename_i g v1 q
          cases g with
          | false => cases h
          | true =>
            simp only [cond_true, Option.some.injEq, Prod.mk.injEq] at h
            rw [h.2]; exact ⟨Nat.le_refl _, Nat.le_refl _⟩
        · cases h
theorem lg_len (X : Cx) : ∀ as : List AV, (lg_sl (as.map (vC X))).length = (entL as).length
  | [] => rfl
  | .inl z :: as => by
    show ([Slot.val (.int (Int32.ofInt z))] ++ lg_sl (as.map (vC X))).length = (entL as).length + 1
    rw [List.length_append, lg_len X as, Nat.add_comm]
    rfl
  | .inr (.inl z) :: as => by
    show ([Slot.val (.long (Int64.ofInt z)), Slot.second] ++ lg_sl (as.map (vC X))).length = (entL as).length + 2
    rw [List.length_append, lg_len X as, Nat.add_comm]
    rfl
  | .inr (.inr a) :: as => by
    show ([Slot.val (.ref (ph X a))] ++ lg_sl (as.map (vC X))).length = (entL as).length + 1
    rw [List.length_append, lg_len X as, Nat.add_comm]
    rfl
theorem lget_app : ∀ (l : LSt) (n i : Nat) (v : AV), lget (l ++ List.replicate n none) i = some v → lget l i = some v
  | [], 0, _, _, h => h
  | [], n + 1, 0, v, h => by
    have h : (none : Option AV) = some v := h
    cases h
  | [], n + 1, i + 1, v, h => lget_app [] n i v h
  | x :: l, n, 0, v, h => h
  | x :: l, n, i + 1, v, h => lget_app l n i v h
theorem ent_args (X : Cx) : ∀ (as : List AV) (j i : Nat) (v : AV), lget (entL as) i = some v → (j + i, vC X v) ∈ lv_args j (as.map (vC X))
  | [], _, _, _, h => by simp [entL, lget] at h
  | .inl z :: as, j, 0, v, h => by
    have e : (Sum.inl z : AV) = v := Option.some.inj h
    subst e
    exact List.mem_cons_self
  | .inl z :: as, j, i + 1, v, h => by
    have := ent_args X as (j + 1) i v h
    rw [show j + (i + 1) = j + 1 + i by omega]
    exact List.mem_cons_of_mem _ this
  | .inr (.inl z) :: as, j, 0, v, h => by
    have e : (Sum.inr (Sum.inl z) : AV) = v := Option.some.inj h
    subst e
    exact List.mem_cons_self
  | .inr (.inl z) :: as, j, 1, v, h => by
    have h : (none : Option AV) = some v := h
    cases h
  | .inr (.inl z) :: as, j, i + 2, v, h => by
    have := ent_args X as (j + 2) i v h
    rw [show j + (i + 2) = j + 2 + i by omega]
    exact List.mem_cons_of_mem _ this
  | .inr (.inr a) :: as, j, 0, v, h => by
    have e : (Sum.inr (Sum.inr a) : AV) = v := Option.some.inj h
    subst e
    exact List.mem_cons_self
  | .inr (.inr a) :: as, j, i + 1, v, h => by
    have := ent_args X as (j + 1) i v h
    rw [show j + (i + 1) = j + 1 + i by omega]
    exact List.mem_cons_of_mem _ this
theorem ent_LR (X : Cx) (as : List AV) {n : Nat} (h : (entL as).length ≤ n) : LR X n (ent n as) ((lg_sl (as.map (vC X)) ++ List.replicate (n - (lg_sl (as.map (vC X))).length) Slot.unset).toArray) := by
  have hl := lv_entry (as.map (vC X)) (n := n) (by rw [lg_len]; exact h)
  refine ⟨hl.1, hl.2.1, fun i v hv => hl.2.2 (i, vC X v) ?_⟩
  have := ent_args X as 0 i v (lget_app _ _ _ _ hv)
  rw [Nat.zero_add] at this
  exact this
def SIM (X : Cx) (l : Launch) (n : Nat) : Prop := ∀ (p : Program) (e : Env) (R : Room) (s : State) (mid : MethodId) (args : Array Value) (below : List Frame) (meth : Method) (c : Code) (Q : State → Prop) (d m pc : Nat) (ls : LSt) (st : St) (μ : Mm) (v : Option AV) (μ' : Mm) (j0 j1 k0 k1 : Nat) (H : Heap) (locs : List Loc) (lc : Array Slot),
  BC X p s mid args meth c m → d + 1 ≤ R.frames → 64 * d + 64 ≤ R.locals → run n d m pc ls st μ = some (v, μ') → LR X (mL m) ls lc → Wd X μ H → va_S (wA X) s.heap H locs → k0 ≤ μ.1 + j0 → k1 ≤ μ.2.1 + j1 → μ'.1 + j0 - k0 ≤ R.cells → μ'.2.1 + j1 - k1 ≤ R.slots →
  (∀ (pc' : Nat) (st' : St) (H' : Heap) (locs' : List Loc) (lc' : Array Slot), fR m pc' st' = some (true, v) → Wd X μ' H' → va_S (wA X) s.heap H' locs' → W p l e R s mid args below meth c H' locs' (μ'.1 + j0 - k0) (μ'.2.1 + j1 - k1) Q (F0 mid pc' lc' (st'.map (vC X)))) →
  W p l e R s mid args below meth c H locs (μ.1 + j0 - k0) (μ.2.1 + j1 - k1) Q (F0 mid pc lc (st.map (vC X)))
theorem name_ok {m : Nat} : wsM m = Cond.code (yM m) (bM m) (mL m) (rM m) :: gw := rfl
theorem con_of {X : Cx} {l : Launch} {n : Nat} (hs : SIM X l n) (hA : OKA) (hM : OKM) {d m : Nat} {as : List AV} {μ : Mm} {v : Option AV} {μ' : Mm} (h1 : 1 ≤ m) (h2 : m < 232) (hf : (entL as).length ≤ mL m) (h : run n d m 0 (ent (mL m) as) [] μ = some (v, μ')) : CON X l d m as μ v μ' := by
  obtain ⟨m1, m2, m3, m4, m5, m6, m7, m8⟩ := okMt_in (hM m h1 h2)
  have hmono := run_mono _ _ _ _ _ _ _ _ _ h
  refine Met.ofW (cc := bM m) (maxL := mL m) (ret := rM m) m3 rfl ?_
  intro p e s mid args below meth c s₁ B hml hv
  obtain ⟨rfl, hF, hW, hX, hbb, hbs⟩ := hv
  have hts0 := atoms_spec (ws := wsM m) B.pre
  have hts : ∀ w ∈ gw, w.before _ s = true := fun w hw => hts0 w (List.mem_cons_of_mem _ hw)
  have hlocks := B.notSynchronized
  have hBC : BC X p s mid ((as.map (vC X)).toArray) meth c m := ⟨B.exec, B.bytes, hml, findClass_of_methodNamed B.named, hts, hF, hX, hbb, hbs, Or.inr (name_of_methodNamed B.named B.method).1⟩
  rw [lg_entry_eq]
  have hk := hs p e (headSpec (wsM m) (rmD d (μ'.1 - μ.1) (μ'.2.1 - μ.2.1))).room s mid _ below meth c (MQ below (Qm X v μ') ((as.map (vC X)).toArray) s (μ'.1 - μ.1) (μ'.2.1 - μ.2.1) (wA X)) d m 0 (ent (mL m) as) [] μ v μ' 0 0 μ.1 μ.2.1 s.heap [] _ hBC (Nat.le_refl _) (Nat.le_refl _) h (ent_LR X as hf) hW va_S.rf (Nat.le_refl _) (Nat.le_refl _) (Nat.le_refl _) (Nat.le_refl _) ?_
  · rw [Nat.add_zero, Nat.add_zero, Nat.sub_self, Nat.sub_self] at hk
    exact hk
  · intro pc' st' H' locs' lc' hR hW' hS'
    have hq : ∀ t : State, t.heap = H' → s.WarmedH t.vm → Qm X v μ' ((as.map (vC X)).toArray) s (.returned (v.map (vC X))) t := fun t ht _ => ⟨rfl, by rw [ht]; exact hW', hS'.F ht⟩
    have hfr : ∀ q ∈ locs', wA X q.base := hS'.2.2
    unfold fR at hR
    split at hR
    · rename_i en2 hcd
      obtain ⟨hd, -⟩ := ok_dec1 (hA m pc' _ hcd) rfl
      have hd : decode (bM m) pc' = .ok (.ireturn, 1) := hd
      split at hR
      · rename_i z' hrm
        simp only [Option.some.injEq, Prod.mk.injEq, true_and] at hR
        subst hR
        exact W.iret B.exec B.bytes (B.returns.trans hrm) hq hfr hd
      · rename_i z' hrm
        simp only [Option.some.injEq, Prod.mk.injEq, decide_eq_true_eq] at hR
        obtain ⟨hz, rfl⟩ := hR
        exact W.zret B.exec B.bytes (B.returns.trans hrm) (nar_b hz) hq hfr hd
      · cases hR
    · rename_i en2 hcd
      obtain ⟨hd, -⟩ := ok_dec1 (hA m pc' _ hcd) rfl
      have hd : decode (bM m) pc' = .ok (.lreturn, 1) := hd
      split at hR
      · rename_i z' hrm
        simp only [Option.some.injEq, Prod.mk.injEq, true_and] at hR
        subst hR
        exact W.lret B.exec B.bytes (B.returns.trans hrm) hq hfr hd
      · cases hR
    · rename_i en2 hcd
      obtain ⟨hd, -⟩ := ok_dec1 (hA m pc' _ hcd) rfl
      have hd : decode (bM m) pc' = .ok (.return_, 1) := hd
      split at hR
      · rename_i hrm
        simp only [Option.some.injEq, Prod.mk.injEq, true_and] at hR
        subst hR
        exact W.vret B.exec B.bytes (B.returns.trans hrm) hq hfr hd
      · cases hR
    · cases hR
theorem sim (X : Cx) (l : Launch) (hA : OKA) (hM : OKM) : ∀ n, SIM X l n := by
  intro n
  induction n with
  | zero =>
    intro p e R s mid args below meth c Q d m pc ls st μ v μ' j0 j1 k0 k1 H locs lc B hfr hlo h
    simp [run] at h
  | succ n ih =>
    intro p e R s mid args below meth c Q d m pc ls st μ v μ' j0 j1 k0 k1 H locs lc B hfr hlo h hL hW hS hk0 hk1 hc hs hret
    have hmono := run_mono _ _ _ _ _ _ _ _ _ h
    rw [run] at h
    split at h
    · rename_i g pc1 ls1 st1 μ1 q
      cases g with
      | false => cases h
      | true =>
        have h : run n d m pc1 ls1 st1 μ1 = some (v, μ') := h
        have hm1 := nx1_mono q
        have hm2 := run_mono _ _ _ _ _ _ _ _ _ h
        have go : ∀ H' locs' lc', LR X (mL m) ls1 lc' → Wd X μ1 H' → va_S (wA X) s.heap H' locs' → W p l e R s mid args below meth c H' locs' (μ1.1 + j0 - k0) (μ1.2.1 + j1 - k1) Q (F0 mid pc1 lc' (st1.map (vC X))) := fun H' locs' lc' a1 a2 a3 => ih p e R s mid args below meth c Q d m pc1 ls1 st1 μ1 v μ' j0 j1 k0 k1 H' locs' lc' B hfr hlo h a1 a2 a3 (Nat.le_trans hk0 (Nat.add_le_add_right hm1.1 _)) (Nat.le_trans hk1 (Nat.add_le_add_right hm1.2 _)) hc hs hret
        unfold nx1 at q
        split at q
        · rename_i ins nx y w c' z qq hcd
          have hok := hA m pc _ hcd
          obtain ⟨hd, hnx, hw⟩ := ok_dec hok
          obtain ⟨hx, hb, hml, hown, hts, hF, hX, hbb, hbs, hnm⟩ := id B
          unfold fN at q
          split at q
          · rename_i g1 st2 q1
            simp only [Option.some.injEq, Prod.mk.injEq] at q
            obtain ⟨rfl, rfl, rfl, rfl, rfl⟩ := q
            obtain ⟨hd1, hn1⟩ := ok_dec1 hok (fA_sw q1)
            have hn1 : nx = pc + ilen ins := hn1
            subst hn1
            exact st_A X hx hb hown hd1 (ok_A B hw) q1 (go H locs lc hL hW hS)
          · split at q
            · rename_i g1 ls2 st2 q1
              simp only [Option.some.injEq, Prod.mk.injEq] at q
              obtain ⟨rfl, rfl, rfl, rfl, rfl⟩ := q
              obtain ⟨hd1, hn1⟩ := ok_dec1 hok (fL_sw q1)
              have hn1 : nx = pc + ilen ins := hn1
              subst hn1
              exact st_L X hx hb hd1 (ok_L hw) q1 hL (fun lc' a1 => go H locs lc' a1 hW hS)
            · split at q
              · rename_i g1 st2 μ2 q1
                simp only [Option.some.injEq, Prod.mk.injEq] at q
                obtain ⟨rfl, rfl, rfl, rfl, rfl⟩ := q
                obtain ⟨hd1, hn1⟩ := ok_dec1 hok (fM_sw q1)
                have hn1 : nx = pc + ilen ins := hn1
                subst hn1
                exact st_M X B ⟨by omega, by omega⟩ hd1 hw q1 hL hW hS hk0 hk1 (by omega) (by omega) (fun H' locs' a2 a3 => go H' locs' lc hL a2 a3)
              · split at q
                · rename_i g1 pc2 st2 q1
                  simp only [Option.some.injEq, Prod.mk.injEq] at q
                  obtain ⟨rfl, rfl, rfl, rfl, rfl⟩ := q
                  exact st_J X hx hb hd hnx (ok_J hw) q1 (go H locs lc hL hW hS)
                · cases q
        · cases q
    · split at h
      · rename_i y g as rest nx q
        split at h
        · cases h
        · rename_i d'
          cases g with
          | false => cases h
          | true =>
            simp only [cond_true] at h
            split at h
            · rename_i v1 μ1 q1
              have hm1 := run_mono _ _ _ _ _ _ _ _ _ q1
              have hm2 := run_mono _ _ _ _ _ _ _ _ _ h
              exact st_C X hA hM B ⟨hfr, hlo⟩ q (fun y1 y2 y3 => con_of ih hA hM y1 y2 y3 q1) hL hW hS hk0 hk1 hm1.1 hm1.2 (by omega) (by omega) (fun H' locs' a2 a3 => ih p e R s mid args below meth c Q _ m nx ls _ μ1 v μ' j0 j1 k0 k1 H' locs' lc B hfr hlo h hL a2 a3 (Nat.le_trans hk0 (Nat.add_le_add_right hm1.1 _)) (Nat.le_trans hk1 (Nat.add_le_add_right hm1.2 _)) hc hs hret)
            · cases h
      · split at h
        · rename_i g v1 q
          cases g with
          | false => cases h
          | true =>
            simp only [cond_true, Option.some.injEq, Prod.mk.injEq] at h
            obtain ⟨rfl, rfl⟩ := h
            exact hret pc st H locs lc q hW hS
        · cases h
