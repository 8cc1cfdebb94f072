/-! what a dead local holds does not matter -/
def lle : LSt → LSt → Prop
  | [], [] => True
  | a :: l, a' :: l' => (a = none ∨ a = a') ∧ lle l l'
  | _, _ => False
theorem lle_rfl : ∀ l : LSt, lle l l
  | [] => trivial
  | _ :: l => ⟨Or.inr rfl, lle_rfl l⟩
theorem lle_get : ∀ {l l' : LSt} (_ : lle l l') (i : Nat), lget l i = none ∨ lget l i = lget l' i
  | [], [], _, _ => Or.inl rfl
  | _ :: _, _ :: _, h, 0 => h.1
  | _ :: _, _ :: _, h, i + 1 => lle_get h.2 i
  | [], _ :: _, h, _ => h.elim
  | _ :: _, [], h, _ => h.elim
theorem lle_set : ∀ {l l' : LSt} (_ : lle l l') (i : Nat) (w : Option AV), lle (lset l i w) (lset l' i w)
  | [], [], _, _, _ => trivial
  | _ :: _, _ :: _, h, 0, _ => ⟨Or.inr rfl, h.2⟩
  | _ :: _, _ :: _, h, i + 1, w => ⟨h.1, lle_set h.2 i w⟩
  | [], _ :: _, h, _, _ => h.elim
  | _ :: _, [], h, _, _ => h.elim
theorem lle_nset : ∀ {l l' : LSt} (_ : lle l l') (i : Nat), lget l i = none → lle l (lset l' i none)
  | [], [], _, _, _ => trivial
  | _ :: _, _ :: _, h, 0, q => ⟨Or.inl q, h.2⟩
  | _ :: _, _ :: _, h, i + 1, q => ⟨h.1, lle_nset h.2 i q⟩
  | [], _ :: _, h, _, _ => h.elim
  | _ :: _, [], h, _, _ => h.elim
theorem lle_kill {l l' : LSt} (h : lle l l') : ∀ i : Nat, lle (lkill l i) (lkill l' i)
  | 0 => h
  | j + 1 => by
    show lle (cond (isL (lget l j)) (lset l j none) l) (cond (isL (lget l' j)) (lset l' j none) l')
    rcases lle_get h j with q | q
    · rw [q]
      show lle l _
      cases isL (lget l' j) with
      | false => exact h
      | true => exact lle_nset h j q
    · rw [q]
      cases isL (lget l' j) with
      | false => exact h
      | true => exact lle_set h j none
theorem lle_sto {l l' : LSt} (h : lle l l') (i : Nat) (v : AV) : lle (lsto l i v) (lsto l' i v) := lle_set (lle_kill h i) i _
theorem lle_st2 {l l' : LSt} (h : lle l l') (i : Nat) (v : AV) : lle (lst2 l i v) (lst2 l' i v) := lle_set (lle_set (lle_kill h i) _ _) i _
theorem gI_lle {l l' : LSt} (h : lle l l') (i : Nat) (st st' : St) (g : Bool) (l1 : LSt) (q : gI (lget l i) l st = some (g, l1, st')) : ∃ l2, gI (lget l' i) l' st = some (g, l2, st') ∧ lle l1 l2 := by
  rcases lle_get h i with e | e
  · rw [e] at q
    cases q
  · rw [e] at q
    unfold gI at q ⊢
    split at q
    · cases q
      exact ⟨_, rfl, h⟩
    · cases q
theorem gJ_lle {l l' : LSt} (h : lle l l') (i : Nat) (st st' : St) (g : Bool) (l1 : LSt) (q : gJ (lget l i) l st = some (g, l1, st')) : ∃ l2, gJ (lget l' i) l' st = some (g, l2, st') ∧ lle l1 l2 := by
  rcases lle_get h i with e | e
  · rw [e] at q
    cases q
  · rw [e] at q
    unfold gJ at q ⊢
    split at q
    · cases q
      exact ⟨_, rfl, h⟩
    · cases q
theorem gR_lle {l l' : LSt} (h : lle l l') (i : Nat) (st st' : St) (g : Bool) (l1 : LSt) (q : gR (lget l i) l st = some (g, l1, st')) : ∃ l2, gR (lget l' i) l' st = some (g, l2, st') ∧ lle l1 l2 := by
  rcases lle_get h i with e | e
  · rw [e] at q
    cases q
  · rw [e] at q
    unfold gR at q ⊢
    split at q
    · cases q
      exact ⟨_, rfl, h⟩
    · cases q
theorem pI_lle {l l' : LSt} (h : lle l l') (i : Nat) (st st' : St) (g : Bool) (l1 : LSt) (q : pI i l st = some (g, l1, st')) : ∃ l2, pI i l' st = some (g, l2, st') ∧ lle l1 l2 := by
  unfold pI at q ⊢
  split at q
  · cases q
    exact ⟨_, rfl, lle_sto h _ _⟩
  · cases q
theorem pJ_lle {l l' : LSt} (h : lle l l') (i : Nat) (st st' : St) (g : Bool) (l1 : LSt) (q : pJ i l st = some (g, l1, st')) : ∃ l2, pJ i l' st = some (g, l2, st') ∧ lle l1 l2 := by
  unfold pJ at q ⊢
  split at q
  · cases q
    exact ⟨_, rfl, lle_st2 h _ _⟩
  · cases q
theorem pR_lle {l l' : LSt} (h : lle l l') (i : Nat) (st st' : St) (g : Bool) (l1 : LSt) (q : pR i l st = some (g, l1, st')) : ∃ l2, pR i l' st = some (g, l2, st') ∧ lle l1 l2 := by
  unfold pR at q ⊢
  split at q
  · cases q
    exact ⟨_, rfl, lle_sto h _ _⟩
  · cases q
theorem fL_lle {l l' : LSt} (h : lle l l') (ins : Instr) (st st' : St) (g : Bool) (l1 : LSt) (q : fL ins l st = some (g, l1, st')) : ∃ l2, fL ins l' st = some (g, l2, st') ∧ lle l1 l2 := by
  unfold fL at q
  split at q
  · exact gI_lle h _ _ _ _ _ q
  · exact gI_lle h _ _ _ _ _ q
  · exact gJ_lle h _ _ _ _ _ q
  · exact gJ_lle h _ _ _ _ _ q
  · exact gR_lle h _ _ _ _ _ q
  · exact gR_lle h _ _ _ _ _ q
  · exact pI_lle h _ _ _ _ _ q
  · exact pI_lle h _ _ _ _ _ q
  · exact pJ_lle h _ _ _ _ _ q
  · exact pJ_lle h _ _ _ _ _ q
  · exact pR_lle h _ _ _ _ _ q
  · exact pR_lle h _ _ _ _ _ q
  · rename_i i n
    show ∃ l2, (match lget l' i with
      | some (.inl a) => some (true, lsto l' i (.inl (a + n)), st)
      | _ => none) = some (g, l2, st') ∧ lle l1 l2
    rcases lle_get h i with e | e
    · rw [e] at q
      cases q
    · rw [← e]
      split at q
      · rename_i a ea
        rw [ea]
        cases q
        exact ⟨_, rfl, lle_sto h _ _⟩
      · cases q
  · cases q
theorem fN_lle {l l' : LSt} (h : lle l l') (ins : Instr) (pc nx y w c : Nat) (z : Int) (st : St) (μ : Mm) (g : Bool) (pc1 : Nat) (l1 : LSt) (st1 : St) (μ1 : Mm) (q : fN ins pc nx y w c z l st μ = some (g, pc1, l1, st1, μ1)) : (∃ l2, fN ins pc nx y w c z l' st μ = some (g, pc1, l2, st1, μ1) ∧ lle l1 l2) := by
  unfold fN at q ⊢
  split at q
  · rename_i g2 s2 e
    try rw [e]
    cases q
    exact ⟨_, rfl, h⟩
  · rename_i e
    try rw [e]
    try simp only
    split at q
    · rename_i g2 k2 s2 e2
      obtain ⟨l2, h2, h3⟩ := fL_lle h _ _ _ _ _ e2
      rw [h2]
      cases q
      exact ⟨_, rfl, h3⟩
    · rename_i e2
      have e3 : fL ins l' st = none := by
        cases ins <;> first | rfl | skip
        all_goals (exact absurd (show (none : Option (Bool × Nat × LSt × St × Mm)) = some (g, pc1, l1, st1, μ1) from q) (by simp))
      rw [e3]
      try simp only
      split at q
      · rename_i g3 s3 μ3 e4
        try rw [e4]
        cases q
        exact ⟨_, rfl, h⟩
      · rename_i e4
        try rw [e4]
        try simp only
        split at q
        · rename_i g4 p4 s4 e5
          try rw [e5]
          cases q
          exact ⟨_, rfl, h⟩
        · cases q
theorem fN_none {l l' : LSt} {ins : Instr} {pc nx y w c : Nat} {z : Int} {st : St} {μ : Mm} (h1 : fL ins l st = none) (h2 : fL ins l' st = none) (q : fN ins pc nx y w c z l st μ = none) : fN ins pc nx y w c z l' st μ = none := by
  unfold fN at q ⊢
  rw [h1] at q
  rw [h2]
  split at q
  · cases q
  · try simp only at q ⊢
    split at q
    · cases q
    · try simp only at q ⊢
      split at q
      · cases q
      · rfl
theorem nx1_none {l l' : LSt} {m pc : Nat} {st : St} {μ : Mm} (q : nx1 m pc l st μ = none) : nx1 m pc l' st μ = none ∨ (fC m pc st μ = none ∧ fR m pc st = none) := by
  unfold nx1 at q ⊢
  unfold fC fR
  cases hc : cdd m pc with
  | none => exact Or.inl rfl
  | some e =>
    rw [hc] at q
    obtain ⟨ins, nx, y, w, c, z, u⟩ := e
    replace q : fN ins pc nx y w c z l st μ = none := q
    cases ins <;> first | exact Or.inr ⟨rfl, rfl⟩ | exact Or.inl (fN_none (l := l) (l' := l') rfl rfl q)
theorem nx1_lle {l l' : LSt} (h : lle l l') {m pc : Nat} {st : St} {μ : Mm} {g : Bool} {pc1 : Nat} {l1 : LSt} {st1 : St} {μ1 : Mm} (q : nx1 m pc l st μ = some (g, pc1, l1, st1, μ1)) : ∃ l2, nx1 m pc l' st μ = some (g, pc1, l2, st1, μ1) ∧ lle l1 l2 := by
  unfold nx1 at q ⊢
  cases hc : cdd m pc with
  | none => rw [hc] at q; cases q
  | some e =>
    rw [hc] at q
    exact fN_lle h _ _ _ _ _ _ _ _ _ _ _ _ _ _ q
theorem run_lle : ∀ (n d m pc : Nat) (l l' : LSt) (st : St) (μ : Mm) (r : Option AV × Mm), lle l l' → run n d m pc l st μ = some r → run n d m pc l' st μ = some r
  | 0, _, _, _, _, _, _, _, _, _, h => by simp [run] at h
  | n + 1, d, m, pc, l, l', st, μ, r, hl, h => by
    rw [run] at h ⊢
    cases e : nx1 m pc l st μ with
    | some x =>
      obtain ⟨g, pc1, l1, st1, μ1⟩ := x
      obtain ⟨l2, e2, h2⟩ := nx1_lle hl e
      rw [e] at h
      rw [e2]
      cases g with
      | false => cases h
      | true => exact run_lle n d m pc1 l1 l2 st1 μ1 r h2 h
    | none =>
      rw [e] at h
      rcases nx1_none (l' := l') e with e2 | ⟨e2, e3⟩
      · rw [e2]
        simp only at h ⊢
        split at h
        · rename_i y g as rest nx q2
          split at h
          · cases h
          · rename_i e
            try simp only
            cases g with
            | false => cases h
            | true =>
              simp only [cond_true] at h ⊢
              split at h
              · rename_i v1 μ1 q3
                exact run_lle n _ m nx l l' _ μ1 r hl h
              · cases h
        · exact h
      · simp only at h
        rw [e2] at h
        simp only at h
        rw [e3] at h
        cases h
theorem Ev.dead {L d m pc : Nat} {ls ls' : LSt} {st : St} {V : Mv} {b : Bool} {Q : Option AV → Mv → Bool → Prop} (hl : lle ls ls') (h : Ev L d m pc ls st V b Q) : Ev L d m pc ls' st V b Q := by
  obtain ⟨n, v, V', b', h1, h2⟩ := h
  exact ⟨n, v, V', b', run_lle _ _ _ _ _ _ _ _ _ hl h1, h2⟩
/-- a block, where dead locals may hold something -/
theorem Ev.blkd {L d m pc pc' : Nat} (k : Nat) {ls ls' ls0 : LSt} {st st' : St} {V V' : Mv} {b b' G : Bool} {Q : Option AV → Mv → Bool → Prop} (h : nxs k m pc ls st (M0 L V b) = some (G, pc', ls', st', M0 L V' b')) (hl : lle ls ls0) (hG : G = true) (kk : Ev L d m pc' ls' st' V' b' Q) : Ev L d m pc ls0 st V b Q := Ev.dead hl (Ev.blk k h hG kk)
/-- locals thrown away -/
def mkl : List Bool → LSt → LSt
  | true :: m, _ :: l => none :: mkl m l
  | false :: m, v :: l => v :: mkl m l
  | _, l => l
theorem mkl_lle : ∀ (m : List Bool) (l : LSt), lle (mkl m l) l
  | [], l => by cases l <;> exact lle_rfl _
  | true :: _, [] => trivial
  | false :: _, [] => trivial
  | true :: m, _ :: l => ⟨Or.inl rfl, mkl_lle m l⟩
  | false :: m, _ :: l => ⟨Or.inr rfl, mkl_lle m l⟩
theorem Ev.kill (k : List Bool) {L d m pc : Nat} {ls : LSt} {st : St} {V : Mv} {b : Bool} {Q : Option AV → Mv → Bool → Prop} (h : Ev L d m pc (mkl k ls) st V b Q) : Ev L d m pc ls st V b Q := Ev.dead (mkl_lle k ls) h
