/-! RUNS WITH A GOAL: the machine at a place comes to a return with Q -/
theorem run_up : ∀ (n d m pc : Nat) (ls : LSt) (st : St) (μ : Mm) (r : Option AV × Mm), run n d m pc ls st μ = some r → ∀ n' d', n ≤ n' → d ≤ d' → run n' d' m pc ls st μ = some r
  | 0, _, _, _, _, _, _, _, h => by simp [run] at h
  | n + 1, d, m, pc, ls, st, μ, r, h => by
    intro n' d' hn hd
    obtain ⟨k, rfl⟩ : ∃ k, n' = k + 1 := ⟨n' - 1, by omega⟩
    rw [run] at h ⊢
    split at h
    · rename_i g pc1 ls1 st1 μ1 q
      cases g with
      | false => cases h
      | true => exact run_up n d m pc1 ls1 st1 μ1 r h k d' (by omega) hd
    · rename_i q
      split at h
      · rename_i y g as rest nx q2
        split at h
        · cases h
        · rename_i e
          obtain ⟨e', rfl⟩ : ∃ e', d' = e' + 1 := ⟨d' - 1, by omega⟩
          simp only
          cases g with
          | false => cases h
          | true =>
            simp only [cond_true] at h ⊢
            split at h
            · rename_i v1 μ1 q3
              rw [run_up n e y 0 _ _ _ _ q3 k e' (by omega) (by omega)]
              exact run_up n (e + 1) m nx ls _ μ1 r h k (e' + 1) (by omega) hd
            · cases h
      · rename_i q2
        exact h
/-- straight instructions, with their guards -/
def nxs : Nat → Nat → Nat → LSt → St → Mm → Option (Bool × Nat × LSt × St × Mm)
  | 0, _, pc, ls, st, μ => some (true, pc, ls, st, μ)
  | n + 1, m, pc, ls, st, μ => match nx1 m pc ls st μ with
    | some (g, pc', ls', st', μ') => (match nxs n m pc' ls' st' μ' with
      | some (g', r) => some (g && g', r)
      | none => none)
    | none => none
theorem nxs_run : ∀ (k n d m pc pc' : Nat) (ls ls' : LSt) (st st' : St) (μ μ' : Mm), nxs k m pc ls st μ = some (true, pc', ls', st', μ') → run (n + k) d m pc ls st μ = run n d m pc' ls' st' μ'
  | 0, n, d, m, pc, pc', ls, ls', st, st', μ, μ', h => by
    simp only [nxs, Option.some.injEq, Prod.mk.injEq, true_and] at h
    obtain ⟨rfl, rfl, rfl, rfl⟩ := h
    rfl
  | k + 1, n, d, m, pc, pc', ls, ls', st, st', μ, μ', h => by
    unfold nxs at h
    split at h
    · rename_i g pc1 ls1 st1 μ1 q
      split at h
      · rename_i g' r q2
        simp only [Option.some.injEq, Prod.mk.injEq, Bool.and_eq_true] at h
        obtain ⟨⟨rfl, rfl⟩, rfl⟩ := h
        show run (n + k + 1) d m pc ls st μ = _
        rw [run, q]
        exact nxs_run k n d m pc1 pc' ls1 ls' st1 st' μ1 μ' q2
      · cases h
    · cases h
abbrev Mv : Type := Nat → Nat → Int
/-- behind the constructors: at depth d, method m, place pc: it comes to a return, and Q holds of the answer and of the numbers -/
def Ev (L d m pc : Nat) (ls : LSt) (st : St) (V : Mv) (b : Bool) (Q : Option AV → Mv → Bool → Prop) : Prop := ∃ n v V' b', run n d m pc ls st (M0 L V b) = some (v, M0 L V' b') ∧ Q v V' b'
theorem Ev.weaken {L d m pc : Nat} {ls : LSt} {st : St} {V : Mv} {b : Bool} {Q Q' : Option AV → Mv → Bool → Prop} (h : Ev L d m pc ls st V b Q) (hq : ∀ v V' b', Q v V' b' → Q' v V' b') : Ev L d m pc ls st V b Q' := by
  obtain ⟨n, v, V', b', h1, h2⟩ := h
  exact ⟨n, v, V', b', h1, hq _ _ _ h2⟩
theorem Ev.deep {L d d' m pc : Nat} {ls : LSt} {st : St} {V : Mv} {b : Bool} {Q : Option AV → Mv → Bool → Prop} (h : Ev L d m pc ls st V b Q) (hd : d ≤ d') : Ev L d' m pc ls st V b Q := by
  obtain ⟨n, v, V', b', h1, h2⟩ := h
  exact ⟨n, v, V', b', run_up _ _ _ _ _ _ _ _ h1 n d' (Nat.le_refl _) hd, h2⟩
/-- a block: k straight instructions -/
theorem Ev.blk {L d m pc pc' : Nat} (k : Nat) {ls ls' : LSt} {st st' : St} {V V' : Mv} {b b' G : Bool} {Q : Option AV → Mv → Bool → Prop} (h : nxs k m pc ls st (M0 L V b) = some (G, pc', ls', st', M0 L V' b')) (hG : G = true) (kk : Ev L d m pc' ls' st' V' b' Q) : Ev L d m pc ls st V b Q := by
  subst hG
  obtain ⟨n, v, V2, b2, h1, h2⟩ := kk
  exact ⟨n + k, v, V2, b2, by rw [nxs_run k n d m pc pc' _ _ _ _ _ _ h]; exact h1, h2⟩
theorem Ev.ite {L d m y nx : Nat} {ls : LSt} {st : St} {V : Mv} {b C : Bool} {Q : Option AV → Mv → Bool → Prop} (h1 : C = true → Ev L d m y ls st V b Q) (h2 : C = false → Ev L d m nx ls st V b Q) : Ev L d m (cond C y nx) ls st V b Q := by
  cases C with
  | true => exact h1 rfl
  | false => exact h2 rfl
/-- the contract of a call: its callee from its entry -/
def Ex (L d m : Nat) (as : List AV) (V : Mv) (b : Bool) (Q : Option AV → Mv → Bool → Prop) : Prop := Ev L d m 0 (ent (mL m) as) [] V b Q
theorem Ev.call {L d e m pc y nx : Nat} {ls : LSt} {st rest : St} {as : List AV} {V : Mv} {b G : Bool} {Q Q1 : Option AV → Mv → Bool → Prop} (h0 : nx1 m pc ls st (M0 L V b) = none) (h : fC m pc st (M0 L V b) = some (y, G, as, rest, nx)) (hG : G = true) (hc : Ex L e y as V b Q1) (he : e ≤ d) (kk : ∀ v V' b', Q1 v V' b' → Ev L (d + 1) m nx ls (v.toList ++ rest) V' b' Q) : Ev L (d + 1) m pc ls st V b Q := by
  subst hG
  obtain ⟨n1, v1, V1, b1, r1, q1⟩ := hc
  obtain ⟨n2, v2, V2, b2, r2, q2⟩ := kk v1 V1 b1 q1
  refine ⟨n1 + n2 + 1, v2, V2, b2, ?_, q2⟩
  rw [run, h0]
  simp only
  rw [h]
  simp only [cond_true]
  rw [run_up _ _ _ _ _ _ _ _ r1 (n1 + n2) d (by omega) he]
  simp only
  exact run_up _ _ _ _ _ _ _ _ r2 (n1 + n2) (d + 1) (by omega) (Nat.le_refl _)
theorem Ev.ret {L d m pc : Nat} {ls : LSt} {st : St} {V : Mv} {b g : Bool} {v : Option AV} {Q : Option AV → Mv → Bool → Prop} (h0 : nx1 m pc ls st (M0 L V b) = none) (h1 : fC m pc st (M0 L V b) = none) (h : fR m pc st = some (g, v)) (hg : g = true) (hq : Q v V b) : Ev L d m pc ls st V b Q := by
  subst hg
  refine ⟨1, v, V, b, ?_, hq⟩
  rw [run, h0]
  simp only
  rw [h1]
  simp only
  rw [h]
  rfl
theorem lawr_of (h : ∀ (L : Nat) (xs : Nat → Int32), L ≤ 3584 → Ev L 30 0 16 [some (.inr (.inr 0)), some (.inr (.inr 1)), some (.inr (.inr 120)), none] [] (V0 xs) false (fun v _ _ => v = some (.inl 1))) : LAWR := by
  intro L xs hL
  obtain ⟨n, v, V, b, h1, h2⟩ := h L xs hL
  subst h2
  exact ⟨n, V, b, h1⟩
