/-! the 38 calls, 1 (by program, specs2.py) -/
theorem Inv.text {N : Nat} {V V' : Mv} (h : Inv N V) (hA : ∀ a, dI a → a ≠ 2 → a ≠ 3 → a ≠ 128 → V' a = V a) (h2 : V' 120 37 = V 120 37) (n_tl : V' 2 0 = V' 120 10 ∧ 0 ≤ V' 120 10 ∧ V' 120 10 ≤ 64) (n_tb : ∀ j : Nat, j < 64 → V' 3 j = V' 128 j ∧ 0 ≤ V' 128 j ∧ V' 128 j ≤ 255) : Inv N V' := by
  unfold dI at hA
  apply Inv.mk
  · intro i hi
    exact (h.kd i hi).frame (fun j hj => hA _ (by omega) (by omega) (by omega) (by omega)) (fun a _ _ => hA a (by omega) (by omega) (by omega) (by omega))
  · intro i a hi ha
    rw [hA (22 + 15 * i) (by omega) (by omega) (by omega) (by omega), hA 130 (by omega) (by omega) (by omega) (by omega)]
    exact h.th i a hi ha
  · rw [hA 130 (by omega) (by omega) (by omega) (by omega), hA 121 (by omega) (by omega) (by omega) (by omega)]
    exact h.tv
  · intro r a hr ha
    rw [hA (64 + r) (by omega) (by omega) (by omega) (by omega), hA 135 (by omega) (by omega) (by omega) (by omega)]
    exact h.ru r a hr ha
  · exact n_tl
  · exact n_tb
  · rw [hA 69 (by omega) (by omega) (by omega) (by omega), h2]
    exact h.ll
  · rw [hA 70 (by omega) (by omega) (by omega) (by omega), hA 145 (by omega) (by omega) (by omega) (by omega)]
    exact h.lr
  · rw [hA 62 (by omega) (by omega) (by omega) (by omega), hA 129 (by omega) (by omega) (by omega) (by omega)]
    exact h.md
  · intro s hs
    rw [hA (72 + 14 * s) (by omega) (by omega) (by omega) (by omega), hA 146 (by omega) (by omega) (by omega) (by omega)]
    exact h.us s hs
  · intro s hs
    rw [hA 146 (by omega) (by omega) (by omega) (by omega)]
    exact fun q => (h.sl s hs q).frame hs (fun a ha => hA a (by omega) (by omega) (by omega) (by omega))
  · intro i hi
    exact (h.br i hi).row (hA (24 + 15 * i) (by omega) (by omega) (by omega) (by omega)) (hA (25 + 15 * i) (by omega) (by omega) (by omega) (by omega)) (fun a _ _ => hA a (by omega) (by omega) (by omega) (by omega))
theorem Inv.log {N : Nat} {V V' : Mv} (h : Inv N V) (hA : ∀ a, dI a → a ≠ 69 → a ≠ 70 → a ≠ 145 → V' a = V a) (h1 : V' 120 10 = V 120 10) (n_ll : V' 69 0 = V' 120 37 ∧ 0 ≤ V' 120 37 ∧ V' 120 37 ≤ 16) (n_lr : ∀ j : Nat, j < 16 → V' 70 j = V' 145 j ∧ 0 ≤ V' 145 j ∧ V' 145 j ≤ 5) : Inv N V' := by
  unfold dI at hA
  apply Inv.mk
  · intro i hi
    exact (h.kd i hi).frame (fun j hj => hA _ (by omega) (by omega) (by omega) (by omega)) (fun a _ _ => hA a (by omega) (by omega) (by omega) (by omega))
  · intro i a hi ha
    rw [hA (22 + 15 * i) (by omega) (by omega) (by omega) (by omega), hA 130 (by omega) (by omega) (by omega) (by omega)]
    exact h.th i a hi ha
  · rw [hA 130 (by omega) (by omega) (by omega) (by omega), hA 121 (by omega) (by omega) (by omega) (by omega)]
    exact h.tv
  · intro r a hr ha
    rw [hA (64 + r) (by omega) (by omega) (by omega) (by omega), hA 135 (by omega) (by omega) (by omega) (by omega)]
    exact h.ru r a hr ha
  · rw [hA 2 (by omega) (by omega) (by omega) (by omega), h1]
    exact h.tl
  · rw [hA 3 (by omega) (by omega) (by omega) (by omega), hA 128 (by omega) (by omega) (by omega) (by omega)]
    exact h.tb
  · exact n_ll
  · exact n_lr
  · rw [hA 62 (by omega) (by omega) (by omega) (by omega), hA 129 (by omega) (by omega) (by omega) (by omega)]
    exact h.md
  · intro s hs
    rw [hA (72 + 14 * s) (by omega) (by omega) (by omega) (by omega), hA 146 (by omega) (by omega) (by omega) (by omega)]
    exact h.us s hs
  · intro s hs
    rw [hA 146 (by omega) (by omega) (by omega) (by omega)]
    exact fun q => (h.sl s hs q).frame hs (fun a ha => hA a (by omega) (by omega) (by omega) (by omega))
  · intro i hi
    exact (h.br i hi).row (hA (24 + 15 * i) (by omega) (by omega) (by omega) (by omega)) (hA (25 + 15 * i) (by omega) (by omega) (by omega) (by omega)) (fun a _ _ => hA a (by omega) (by omega) (by omega) (by omega))
theorem Inv.rule {N : Nat} {V V' : Mv} (h : Inv N V) (hA : ∀ a, dI a → ¬ (64 ≤ a ∧ a ≤ 67) → a ≠ 135 → V' a = V a) (h1 : V' 120 10 = V 120 10) (h2 : V' 120 37 = V 120 37) (n_ru : ∀ r a : Nat, r < 4 → a < 8 → V' (64 + r) a = V' 135 (8 * r + a) ∧ 0 ≤ V' 135 (8 * r + a) ∧ V' 135 (8 * r + a) ≤ 4) : Inv N V' := by
  unfold dI at hA
  apply Inv.mk
  · intro i hi
    exact (h.kd i hi).frame (fun j hj => hA _ (by omega) (by omega) (by omega)) (fun a _ _ => hA a (by omega) (by omega) (by omega))
  · intro i a hi ha
    rw [hA (22 + 15 * i) (by omega) (by omega) (by omega), hA 130 (by omega) (by omega) (by omega)]
    exact h.th i a hi ha
  · rw [hA 130 (by omega) (by omega) (by omega), hA 121 (by omega) (by omega) (by omega)]
    exact h.tv
  · exact n_ru
  · rw [hA 2 (by omega) (by omega) (by omega), h1]
    exact h.tl
  · rw [hA 3 (by omega) (by omega) (by omega), hA 128 (by omega) (by omega) (by omega)]
    exact h.tb
  · rw [hA 69 (by omega) (by omega) (by omega), h2]
    exact h.ll
  · rw [hA 70 (by omega) (by omega) (by omega), hA 145 (by omega) (by omega) (by omega)]
    exact h.lr
  · rw [hA 62 (by omega) (by omega) (by omega), hA 129 (by omega) (by omega) (by omega)]
    exact h.md
  · intro s hs
    rw [hA (72 + 14 * s) (by omega) (by omega) (by omega), hA 146 (by omega) (by omega) (by omega)]
    exact h.us s hs
  · intro s hs
    rw [hA 146 (by omega) (by omega) (by omega)]
    exact fun q => (h.sl s hs q).frame hs (fun a ha => hA a (by omega) (by omega) (by omega))
  · intro i hi
    exact (h.br i hi).row (hA (24 + 15 * i) (by omega) (by omega) (by omega)) (hA (25 + 15 * i) (by omega) (by omega) (by omega)) (fun a _ _ => hA a (by omega) (by omega) (by omega))
theorem op_wipe : OpI 3 133 [] := by
  intro L N V b hL hN hI
  have hi := hI.1
  have ht := hi.tl
  refine Ev.blk 9 (B3_0 _ _ _) rfl ?_
  refine Ev.ret rfl rfl rfl rfl ⟨_, rfl, ⟨by omega, by omega⟩, rfl, ?_⟩
  refine Ev.blk 7 (B133_0 _ _ _) rfl ?_
  refine Ev.ret rfl rfl rfl rfl ⟨?_, ?_, hI.2⟩
  · show some (Sum.inl (V 120 10)) = _
    rw [ht.1]
  · refine (hi.more (Nat.le_succ N)).text (fun a ha _ _ _ => ?_) rfl ?_ ?_
    · unfold dI at ha
      rw [uV_ne (by omega), uV_ne (by omega)]
    · exact ⟨rfl, Int.le_refl 0, (show (0 : Int) ≤ 64 by decide)⟩
    · exact hi.tb
theorem op_unlog : OpI 44 223 [] := by
  intro L N V b hL hN hI
  have hi := hI.1
  have ht := hi.ll
  refine Ev.blk 9 (B44_0 _ _ _) rfl ?_
  refine Ev.ret rfl rfl rfl rfl ⟨_, rfl, ⟨by omega, by omega⟩, rfl, ?_⟩
  refine Ev.blk 7 (B223_0 _ _ _) rfl ?_
  refine Ev.ret rfl rfl rfl rfl ⟨?_, ?_, hI.2⟩
  · show some (Sum.inl (V 120 37)) = _
    rw [ht.1]
  · refine (hi.more (Nat.le_succ N)).log (fun a ha _ _ _ => ?_) rfl ?_ ?_
    · unfold dI at ha
      rw [uV_ne (by omega), uV_ne (by omega)]
    · exact ⟨rfl, Int.le_refl 0, (show (0 : Int) ≤ 16 by decide)⟩
    · exact hi.lr
theorem opI_ro {mc mr : Nat} {as : List AV} (h : ∀ (L N : Nat) (V : Mv) (b : Bool), Iv N V → ∃ z : Int, in32 z ∧ Ex L 29 mc (.inr (.inr 1) :: as) V b (Ans (some (.inl z)) V b) ∧ Ex L 29 mr (.inr (.inr 120) :: as) V b (Ans (some (.inl z)) V b)) : OpI mc mr as := by
  intro L N V b hL hN hI
  obtain ⟨z, h1, h2, h3⟩ := h L N V b hI
  refine Ev.weaken h2 ?_
  rintro v V1 b1 ⟨rfl, rfl, rfl⟩
  refine ⟨z, rfl, h1, rfl, Ev.weaken h3 ?_⟩
  rintro v V2 b2 ⟨rfl, rfl, rfl⟩
  exact ⟨rfl, hI.1.more (Nat.le_succ N), hI.2⟩
theorem opJ_ro {mc mr : Nat} {as : List AV} (h : ∀ (L N : Nat) (V : Mv) (b : Bool), Iv N V → ∃ z : Int, in64 z ∧ Ex L 29 mc (.inr (.inr 1) :: as) V b (Ans (some (.inr (.inl z))) V b) ∧ Ex L 29 mr (.inr (.inr 120) :: as) V b (Ans (some (.inr (.inl z))) V b)) : OpJ mc mr as := by
  intro L N V b hL hN hI
  obtain ⟨z, h1, h2, h3⟩ := h L N V b hI
  refine Ev.weaken h2 ?_
  rintro v V1 b1 ⟨rfl, rfl, rfl⟩
  refine ⟨z, rfl, h1, rfl, Ev.weaken h3 ?_⟩
  rintro v V2 b2 ⟨rfl, rfl, rfl⟩
  exact ⟨rfl, hI.1.more (Nat.le_succ N), hI.2⟩
theorem Inv.bdC {N : Nat} {V : Mv} (h : Inv N V) : BdC V := by
  intro i hi
  obtain ⟨k, rfl⟩ : ∃ k : Nat, i = (k : Int) := ⟨i.toNat, by omega⟩
  have hk := h.kd k (by omega)
  have h1 := hk.w
  have h2 := hk.w2
  have h3 := hk.w8
  rw [Int.toNat_natCast]
  refine ⟨⟨by omega, by omega⟩, fun j hj => ?_⟩
  have h4 := hk.mw j.toNat (by omega)
  rw [h4.1]
  have := h4.2
  omega
theorem Inv.bdR {N : Nat} {V : Mv} (h : Inv N V) : BdR V := by
  intro i hi
  obtain ⟨k, rfl⟩ : ∃ k : Nat, i = (k : Int) := ⟨i.toNat, by omega⟩
  have hk := h.kd k (by omega)
  have h2 := hk.w2
  have h3 := hk.w8
  rw [Int.toNat_natCast]
  refine ⟨⟨by omega, by omega⟩, fun j hj => ?_⟩
  have h4 := (hk.mw j.toNat (by omega)).2
  rw [show (4 * (k : Int) + j).toNat = 4 * k + j.toNat by omega]
  omega
theorem rLv_nn {V : Mv} {K m : Nat} (h : Kd V K m) {a : Nat} (ha : a < 8) : 0 ≤ rLv V (m : Int) (a : Int) := by
  have e : ∀ n, n ≤ 8 → 0 ≤ sumN (fun o => V 123 (64 * (m : Int) + 8 * (a : Int) + (o : Int)).toNat) n := by
    intro n
    induction n with
    | zero => intro _; exact Int.le_refl 0
    | succ n ih =>
      intro hn
      have h1 := ih (by omega)
      have h2 := (h.tn a n ha (by omega)).1
      show 0 ≤ sumN _ n + V 123 (64 * (m : Int) + 8 * (a : Int) + (n : Int)).toNat
      rw [show (64 * (m : Int) + 8 * (a : Int) + (n : Int)).toNat = 64 * m + 8 * a + n by omega]
      omega
  exact e 8 (Nat.le_refl 8)
theorem rGo_bd {V : Mv} {K m : Nat} (h : Kd V K m) {a c : Nat} (ha : a < 8) (hc : c < 8) : 0 ≤ rGo V (m : Int) (a : Int) (c : Int) ∧ rGo V (m : Int) (a : Int) (c : Int) ≤ 10 := by
  unfold rGo
  have h1 := rLv_nn h ha
  have h2 := h.lv10 a ha
  have h3 := h.tn a c ha hc
  rw [show (64 * (m : Int) + 8 * (a : Int) + (c : Int)).toNat = 64 * m + 8 * a + c by omega]
  split <;> omega
theorem op_goes (a0 a1 a2 : Int) (h0 : in32 a0) (h1 : in32 a1) (h2 : in32 a2) : OpI 10 150 [.inl a0, .inl a1, .inl a2] := by
  refine opI_ro (fun L N V b hI => ⟨rGoes V a0 a1 a2, ?_, ?_, x_goesR (d := 26) hI.1.bdR h0 h1 h2⟩)
  · unfold rGoes
    split
    · rename_i q
      obtain ⟨i, rfl⟩ : ∃ k : Nat, a0 = (k : Int) := ⟨a0.toNat, by omega⟩
      have hk := hI.1.kd i (by omega)
      have := hk.w8
      rw [Int.toNat_natCast] at q
      obtain ⟨a, rfl⟩ : ∃ k : Nat, a1 = (k : Int) := ⟨a1.toNat, by omega⟩
      obtain ⟨c, rfl⟩ : ∃ k : Nat, a2 = (k : Int) := ⟨a2.toNat, by omega⟩
      have := rGo_bd hk (a := a) (c := c) (by omega) (by omega)
      exact ⟨by omega, by omega⟩
    · decide
  · have e : rGoes V a0 a1 a2 = cGoes V a0 a1 a2 := by
      unfold rGoes cGoes
      by_cases q : 0 ≤ a0 ∧ a0 < 3
      · obtain ⟨i, rfl⟩ : ∃ k : Nat, a0 = (k : Int) := ⟨a0.toNat, by omega⟩
        have hk := hI.1.kd i (by omega)
        have e1 := hk.w8
        have e2 := hk.w
        rw [Int.toNat_natCast]
        by_cases q2 : (0 ≤ a1 ∧ a1 < V 121 i) ∧ 0 ≤ a2 ∧ a2 < V 121 i
        · rw [if_pos (by omega), if_pos (by omega)]
          obtain ⟨a, rfl⟩ : ∃ k : Nat, a1 = (k : Int) := ⟨a1.toNat, by omega⟩
          obtain ⟨c, rfl⟩ : ∃ k : Nat, a2 = (k : Int) := ⟨a2.toNat, by omega⟩
          rw [← hk.go a c (by omega) (by omega), show ((a : Int) * 8 + (c : Int)).toNat = 8 * a + c by omega]
        · rw [if_neg (by omega), if_neg (by omega)]
      · rw [if_neg (by omega), if_neg (by omega)]
    rw [e]
    exact x_goesC (d := 27) hI.1.bdC h0 h1 h2
