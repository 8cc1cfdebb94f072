/-! the invariant at the beginning -/
set_option maxRecDepth 100000 in
theorem b_tn : ∀ i, i < 3 → ∀ a, a < 8 → ∀ c, c < 8 → V00 123 (64 * i + 8 * a + c) = 0 := by decide
set_option maxRecDepth 100000 in
theorem b_lv : ∀ i : Nat, i < 3 → ∀ a : Nat, a < 8 → rLv V00 (i : Int) (a : Int) = 0 := by decide
set_option maxRecDepth 100000 in
theorem b_lc : ∀ i, i < 3 → ∀ a, a < 8 → V00 (14 + 15 * i + 2) a = 0 ∧ V00 (14 + 15 * i + 3) a = 0 ∧ V00 (14 + 15 * i + 4) a = 0 ∧ V00 124 (8 * i + a) = 0 ∧ V00 125 (8 * i + a) = 0 := by decide
set_option maxRecDepth 100000 in
theorem b_mc : ∀ i, i < 3 → ∀ j, j < 4 → V00 (14 + 15 * i + 5) j = 0 ∧ V00 (14 + 15 * i + 6) j = -9 ∧ V00 127 (4 * i + j) = 0 ∧ V00 126 (4 * i + j) = -9 := by decide
set_option maxRecDepth 100000 in
theorem b_go : ∀ i, i < 3 → ∀ a, a < 8 → ∀ c, c < 8 → V00 (14 + 15 * i + 1) (8 * a + c) = if a = c then 10 else 0 := by decide
set_option maxRecDepth 100000 in
theorem b_w : ∀ i, i < 3 → V00 (14 + 15 * i) 0 = 2 ∧ V00 121 i = 2 ∧ V00 (14 + 15 * i) 1 = -9 ∧ V00 122 i = -9 ∧ V00 62 i = 0 ∧ V00 129 i = 0 := by decide
set_option maxRecDepth 100000 in
theorem b_th : ∀ i, i < 3 → ∀ a, a < 8 → V00 (22 + 15 * i) a = (if a = 0 then 1 else 0) ∧ V00 130 (8 * i + a) = if a = 0 then 1 else 0 := by decide
set_option maxRecDepth 100000 in
theorem b_ru : ∀ r, r < 4 → ∀ a, a < 8 → V00 (64 + r) a = 0 ∧ V00 135 (8 * r + a) = 0 := by decide
set_option maxRecDepth 100000 in
theorem b_tb : ∀ j, j < 64 → V00 3 j = 0 ∧ V00 128 j = 0 := by decide
set_option maxRecDepth 100000 in
theorem b_lr : ∀ j, j < 16 → V00 70 j = 0 ∧ V00 145 j = 0 := by decide
set_option maxRecDepth 100000 in
theorem b_us : ∀ s, s < 2 → V00 (72 + 14 * s) 0 = 0 ∧ V00 146 s = 0 := by decide
set_option maxRecDepth 100000 in
theorem b_br : ∀ i, i < 3 → V00 (24 + 15 * i) 6 = 0 := by decide
theorem wt1 {f : Nat → Int} (h : ∀ a, a < 8 → f a = if a = 0 then 1 else 0) : Wt f 2 := by
  apply Wt.mk
  · intro a ha
    rw [h a ha]
    split <;> omega
  · intro a ha h2
    rw [h a ha, if_neg (by omega)]
  · refine ⟨0, by omega, ?_⟩
    rw [h 0 (by omega)]
    decide
theorem kd_begin (i : Nat) (hi : i < 3) : Kd V00 (14 + 15 * i) i := by
  have hw := b_w i hi
  apply Kd.mk
  · rw [hw.1, hw.2.1]
  · rw [hw.2.1]; omega
  · rw [hw.2.1]; omega
  · rw [hw.2.2.1, hw.2.2.2.1]
  · exact Or.inl hw.2.2.2.1
  · intro a c ha hc
    rw [b_tn i hi a ha c hc]
    omega
  · intro a c ha hc _
    exact b_tn i hi a ha c hc
  · intro a ha
    rw [b_lv i hi a ha]
    exact (b_lc i hi a ha).1
  · intro a ha
    rw [b_lv i hi a ha]
    omega
  · intro a c ha hc
    rw [b_go i hi a ha c hc]
    unfold rGo
    by_cases q : a = c
    · rw [if_pos q, if_pos (by omega), b_lv i hi a ha]
      rfl
    · rw [if_neg q, if_neg (by omega)]
      have e : ((64 : Int) * (i : Int) + 8 * (a : Int) + (c : Int)).toNat = 64 * i + 8 * a + c := by omega
      rw [e, b_tn i hi a ha c hc]
  · intro a ha
    have := b_lc i hi a ha
    rw [this.2.1, this.2.2.2.1]
    omega
  · intro a ha
    have := b_lc i hi a ha
    rw [this.2.2.1, this.2.2.2.2]
    omega
  · intro j hj
    have := b_mc i hi j hj
    rw [this.1, this.2.2.1]
    omega
  · intro j hj
    have := b_mc i hi j hj
    rw [this.2.1, this.2.2.2]
    exact ⟨rfl, Or.inl rfl⟩
theorem inv_begin0 : Inv 0 V00 := by
  apply Inv.mk
  · exact kd_begin
  · intro i a hi ha
    have := b_th i hi a ha
    rw [this.1, this.2]
  · intro i hi
    rw [(b_w i hi).2.1]
    exact wt1 (fun a ha => (b_th i hi a ha).2)
  · intro r a hr ha
    have := b_ru r hr a ha
    rw [this.1, this.2]
    omega
  · exact ⟨rfl, by decide, by decide⟩
  · intro j hj
    have := b_tb j hj
    rw [this.1, this.2]
    omega
  · exact ⟨rfl, by decide, by decide⟩
  · intro j hj
    have := b_lr j hj
    rw [this.1, this.2]
    omega
  · intro i hi
    have := b_w i hi
    rw [this.2.2.2.2.1, this.2.2.2.2.2]
    exact ⟨rfl, by decide, by decide⟩
  · intro s hs
    have := b_us s hs
    rw [this.1, this.2]
    omega
  · intro s hs q
    rw [(b_us s hs).2] at q
    omega
  · intro i hi
    exact Or.inl (b_br i hi)
theorem inv_begin (xs : Nat → Int32) : Inv 0 (V0 xs) := by
  refine inv_begin0.frame (fun a ha => ?_) rfl rfl
  funext k
  unfold V0
  unfold dI at ha
  rw [beqF (show a ≠ 0 by omega)]
  rfl
