/-! the 38 calls: fault (specs54.py) -/
theorem Kd.mv {V W : Mv} {K m K' m' : Nat} (h : Kd V K m) (hf : ∀ f, f < 2 → W K' f = V K f) (h1 : ∀ k, k < 64 → W (K' + 1) k = V (K + 1) k) (h2 : ∀ k, k < 8 → W (K' + 2) k = V (K + 2) k) (h3 : ∀ k, k < 8 → W (K' + 3) k = V (K + 3) k) (h4 : ∀ k, k < 8 → W (K' + 4) k = V (K + 4) k) (h5 : ∀ k, k < 4 → W (K' + 5) k = V (K + 5) k) (h6 : ∀ k, k < 4 → W (K' + 6) k = V (K + 6) k) (g1 : W 121 m' = V 121 m) (g2 : W 122 m' = V 122 m) (g3 : ∀ k, k < 64 → W 123 (64 * m' + k) = V 123 (64 * m + k)) (g4 : ∀ k, k < 8 → W 124 (8 * m' + k) = V 124 (8 * m + k)) (g5 : ∀ k, k < 8 → W 125 (8 * m' + k) = V 125 (8 * m + k)) (g6 : ∀ k, k < 4 → W 126 (4 * m' + k) = V 126 (4 * m + k)) (g7 : ∀ k, k < 4 → W 127 (4 * m' + k) = V 127 (4 * m + k)) : Kd W K' m' := by
  have t3 : ∀ a c : Nat, a < 8 → c < 8 → W 123 (64 * m' + 8 * a + c) = V 123 (64 * m + 8 * a + c) := fun a c ha hc => by
    have := g3 (8 * a + c) (by omega)
    rw [show 64 * m' + 8 * a + c = 64 * m' + (8 * a + c) by omega, this, show 64 * m + (8 * a + c) = 64 * m + 8 * a + c by omega]
  have lv : ∀ a : Nat, a < 8 → rLv W (m' : Int) (a : Int) = rLv V (m : Int) (a : Int) := fun a ha => by
    unfold rLv
    refine sumN_congr 8 (fun o ho => ?_)
    rw [show (64 * (m' : Int) + 8 * (a : Int) + (o : Int)).toNat = 64 * m' + 8 * a + o by omega, show (64 * (m : Int) + 8 * (a : Int) + (o : Int)).toNat = 64 * m + 8 * a + o by omega]
    exact t3 a o ha ho
  have go : ∀ a c : Nat, a < 8 → c < 8 → rGo W (m' : Int) (a : Int) (c : Int) = rGo V (m : Int) (a : Int) (c : Int) := fun a c ha hc => by
    unfold rGo
    rw [lv a ha, show (64 * (m' : Int) + 8 * (a : Int) + (c : Int)).toNat = 64 * m' + 8 * a + c by omega, show (64 * (m : Int) + 8 * (a : Int) + (c : Int)).toNat = 64 * m + 8 * a + c by omega, t3 a c ha hc]
  refine Kd.mk ?_ ?_ ?_ ?_ ?_ ?_ ?_ ?_ ?_ ?_ ?_ ?_ ?_ ?_
  · rw [hf 0 (by omega), g1]
    exact h.w
  · rw [g1]
    exact h.w2
  · rw [g1]
    exact h.w8
  · rw [hf 1 (by omega), g2]
    exact h.lk
  · rw [g2]
    exact h.lk9
  · intro a c ha hc
    rw [t3 a c ha hc]
    exact h.tn a c ha hc
  · intro a c ha hc
    rw [t3 a c ha hc, g1]
    exact h.tn0 a c ha hc
  · intro a ha
    rw [h2 a ha, lv a ha]
    exact h.lv a ha
  · intro a ha
    rw [lv a ha]
    exact h.lv10 a ha
  · intro a c ha hc
    rw [h1 _ (by omega), go a c ha hc]
    exact h.go a c ha hc
  · intro a ha
    rw [h3 a ha, g4 a ha]
    exact h.co a ha
  · intro a ha
    rw [h4 a ha, g5 a ha]
    exact h.kn a ha
  · intro i hi
    rw [h5 i hi, g7 i hi]
    exact h.mc i hi
  · intro i hi
    rw [h6 i hi, g6 i hi, g1]
    exact h.mw i hi
/-- what reading a text changes is no matter of the invariant -/
def RDC (y k : Nat) : Prop := BDC y k ∨ (y = 2 ∧ k ≠ 0) ∨ (4 ≤ y ∧ y ≤ 10)
theorem Inv.cell {N : Nat} {V W : Mv} (h : Inv N V) (hW : ∀ y k, ¬ RDC y k → W y k = V y k) : Inv N W := by
  unfold RDC BDC at hW
  have F : ∀ y, ¬ (y = 2 ∨ (4 ≤ y ∧ y ≤ 10) ∨ (120 ≤ y ∧ y ≤ 127)) → W y = V y := fun y hy => funext (fun k => hW y k (by omega))
  have e1 : ∀ i, i < 3 → W 121 i = V 121 i := fun i hi => hW 121 i (by omega)
  apply Inv.mk
  · intro i hi
    refine (h.kd i hi).mv ?_ ?_ ?_ ?_ ?_ ?_ ?_ (e1 i hi) (hW 122 i (by omega)) ?_ ?_ ?_ ?_ ?_
    · intro k hk; exact hW _ _ (by omega)
    · intro k hk; exact hW _ _ (by omega)
    · intro k hk; exact hW _ _ (by omega)
    · intro k hk; exact hW _ _ (by omega)
    · intro k hk; exact hW _ _ (by omega)
    · intro k hk; exact hW _ _ (by omega)
    · intro k hk; exact hW _ _ (by omega)
    · intro k hk; exact hW _ _ (by omega)
    · intro k hk; exact hW _ _ (by omega)
    · intro k hk; exact hW _ _ (by omega)
    · intro k hk; exact hW _ _ (by omega)
    · intro k hk; exact hW _ _ (by omega)
  · intro i a hi ha
    rw [F (22 + 15 * i) (by omega), F 130 (by omega)]
    exact h.th i a hi ha
  · intro i hi
    rw [F 130 (by omega), e1 i hi]
    exact h.tv i hi
  · intro r a hr ha
    rw [F (64 + r) (by omega), F 135 (by omega)]
    exact h.ru r a hr ha
  · rw [hW 2 0 (by omega), hW 120 10 (by omega)]
    exact h.tl
  · rw [F 3 (by omega), F 128 (by omega)]
    exact h.tb
  · rw [F 69 (by omega), hW 120 37 (by omega)]
    exact h.ll
  · rw [F 70 (by omega), F 145 (by omega)]
    exact h.lr
  · rw [F 62 (by omega), F 129 (by omega)]
    exact h.md
  · intro s hs
    rw [F (72 + 14 * s) (by omega), F 146 (by omega)]
    exact h.us s hs
  · intro s hs
    rw [F 146 (by omega)]
    intro q
    have g := h.sl s hs q
    apply Sl.mk
    · intro i a hi ha
      rw [F (78 + 14 * s + 3 * i) (by omega), F 147 (by omega)]
      exact g.th i a hi ha
    · intro i hi
      rw [F (74 + 14 * s) (by omega), F 150 (by omega), F 129 (by omega)]
      exact g.md i hi
    · intro i hi
      rw [F 150 (by omega), F 129 (by omega), F 147 (by omega), e1 i hi]
      exact g.ok i hi
    · rw [F (75 + 14 * s) (by omega), F 148 (by omega)]
      exact g.ll
    · intro j hj
      rw [F (76 + 14 * s) (by omega), F 149 (by omega)]
      exact g.lr j hj
  · intro i hi
    exact (h.br i hi).frame (hW _ _ (by omega)) (hW _ _ (by omega)) (hW _ _ (by omega)) (hW _ _ (by omega)) ⟨e1 i hi, fun k hk => hW _ _ (by omega), fun k hk => hW _ _ (by omega), fun k hk => ⟨hW _ _ (by omega), hW _ _ (by omega)⟩⟩
theorem Inv.txt {N : Nat} {V : Mv} (hi : Inv N V) : TB (V 128) (V 120 10).toNat ∧ V 120 10 = ((V 120 10).toNat : Int) := by
  have := hi.tl
  exact ⟨⟨by omega, fun i h => (hi.tb i h).2⟩, by omega⟩
theorem op_fault : OpI 4 134 [] := by
  intro L N V b hL hN hI
  have hi := hI.1
  obtain ⟨hB, hn⟩ := hi.txt
  have htl := hi.tl
  obtain ⟨n, hn2⟩ : ∃ n, n = (V 120 10).toNat := ⟨_, rfl⟩
  rw [← hn2] at hB hn
  refine Ev.blk 4 (B4_0 _ _ _) rfl ?_
  refine Ev.call rfl rfl rfl (x_readC (d := 23) (V1 := V) hB (by rw [htl.1, hn]) (fun i h => (hi.tb i h).1)) (by omega) ?_
  rintro v V1 b1 ⟨rfl, g1, g0, g2⟩
  have hV1 : ∀ x, 120 ≤ x → V1 x = V x := fun x hx => g1 x (by omega)
  have hc : ∀ (V2 : Mv), FRM V1 V2 → Iv (N + 1) V2 := fun V2 f => by
    refine ⟨(hi.more (Nat.le_succ N)).cell (fun y k hy => ?_), fun k => ?_⟩
    · unfold RDC at hy
      rw [f y k (fun z => hy (Or.inl z))]
      by_cases q : y = 2
      · subst q
        obtain rfl : k = 0 := by omega
        exact g0
      · rw [g1 y (by omega)]
    · rw [f 0 k (by unfold BDC; omega), g1 0 (by omega)]
      exact hI.2 k
  have hR : Ex L 28 135 [.inr (.inr 120)] V1 b1 (RF V1 b1 (full (V 128) n V)) := x_readR (d := 23) (V1 := V) hB (by rw [hV1 120 (by omega)]; exact hn) (fun i h => by rw [hV1 128 (by omega)]) (fun x h1 h2 => hV1 x h1)
  cases hs : full (V 128) n V with
  | inl f =>
    rw [hs] at g2 hR
    have g2 : v = some (.inl (f : Int)) ∧ f ≤ 300 := g2
    obtain ⟨rfl, hf⟩ := g2
    refine Ev.ret rfl rfl rfl rfl ⟨_, rfl, ⟨by omega, by omega⟩, g1 0 (by omega), ?_⟩
    refine Ev.blk 1 (B134_0 _ _ _) rfl ?_
    refine Ev.call rfl rfl rfl hR (by omega) ?_
    rintro v V2 b2 ⟨rfl, f1, f2⟩
    have f2 : v = some (.inl (f : Int)) := f2
    subst f2
    exact Ev.ret rfl rfl rfl rfl ⟨rfl, hc V2 f1⟩
  | inr P =>
    rw [hs] at g2 hR
    have g2 : v = some (.inl (-9)) ∧ Kd (cmb V1 P) 4 3 := g2
    obtain ⟨rfl, hK⟩ := g2
    refine Ev.ret rfl rfl rfl rfl ⟨_, rfl, by decide, g1 0 (by omega), ?_⟩
    refine Ev.blk 1 (B134_0 _ _ _) rfl ?_
    refine Ev.call rfl rfl rfl hR (by omega) ?_
    rintro v V2 b2 ⟨rfl, f1, f2⟩
    have f2 : v = some (.inl (-9)) ∧ EQ7 V2 P := f2
    obtain ⟨rfl, _⟩ := f2
    exact Ev.ret rfl rfl rfl rfl ⟨rfl, hc V2 f1⟩
