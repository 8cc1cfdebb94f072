/-! the reference reads the parts of the text, 2 (specs52.py) -/
theorem rC {L d : Nat} {V W P V0 : Mv} {b : Bool} {T : Nat → Int} {n j : Nat} (hB : TB T n) (hR : RP W T n P j) (hV : FRM V W) (hj : j < n) (hK : Kd (cmb V0 P) 4 3) {x1 : Int} (hT : T j = 67) (h0 : ¬ P 120 7 = allP P) : Ev L (d + 4) 139 124 [some (.inr (.inr 120)), some (.inl x1), some (.inl (allP P)), none, none, none] [] W b (RQ V b T n P j) := by
  obtain ⟨hX, hE, e7, e8, hKP⟩ := hR
  have hn := hB.1
  have w2 : 2 ≤ P 121 3 := hK.w2
  have w8 : P 121 3 ≤ 8 := hK.w8
  have hS : stp T n P j = if fOK T n (j + 1) (oAnd (allP P) (oXor (P 120 7) (-1))) then (if fOK T n (j + 2) 1023 then (if fOK T n (j + 3) 1023 then .inr (j + 4, uV (uV P 124 (24 + figN T (j + 1)) (10 * (figN T (j + 2) : Int) + (figN T (j + 3) : Int))) 120 7 (oOr (P 120 7) (oShl 1 (figN T (j + 1) : Int)))) else .inl (j + 3)) else .inl (j + 2)) else .inl (j + 1) := by
    unfold stp
    rw [if_neg (fun z => by have := z.1; omega), if_pos ⟨hT, h0⟩]
  have f176 : ∀ (Y : Mv) (f a : Nat) (x4 s2 : Int), a < 8 → Y 120 12 = (f : Int) → f ≤ 200 → FRM V Y → stp T n P j = .inl f → Ev L (d + 4) 139 176 [some (.inr (.inr 120)), some (.inl x1), some (.inl (allP P)), some (.inl (a : Int)), some (.inl x4), none] [.inl 0, .inl s2, .inl (24 + (a : Int)), .inr (.inr 124)] Y b (RQ V b T n P j) := by
    intro Y f a x4 s2 ha h3 hf hY hs
    refine Ev.blk 11 (B139_176 _ _ _ _ _ _ _ _ _ _ _ _ (show TT L 124 = (1, 32) from rfl) ⟨by omega, by omega⟩ (by decide)) rfl ?_
    refine Ev.ret rfl rfl rfl rfl ⟨rfl, rfl, (hY.up _ (by unfold BDC; omega)).up _ (by unfold BDC; omega), ?_⟩
    rw [hs]
    exact h3
  have f154 : ∀ (Y : Mv) (f a : Nat), a < 8 → Y 120 12 = (f : Int) → f ≤ 200 → FRM V Y → stp T n P j = .inl f → Ev L (d + 4) 139 154 [some (.inr (.inr 120)), some (.inl x1), some (.inl (allP P)), some (.inl (a : Int)), none, none] [.inl 0] Y b (RQ V b T n P j) := by
    intro Y f a ha h3 hf hY hs
    refine Ev.blk 11 (B139_154 _ _ _ _ _ _ _) rfl ?_
    refine Ev.call rfl rfl rfl (x_figF (d := d) (by rw [h3]; omega) (by rw [h3]; exact ⟨by omega, by omega⟩)) (by omega) ?_
    rintro v V' b' ⟨rfl, h_, g_⟩
    subst V' b'
    exact f176 Y f a _ _ ha h3 hf hY hs
  refine Ev.blk 13 (B139_124 _ _ _ _ _) rfl ?_
  rw [hX.2.2.1, show (j : Int) + 1 = ((j + 1 : Nat) : Int) by omega]
  rw [show uV W 120 11 ((j + 1 : Nat) : Int) 120 7 = P 120 7 from e7]
  refine Ev.call rfl rfl rfl (x_fig (d := d) hB (hX.to (j + 1)) (by omega)) (by omega) ?_
  rintro v V1 b1 ⟨rfl, h⟩
  rcases h with ⟨h1, rfl, rfl⟩ | ⟨h1, rfl, rfl⟩
  · rw [if_pos h1] at hS
    rw [uV_uV]
    have a1 := h1.v.2
    have a2 := (msk_bit ⟨w2, w8⟩ (v := figN T (j + 1)) (by omega)).mp h1.b
    obtain ⟨a, ha⟩ : ∃ a, a = figN T (j + 1) := ⟨_, rfl⟩
    rw [← ha] at a1 a2 hS ⊢
    refine Ev.blk 3 (B139_146 _ _ _ _ _ _) rfl ?_
    refine Ev.call rfl rfl rfl (x_fig (d := d) (j := j + 2) hB (hX.to (j + 2)) (by omega)) (by omega) ?_
    rintro v V1 b1 ⟨rfl, h⟩
    rcases h with ⟨h2, rfl, rfl⟩ | ⟨h2, rfl, rfl⟩
    · rw [if_pos h2] at hS
      rw [uV_uV]
      have x2' := h2.v.2
      refine Ev.blk 11 (B139_154 _ _ _ _ _ _ _) rfl ?_
      refine Ev.call rfl rfl rfl (x_fig (d := d) (j := j + 3) hB (hX.to (j + 3)) (by omega)) (by omega) ?_
      rintro v V1 b1 ⟨rfl, h⟩
      rcases h with ⟨h3, rfl, rfl⟩ | ⟨h3, rfl, rfl⟩
      · rw [if_pos h3] at hS
        rw [uV_uV]
        have x3' := h3.v.2
        refine Ev.blk 11 (B139_176 _ _ _ _ _ _ _ _ _ _ _ _ (show TT L 124 = (1, 32) from rfl) ⟨by omega, by omega⟩ (by decide)) rfl ?_
        rw [show (24 + (a : Int)).toNat = 24 + a by omega]
        rw [show uV (uV W 120 11 ((j + 3 + 1 : Nat) : Int)) 124 (24 + a) (10 * (figN T (j + 2) : Int) + (figN T (j + 3) : Int)) 120 7 = P 120 7 from e7]
        refine Ev.ret rfl rfl rfl rfl ⟨rfl, rfl, ((hV.up _ (by unfold BDC; omega)).up _ (by unfold BDC; omega)).up _ (by unfold BDC; omega), ?_⟩
        rw [hS]
        exact ⟨⟨hX.1, hX.2.1, rfl, hX.2.2.2⟩, hE.l.up.l.r, rfl, e8, ⟨_, kd_cost (y := 0) hK (by omega) (by omega)⟩, tb_or hKP.2.1 (show (a : Int) < P 121 3 by omega) (by omega), hKP.2.2⟩
      · rw [if_neg h3] at hS
        exact f176 _ (j + 3) a _ _ (by omega) rfl (by omega) ((hV.up _ (by unfold BDC; omega)).up _ (by unfold BDC; omega)) hS
    · rw [if_neg h2] at hS
      exact f154 _ (j + 2) a (by omega) rfl (by omega) ((hV.up _ (by unfold BDC; omega)).up _ (by unfold BDC; omega)) hS
  · rw [if_neg h1] at hS
    refine Ev.blk 3 (B139_146 _ _ _ _ _ _) rfl ?_
    refine Ev.call rfl rfl rfl (x_figF (d := d) (by show ((j + 1 : Nat) : Int) ≠ -9; omega) (by show in32 ((j + 1 : Nat) : Int); exact ⟨by omega, by omega⟩)) (by omega) ?_
    rintro v V' b' ⟨rfl, h_, g_⟩
    subst V' b'
    exact f154 _ (j + 1) 0 (by omega) rfl (by omega) ((hV.up _ (by unfold BDC; omega)).up _ (by unfold BDC; omega)) hS
theorem rK {L d : Nat} {V W P V0 : Mv} {b : Bool} {T : Nat → Int} {n j : Nat} (hB : TB T n) (hR : RP W T n P j) (hV : FRM V W) (hj : j < n) (hK : Kd (cmb V0 P) 4 3) {x1 : Int} (hT : T j = 75) (h0 : ¬ P 120 8 = allP P) : Ev L (d + 4) 139 207 [some (.inr (.inr 120)), some (.inl x1), some (.inl (allP P)), none, none, none] [] W b (RQ V b T n P j) := by
  obtain ⟨hX, hE, e7, e8, hKP⟩ := hR
  have hn := hB.1
  have w2 : 2 ≤ P 121 3 := hK.w2
  have w8 : P 121 3 ≤ 8 := hK.w8
  have hS : stp T n P j = if fOK T n (j + 1) (oAnd (allP P) (oXor (P 120 8) (-1))) then (if fOK T n (j + 2) 1022 then .inr (j + 3, uV (uV P 125 (24 + figN T (j + 1)) (figN T (j + 2) : Int)) 120 8 (oOr (P 120 8) (oShl 1 (figN T (j + 1) : Int)))) else .inl (j + 2)) else .inl (j + 1) := by
    unfold stp
    rw [if_neg (fun z => by have := z.1; omega), if_neg (fun z => by have := z.1; omega), if_pos ⟨hT, h0⟩]
  have f245 : ∀ (Y : Mv) (f a : Nat), a < 8 → Y 120 12 = (f : Int) → f ≤ 200 → FRM V Y → stp T n P j = .inl f → Ev L (d + 4) 139 245 [some (.inr (.inr 120)), some (.inl x1), some (.inl (allP P)), some (.inl (a : Int)), none, none] [.inl 0, .inl (24 + (a : Int)), .inr (.inr 125)] Y b (RQ V b T n P j) := by
    intro Y f a ha h3 hf hY hs
    refine Ev.blk 10 (B139_245 _ _ _ _ _ _ _ _ _ _ (show TT L 125 = (1, 32) from rfl) ⟨by omega, by omega⟩ (by decide)) rfl ?_
    refine Ev.ret rfl rfl rfl rfl ⟨rfl, rfl, (hY.up _ (by unfold BDC; omega)).up _ (by unfold BDC; omega), ?_⟩
    rw [hs]
    exact h3
  refine Ev.blk 13 (B139_207 _ _ _ _ _) rfl ?_
  rw [hX.2.2.1, show (j : Int) + 1 = ((j + 1 : Nat) : Int) by omega]
  rw [show uV W 120 11 ((j + 1 : Nat) : Int) 120 8 = P 120 8 from e8]
  refine Ev.call rfl rfl rfl (x_fig (d := d) hB (hX.to (j + 1)) (by omega)) (by omega) ?_
  rintro v V1 b1 ⟨rfl, h⟩
  rcases h with ⟨h1, rfl, rfl⟩ | ⟨h1, rfl, rfl⟩
  · rw [if_pos h1] at hS
    rw [uV_uV]
    have a1 := h1.v.2
    have a2 := (msk_bit ⟨w2, w8⟩ (v := figN T (j + 1)) (by omega)).mp h1.b
    obtain ⟨a, ha⟩ : ∃ a, a = figN T (j + 1) := ⟨_, rfl⟩
    rw [← ha] at a1 a2 hS ⊢
    refine Ev.blk 8 (B139_229 _ _ _ _ _ _) rfl ?_
    refine Ev.call rfl rfl rfl (x_fig (d := d) (j := j + 2) hB (hX.to (j + 2)) (by omega)) (by omega) ?_
    rintro v V1 b1 ⟨rfl, h⟩
    rcases h with ⟨h2, rfl, rfl⟩ | ⟨h2, rfl, rfl⟩
    · rw [if_pos h2] at hS
      rw [uV_uV]
      have x2' := h2.v.2
      refine Ev.blk 10 (B139_245 _ _ _ _ _ _ _ _ _ _ (show TT L 125 = (1, 32) from rfl) ⟨by omega, by omega⟩ (by decide)) rfl ?_
      rw [show (24 + (a : Int)).toNat = 24 + a by omega]
      rw [show uV (uV W 120 11 ((j + 2 + 1 : Nat) : Int)) 125 (24 + a) (figN T (j + 2) : Int) 120 8 = P 120 8 from e8]
      refine Ev.ret rfl rfl rfl rfl ⟨rfl, rfl, ((hV.up _ (by unfold BDC; omega)).up _ (by unfold BDC; omega)).up _ (by unfold BDC; omega), ?_⟩
      rw [hS]
      exact ⟨⟨hX.1, hX.2.1, rfl, hX.2.2.2⟩, hE.l.up.l.r, e7, rfl, ⟨_, kd_knock (y := 0) hK (by omega) (by omega)⟩, hKP.2.1, tb_or hKP.2.2 (show (a : Int) < P 121 3 by omega) (by omega)⟩
    · rw [if_neg h2] at hS
      exact f245 _ (j + 2) a (by omega) rfl (by omega) ((hV.up _ (by unfold BDC; omega)).up _ (by unfold BDC; omega)) hS
  · rw [if_neg h1] at hS
    refine Ev.blk 8 (B139_229 _ _ _ _ _ _) rfl ?_
    refine Ev.call rfl rfl rfl (x_figF (d := d) (by show ((j + 1 : Nat) : Int) ≠ -9; omega) (by show in32 ((j + 1 : Nat) : Int); exact ⟨by omega, by omega⟩)) (by omega) ?_
    rintro v V' b' ⟨rfl, h_, g_⟩
    subst V' b'
    exact f245 _ (j + 1) 0 (by omega) rfl (by omega) ((hV.up _ (by unfold BDC; omega)).up _ (by unfold BDC; omega)) hS
theorem rMd {L d : Nat} {V W P V0 : Mv} {b : Bool} {T : Nat → Int} {n j : Nat} (hB : TB T n) (hR : RP W T n P j) (hV : FRM V W) (hj : j < n) (hK : Kd (cmb V0 P) 4 3) {x1 : Int} (hT : T j = 77) (h0 : ¬ oMP P = 0) : Ev L (d + 4) 139 274 [some (.inr (.inr 120)), some (.inl x1), some (.inl (allP P)), none, none, none] [] W b (RQ V b T n P j) := by
  obtain ⟨hX, hE, e7, e8, hKP⟩ := hR
  have hn := hB.1
  have w2 : 2 ≤ P 121 3 := hK.w2
  have w8 : P 121 3 ≤ 8 := hK.w8
  have hS : stp T n P j = if fOK T n (j + 1) (oMP P) then (if fOK T n (j + 2) (oShr (allP P) 1) then (if fOK T n (j + 3) 1023 then (if fOK T n (j + 4) 1023 then .inr (j + 5, uV (uV P 127 (12 + figN T (j + 1)) (10 * (figN T (j + 3) : Int) + (figN T (j + 4) : Int))) 126 (12 + figN T (j + 1)) (figN T (j + 2) : Int)) else .inl (j + 4)) else .inl (j + 3)) else .inl (j + 2)) else .inl (j + 1) := by
    unfold stp
    rw [if_neg (fun z => by have := z.1; omega), if_neg (fun z => by have := z.1; omega), if_neg (fun z => by have := z.1; omega), if_pos ⟨hT, h0⟩]
  have f331 : ∀ (Y : Mv) (f i : Nat) (x4 x5 s2 : Int), i < 4 → Y 120 12 = (f : Int) → f ≤ 200 → FRM V Y → stp T n P j = .inl f → Ev L (d + 4) 139 331 [some (.inr (.inr 120)), some (.inl x1), some (.inl (allP P)), some (.inl (i : Int)), some (.inl x4), some (.inl x5)] [.inl 0, .inl s2, .inl (12 + (i : Int)), .inr (.inr 127)] Y b (RQ V b T n P j) := by
    intro Y f i x4 x5 s2 ha h3 hf hY hs
    refine Ev.blk 10 (B139_331 _ _ _ _ _ _ _ _ _ _ _ _ _ (show TT L 127 = (1, 16) from rfl) ⟨by omega, by omega⟩ (by decide) ⟨by omega, by omega⟩) rfl ?_
    refine Ev.ret rfl rfl rfl rfl ⟨rfl, rfl, (hY.up _ (by unfold BDC; omega)).up _ (by unfold BDC; omega), ?_⟩
    rw [hs]
    exact h3
  have f309 : ∀ (Y : Mv) (f i : Nat) (x4 : Int), i < 4 → Y 120 12 = (f : Int) → f ≤ 200 → FRM V Y → stp T n P j = .inl f → Ev L (d + 4) 139 309 [some (.inr (.inr 120)), some (.inl x1), some (.inl (allP P)), some (.inl (i : Int)), some (.inl x4), none] [.inl 0] Y b (RQ V b T n P j) := by
    intro Y f i x4 ha h3 hf hY hs
    refine Ev.blk 11 (B139_309 _ _ _ _ _ _ _ _) rfl ?_
    refine Ev.call rfl rfl rfl (x_figF (d := d) (by rw [h3]; omega) (by rw [h3]; exact ⟨by omega, by omega⟩)) (by omega) ?_
    rintro v V' b' ⟨rfl, h_, g_⟩
    subst V' b'
    exact f331 Y f i _ _ _ ha h3 hf hY hs
  have f300 : ∀ (Y : Mv) (f i : Nat), i < 4 → Y 120 12 = (f : Int) → f ≤ 200 → FRM V Y → stp T n P j = .inl f → Ev L (d + 4) 139 300 [some (.inr (.inr 120)), some (.inl x1), some (.inl (allP P)), some (.inl (i : Int)), none, none] [.inl 0] Y b (RQ V b T n P j) := by
    intro Y f i ha h3 hf hY hs
    refine Ev.blk 3 (B139_300 _ _ _ _ _ _ _) rfl ?_
    refine Ev.call rfl rfl rfl (x_figF (d := d) (by rw [h3]; omega) (by rw [h3]; exact ⟨by omega, by omega⟩)) (by omega) ?_
    rintro v V' b' ⟨rfl, h_, g_⟩
    subst V' b'
    exact f309 Y f i _ ha h3 hf hY hs
  refine Ev.blk 8 (B139_274 _ _ _ _ _) rfl ?_
  rw [hX.2.2.1, show (j : Int) + 1 = ((j + 1 : Nat) : Int) by omega]
  have hE1 : EQ7 (uV W 120 11 ((j + 1 : Nat) : Int)) P := hE.l
  refine Ev.call rfl rfl rfl (x_oM (d := d) (hE1.kd hK)) (by omega) ?_
  rintro v V' b' ⟨rfl, h_, g_⟩
  subst V' b'
  rw [hE1.oM]
  refine Ev.call rfl rfl rfl (x_fig (d := d) hB (hX.to (j + 1)) (by omega)) (by omega) ?_
  rintro v V1 b1 ⟨rfl, h⟩
  rcases h with ⟨h1, rfl, rfl⟩ | ⟨h1, rfl, rfl⟩
  · rw [if_pos h1] at hS
    rw [uV_uV]
    have a1 := h1.v.2
    have a2 := (oMk_bit (fun i => P 126 (12 + i)) (v := figN T (j + 1)) (by omega) 4 (by omega)).mp h1.b
    obtain ⟨i, hi⟩ : ∃ i, i = figN T (j + 1) := ⟨_, rfl⟩
    rw [← hi] at a1 a2 hS ⊢
    obtain ⟨w, hw⟩ : ∃ w : Nat, P 121 3 = (w : Int) := ⟨_, (Int.toNat_of_nonneg (by omega)).symm⟩
    refine Ev.blk 5 (B139_292 _ _ _ _ _ _) rfl ?_
    refine Ev.call rfl rfl rfl (x_fig (d := d) (j := j + 2) hB (hX.to (j + 2)) (by omega)) (by omega) ?_
    rintro v V1 b1 ⟨rfl, h⟩
    rcases h with ⟨h2, rfl, rfl⟩ | ⟨h2, rfl, rfl⟩
    · rw [if_pos h2] at hS
      rw [uV_uV]
      have y1 := h2.v.2
      have y2 : figN T (j + 2) + 1 < w := half_bit w (by omega) (by omega) _ (by omega) (by
        have := h2.b
        unfold allP at this
        rw [hw] at this
        exact this)
      refine Ev.blk 3 (B139_300 _ _ _ _ _ _ _) rfl ?_
      refine Ev.call rfl rfl rfl (x_fig (d := d) (j := j + 3) hB (hX.to (j + 3)) (by omega)) (by omega) ?_
      rintro v V1 b1 ⟨rfl, h⟩
      rcases h with ⟨h3, rfl, rfl⟩ | ⟨h3, rfl, rfl⟩
      · rw [if_pos h3] at hS
        rw [uV_uV]
        have y3 := h3.v.2
        refine Ev.blk 11 (B139_309 _ _ _ _ _ _ _ _) rfl ?_
        refine Ev.call rfl rfl rfl (x_fig (d := d) (j := j + 4) hB (hX.to (j + 4)) (by omega)) (by omega) ?_
        rintro v V1 b1 ⟨rfl, h⟩
        rcases h with ⟨h4, rfl, rfl⟩ | ⟨h4, rfl, rfl⟩
        · rw [if_pos h4] at hS
          rw [uV_uV]
          have y4 := h4.v.2
          refine Ev.blk 10 (B139_331 _ _ _ _ _ _ _ _ _ _ _ _ _ (show TT L 127 = (1, 16) from rfl) ⟨by omega, by omega⟩ (by decide) ⟨by omega, by omega⟩) rfl ?_
          rw [show (12 + (i : Int)).toNat = 12 + i by omega]
          refine Ev.ret rfl rfl rfl rfl ⟨rfl, rfl, ((hV.up _ (by unfold BDC; omega)).up _ (by unfold BDC; omega)).up _ (by unfold BDC; omega), ?_⟩
          rw [hS]
          exact ⟨⟨hX.1, hX.2.1, rfl, hX.2.2.2⟩, hE.l.up.up, e7, e8, ⟨_, kd_mend hK (by omega) (by omega) (by omega)⟩, hKP.2.1, hKP.2.2⟩
        · rw [if_neg h4] at hS
          exact f331 _ (j + 4) i _ _ _ (by omega) rfl (by omega) ((hV.up _ (by unfold BDC; omega)).up _ (by unfold BDC; omega)) hS
      · rw [if_neg h3] at hS
        exact f309 _ (j + 3) i _ (by omega) rfl (by omega) ((hV.up _ (by unfold BDC; omega)).up _ (by unfold BDC; omega)) hS
    · rw [if_neg h2] at hS
      exact f300 _ (j + 2) i (by omega) rfl (by omega) ((hV.up _ (by unfold BDC; omega)).up _ (by unfold BDC; omega)) hS
  · rw [if_neg h1] at hS
    refine Ev.blk 5 (B139_292 _ _ _ _ _ _) rfl ?_
    refine Ev.call rfl rfl rfl (x_figF (d := d) (by show ((j + 1 : Nat) : Int) ≠ -9; omega) (by show in32 ((j + 1 : Nat) : Int); exact ⟨by omega, by omega⟩)) (by omega) ?_
    rintro v V' b' ⟨rfl, h_, g_⟩
    subst V' b'
    exact f300 _ (j + 1) 0 (by omega) rfl (by omega) ((hV.up _ (by unfold BDC; omega)).up _ (by unfold BDC; omega)) hS
theorem rL {L d : Nat} {V W P V0 : Mv} {b : Bool} {T : Nat → Int} {n j : Nat} (hB : TB T n) (hR : RP W T n P j) (hV : FRM V W) (hj : j < n) (hK : Kd (cmb V0 P) 4 3) {x1 : Int} (hT : T j = 76) (h0 : P 122 3 = -9) : Ev L (d + 4) 139 364 [some (.inr (.inr 120)), some (.inl x1), some (.inl (allP P)), none, none, none] [] W b (RQ V b T n P j) := by
  obtain ⟨hX, hE, e7, e8, hKP⟩ := hR
  have hn := hB.1
  have w2 : 2 ≤ P 121 3 := hK.w2
  have w8 : P 121 3 ≤ 8 := hK.w8
  have hS : stp T n P j = if fOK T n (j + 1) 1023 then .inr (j + 2, uV P 122 3 (figN T (j + 1) : Int)) else .inl (j + 1) := by
    unfold stp
    rw [if_neg (fun z => by have := z.1; omega), if_neg (fun z => by have := z.1; omega), if_neg (fun z => by have := z.1; omega), if_neg (fun z => by have := z.1; omega), if_pos ⟨hT, h0⟩]
  refine Ev.blk 11 (B139_364 _ _ _ _ _) rfl ?_
  rw [hX.2.2.1, show (j : Int) + 1 = ((j + 1 : Nat) : Int) by omega]
  refine Ev.call rfl rfl rfl (x_fig (d := d) hB (hX.to (j + 1)) (by omega)) (by omega) ?_
  rintro v V1 b1 ⟨rfl, h⟩
  rcases h with ⟨h1, rfl, rfl⟩ | ⟨h1, rfl, rfl⟩
  · rw [if_pos h1] at hS
    rw [uV_uV]
    have a1 := h1.v.2
    refine Ev.blk 2 (B139_386 _ _ _ _ _ _ _ _ _ (show TT L 122 = (1, 4) from rfl) ⟨by omega, by omega⟩ (by decide)) rfl ?_
    refine Ev.ret rfl rfl rfl rfl ⟨rfl, rfl, (hV.up _ (by unfold BDC; omega)).up _ (by unfold BDC; exact Or.inr (Or.inr (Or.inl ⟨rfl, rfl⟩))), ?_⟩
    rw [hS]
    exact ⟨⟨hX.1, hX.2.1, rfl, hX.2.2.2⟩, hE.l.up, e7, e8, ⟨_, kd_look hK (by omega)⟩, hKP.2.1, hKP.2.2⟩
  · rw [if_neg h1] at hS
    refine Ev.blk 2 (B139_386 _ _ _ _ _ _ _ _ _ (show TT L 122 = (1, 4) from rfl) ⟨by omega, by omega⟩ (by decide)) rfl ?_
    refine Ev.ret rfl rfl rfl rfl ⟨rfl, rfl, ((hV.up _ (by unfold BDC; omega)).up _ (by unfold BDC; omega)).up _ (by unfold BDC; exact Or.inr (Or.inr (Or.inl ⟨rfl, rfl⟩))), ?_⟩
    rw [hS]
    rfl
theorem x_partR {L d : Nat} {V W P : Mv} {b : Bool} {T : Nat → Int} {n j : Nat} (hB : TB T n) (hR : RP W T n P j) (hV : FRM V W) (hj : j < n) : Ex L (d + 4) 139 [.inr (.inr 120), .inl (T j)] W b (RQ V b T n P j) := by
  have hR' := hR
  obtain ⟨hX, hE, e7, e8, ⟨V0, hK⟩, t7, t8⟩ := hR'
  have hn := hB.1
  have hTj := hB.2 j (by omega)
  have w2 : 2 ≤ P 121 3 := hK.w2
  have w8 : P 121 3 ≤ 8 := hK.w8
  have eA : oShl 1 (W 121 (3 : Int).toNat) - 1 = allP P := by
    rw [hE 121 (by omega) (by omega)]
    rfl
  have ai : in32 (allP P) := (allW ⟨w2, w8⟩).1
  have l9 : P 122 3 = -9 ∨ 0 ≤ P 122 3 ∧ P 122 3 ≤ 9 := hK.lk9
  have eL : W 122 (3 : Int).toNat = P 122 3 := by
    rw [hE 122 (by omega) (by omega)]
    rfl
  have c390 : ¬ (T j = 83 ∧ ¬ oWP P = 0) → ¬ (T j = 67 ∧ ¬ P 120 7 = allP P) → ¬ (T j = 75 ∧ ¬ P 120 8 = allP P) → ¬ (T j = 77 ∧ ¬ oMP P = 0) → ¬ (T j = 76 ∧ P 122 3 = -9) → Ev L (d + 4) 139 390 [some (.inr (.inr 120)), some (.inl (T j)), some (.inl (allP P)), none, none, none] [] W b (RQ V b T n P j) := by
    intro n1 n2 n3 n4 n5
    have hs : stp T n P j = .inl j := by
      unfold stp
      rw [if_neg n1, if_neg n2, if_neg n3, if_neg n4, if_neg n5]
    refine Ev.blk 1 (B139_390 _ _ _ _ _) rfl ?_
    refine Ev.call rfl rfl rfl (x_fail (d := d) hX.2.2.2) (by omega) ?_
    rintro v V' b' ⟨rfl, h_, g_⟩
    subst V' b'
    rw [hX.2.2.1]
    refine Ev.ret rfl rfl rfl rfl ⟨rfl, rfl, hV.up _ (by unfold BDC; omega), ?_⟩
    rw [hs]
    rfl
  have c347 : ¬ (T j = 83 ∧ ¬ oWP P = 0) → ¬ (T j = 67 ∧ ¬ P 120 7 = allP P) → ¬ (T j = 75 ∧ ¬ P 120 8 = allP P) → ¬ (T j = 77 ∧ ¬ oMP P = 0) → Ev L (d + 4) 139 347 [some (.inr (.inr 120)), some (.inl (T j)), some (.inl (allP P)), none, none, none] [] W b (RQ V b T n P j) := by
    intro n1 n2 n3 n4
    refine Ev.blk 3 (B139_347 _ _ _ _ _ ⟨by omega, by omega⟩) rfl ?_
    refine Ev.ite (fun z => ?_) (fun z => ?_)
    · exact c390 n1 n2 n3 n4 (fun y => nd_t z y.1)
    · replace z := nd_f z
      refine Ev.blk 6 (B139_353 _ _ _ _ _ (by rw [eL]; exact ⟨by omega, by omega⟩)) rfl ?_
      rw [eL]
      refine Ev.ite (fun y => ?_) (fun y => ?_)
      · exact c390 n1 n2 n3 n4 (fun x => nd_t y x.2)
      · exact rL (V0 := V0) hB hR hV hj hK z (nd_f y)
  have c261 : ¬ (T j = 83 ∧ ¬ oWP P = 0) → ¬ (T j = 67 ∧ ¬ P 120 7 = allP P) → ¬ (T j = 75 ∧ ¬ P 120 8 = allP P) → Ev L (d + 4) 139 261 [some (.inr (.inr 120)), some (.inl (T j)), some (.inl (allP P)), none, none, none] [] W b (RQ V b T n P j) := by
    intro n1 n2 n3
    refine Ev.blk 3 (B139_261 _ _ _ _ _ ⟨by omega, by omega⟩) rfl ?_
    refine Ev.ite (fun z => ?_) (fun z => ?_)
    · exact c347 n1 n2 n3 (fun y => nd_t z y.1)
    · replace z := nd_f z
      refine Ev.blk 1 (B139_267 _ _ _ _ _) rfl ?_
      refine Ev.call rfl rfl rfl (x_oM (d := d) (hE.kd hK)) (by omega) ?_
      rintro v V' b' ⟨rfl, h_, g_⟩
      subst V' b'
      rw [hE.oM]
      refine Ev.blk 1 (B139_271 _ _ _ _ _ _ (oMk_in _ _)) rfl ?_
      refine Ev.ite (fun y => ?_) (fun y => ?_)
      · exact c347 n1 n2 n3 (fun x => x.2 (of_decide_eq_true y))
      · exact rMd (V0 := V0) hB hR hV hj hK z (of_decide_eq_false y)
  have c193 : ¬ (T j = 83 ∧ ¬ oWP P = 0) → ¬ (T j = 67 ∧ ¬ P 120 7 = allP P) → Ev L (d + 4) 139 193 [some (.inr (.inr 120)), some (.inl (T j)), some (.inl (allP P)), none, none, none] [] W b (RQ V b T n P j) := by
    intro n1 n2
    refine Ev.blk 3 (B139_193 _ _ _ _ _ ⟨by omega, by omega⟩) rfl ?_
    refine Ev.ite (fun z => ?_) (fun z => ?_)
    · exact c261 n1 n2 (fun y => nd_t z y.1)
    · replace z := nd_f z
      refine Ev.blk 4 (B139_199 _ _ _ _ _ (by rw [e8]; exact t8.1) ai) rfl ?_
      rw [e8]
      refine Ev.ite (fun y => ?_) (fun y => ?_)
      · exact c261 n1 n2 (fun x => x.2 (of_decide_eq_true y))
      · exact rK (V0 := V0) hB hR hV hj hK z (of_decide_eq_false y)
  have c110 : ¬ (T j = 83 ∧ ¬ oWP P = 0) → Ev L (d + 4) 139 110 [some (.inr (.inr 120)), some (.inl (T j)), some (.inl (allP P)), none, none, none] [] W b (RQ V b T n P j) := by
    intro n1
    refine Ev.blk 3 (B139_110 _ _ _ _ _ ⟨by omega, by omega⟩) rfl ?_
    refine Ev.ite (fun z => ?_) (fun z => ?_)
    · exact c193 n1 (fun y => nd_t z y.1)
    · replace z := nd_f z
      refine Ev.blk 4 (B139_116 _ _ _ _ _ (by rw [e7]; exact t7.1) ai) rfl ?_
      rw [e7]
      refine Ev.ite (fun y => ?_) (fun y => ?_)
      · exact c193 n1 (fun x => x.2 (of_decide_eq_true y))
      · exact rC (V0 := V0) hB hR hV hj hK z (of_decide_eq_false y)
  refine Ev.blk 12 (B139_0 _ _ _ _ ⟨by omega, by omega⟩) rfl ?_
  rw [eA]
  refine Ev.ite (fun z => ?_) (fun z => ?_)
  · exact c110 (fun y => nd_t z y.1)
  · replace z := nd_f z
    refine Ev.blk 1 (B139_17 _ _ _ _ _) rfl ?_
    refine Ev.call rfl rfl rfl (x_oW (d := d + 1) (hE.kd hK)) (by omega) ?_
    rintro v V' b' ⟨rfl, h_, g_⟩
    subst V' b'
    rw [hE.oW]
    refine Ev.blk 1 (B139_21 _ _ _ _ _ _ (oWk_in _ _)) rfl ?_
    refine Ev.ite (fun y => ?_) (fun y => ?_)
    · exact c110 (fun x => x.2 (of_decide_eq_true y))
    · exact rS (V0 := V0) hB hR hV hj hK z (of_decide_eq_false y)
