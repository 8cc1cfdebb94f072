/-! the class reads the parts of the text, 2 (specs49.py) -/
theorem x_cost {L d : Nat} {V P : Mv} {b : Bool} {T : Nat → Int} {n j : Nat} (hB : TB T n) (hC : CP V T n P j) (hj : j < n) (hT : T j = 67) : Ex L (d + 3) 61 [.inr (.inr 2), .inr (.inr 4)] V b (PQ V b T n P j) := by
  obtain ⟨hX, e7, e8, hK, t7, t8⟩ := hC
  have w2 : 2 ≤ P 121 3 := hK.w2
  have w8 : P 121 3 ≤ 8 := hK.w8
  have e0 : V 4 0 = P 121 3 := hK.w
  have hn := hB.1
  have hta := told_all ⟨w2, w8⟩ t7
  refine Ev.blk 3 (B61_0 _ _ _ _ (Or.inl rfl)) rfl ?_
  refine Ev.call rfl rfl rfl (x_bits (d := d)) (by omega) ?_
  rintro v V' b' ⟨rfl, h_, g_⟩
  subst V' b'
  refine Ev.blk 5 (B61_8 _ _ _ _ _ (Or.inl rfl)) rfl ?_
  rw [e0, e7]
  by_cases h0 : P 120 7 = allP P
  · have hs : stp T n P j = .inl j := by
      unfold stp
      rw [if_neg (fun z => by have := z.1; omega), if_neg (fun z => z.2 h0), if_neg (fun z => by have := z.1; omega), if_neg (fun z => by have := z.1; omega), if_neg (fun z => by have := z.1; omega)]
    rw [hta.mpr h0]
    refine Ev.call rfl rfl rfl (x_name0 (d := d)) (by omega) ?_
    rintro v V' b' ⟨rfl, h_, g_⟩
    subst V' b'
    rw [hX.2.2.1]
    refine Ev.blk 2 (B61_18 _ _ _ _ _) rfl ?_
    refine Ev.call rfl rfl rfl (x_prcF (d := d) (by rw [uV_at, if_pos rfl]; omega) (by rw [uV_at, if_pos rfl]; exact ⟨by omega, by omega⟩)) (by omega) ?_
    rintro v V' b' ⟨rfl, h_, g_⟩
    subst V' b'
    refine Ev.blk 3 (B61_23 _ _ _ _ _ _ (by decide)) rfl ?_
    refine Ev.ite (fun _ => ?_) (fun h => absurd h (by decide))
    exact Ev.ret rfl rfl rfl rfl ⟨rfl, rfl, fr2 fr0, rfl, by rw [hs]; rfl⟩
  · have hS : stp T n P j = if fOK T n (j + 1) (oAnd (allP P) (oXor (P 120 7) (-1))) then (if fOK T n (j + 2) 1023 then (if fOK T n (j + 3) 1023 then .inr (j + 4, uV (uV P 124 (24 + figN T (j + 1)) (10 * (figN T (j + 2) : Int) + (figN T (j + 3) : Int))) 120 7 (oOr (P 120 7) (oShl 1 (figN T (j + 1) : Int)))) else .inl (j + 3)) else .inl (j + 2)) else .inl (j + 1) := by
      unfold stp
      rw [if_neg (fun z => by have := z.1; omega), if_pos ⟨hT, h0⟩]
    refine Ev.call rfl rfl rfl (x_name (d := d) hB hX (by omega) (oAnd_in _ _) (fun z => h0 (hta.mp z))) (by omega) ?_
    rintro v V1 b1 ⟨rfl, h⟩
    rcases h with ⟨h1, rfl, rfl⟩ | ⟨h1, rfl, rfl⟩
    · have h1' : fOK T n (j + 1) (oAnd (allP P) (oXor (P 120 7) (-1))) := h1
      rw [if_pos h1'] at hS
      have a1 := h1.v.2
      have a2 := (msk_bit ⟨w2, w8⟩ (v := figN T (j + 1)) (by omega)).mp h1.b
      obtain ⟨a, ha⟩ : ∃ a, a = figN T (j + 1) := ⟨_, rfl⟩
      rw [← ha] at a1 a2 hS ⊢
      refine Ev.blk 2 (B61_18 _ _ _ _ _) rfl ?_
      refine Ev.call rfl rfl rfl (x_prc (d := d) (j := j + 2) hB (hX.to (j + 2)) (by omega)) (by omega) ?_
      rintro v V1 b1 ⟨rfl, h⟩
      rcases h with ⟨h2, h3, rfl, rfl⟩ | ⟨h2, rfl, rfl⟩ | ⟨h2, h3, rfl, rfl⟩
      · rw [if_pos h2, if_pos h3] at hS
        rw [uV_uV]
        have x1 := h2.v.2
        have x2 := h3.v.2
        refine Ev.blk 3 (B61_23 _ _ _ _ _ _ ⟨by omega, by omega⟩) rfl ?_
        refine Ev.ite (fun h => absurd (of_decide_eq_true h) (by omega)) (fun _ => ?_)
        refine Ev.blk 13 (B61_28 _ _ _ _ _ _ (Or.inl rfl) ⟨by omega, by omega⟩) rfl ?_
        have e7' : uV V 2 2 ((j + 2 + 2 : Nat) : Int) 4 2 = P 120 7 := e7
        rw [e7', Int.toNat_natCast]
        refine Ev.ret rfl rfl rfl rfl ⟨rfl, rfl, frk (by omega) (frk (by omega) (fr2 fr0)), rfl, ?_⟩
        rw [hS]
        exact ⟨(hX.to (j + 4)).frame rfl rfl, rfl, e8, kd_cost (kd_place hK) (by omega) (by omega), tb_or t7 (show (a : Int) < P 121 3 by omega) (by omega), t8⟩
      · rw [if_neg h2] at hS
        refine Ev.blk 3 (B61_23 _ _ _ _ _ _ (by decide)) rfl ?_
        refine Ev.ite (fun _ => ?_) (fun h => absurd h (by decide))
        exact Ev.ret rfl rfl rfl rfl ⟨rfl, rfl, fr2 (fr2 fr0), rfl, by rw [hS]; rfl⟩
      · rw [if_pos h2, if_neg h3] at hS
        refine Ev.blk 3 (B61_23 _ _ _ _ _ _ (by decide)) rfl ?_
        refine Ev.ite (fun _ => ?_) (fun h => absurd h (by decide))
        exact Ev.ret rfl rfl rfl rfl ⟨rfl, rfl, fr2 (fr2 (fr2 fr0)), rfl, by rw [hS]; rfl⟩
    · have h1' : ¬ fOK T n (j + 1) (oAnd (allP P) (oXor (P 120 7) (-1))) := h1
      rw [if_neg h1'] at hS
      refine Ev.blk 2 (B61_18 _ _ _ _ _) rfl ?_
      refine Ev.call rfl rfl rfl (x_prcF (d := d) (by rw [uV_at, if_pos rfl]; omega) (by rw [uV_at, if_pos rfl]; exact ⟨by omega, by omega⟩)) (by omega) ?_
      rintro v V' b' ⟨rfl, h_, g_⟩
      subst V' b'
      refine Ev.blk 3 (B61_23 _ _ _ _ _ _ (by decide)) rfl ?_
      refine Ev.ite (fun _ => ?_) (fun h => absurd h (by decide))
      exact Ev.ret rfl rfl rfl rfl ⟨rfl, rfl, fr2 (fr2 fr0), rfl, by rw [hS]; rfl⟩
theorem x_knk {L d : Nat} {V P : Mv} {b : Bool} {T : Nat → Int} {n j : Nat} (hB : TB T n) (hC : CP V T n P j) (hj : j < n) (hT : T j = 75) : Ex L (d + 3) 63 [.inr (.inr 2), .inr (.inr 4)] V b (PQ V b T n P j) := by
  obtain ⟨hX, e7, e8, hK, t7, t8⟩ := hC
  have w2 : 2 ≤ P 121 3 := hK.w2
  have w8 : P 121 3 ≤ 8 := hK.w8
  have e0 : V 4 0 = P 121 3 := hK.w
  have hn := hB.1
  have hta := told_all ⟨w2, w8⟩ t8
  refine Ev.blk 3 (B63_0 _ _ _ _ (Or.inl rfl)) rfl ?_
  refine Ev.call rfl rfl rfl (x_bits (d := d)) (by omega) ?_
  rintro v V' b' ⟨rfl, h_, g_⟩
  subst V' b'
  refine Ev.blk 5 (B63_8 _ _ _ _ _ (Or.inl rfl)) rfl ?_
  rw [e0, e8]
  by_cases h0 : P 120 8 = allP P
  · have hs : stp T n P j = .inl j := by
      unfold stp
      rw [if_neg (fun z => by have := z.1; omega), if_neg (fun z => by have := z.1; omega), if_neg (fun z => z.2 h0), if_neg (fun z => by have := z.1; omega), if_neg (fun z => by have := z.1; omega)]
    rw [hta.mpr h0]
    refine Ev.call rfl rfl rfl (x_name0 (d := d)) (by omega) ?_
    rintro v V' b' ⟨rfl, h_, g_⟩
    subst V' b'
    rw [hX.2.2.1]
    refine Ev.blk 3 (B63_18 _ _ _ _ _) rfl ?_
    refine Ev.call rfl rfl rfl (x_tkF (d := d) (by rw [uV_at, if_pos rfl]; omega) (by rw [uV_at, if_pos rfl]; exact ⟨by omega, by omega⟩)) (by omega) ?_
    rintro v V' b' ⟨rfl, h_, g_⟩
    subst V' b'
    refine Ev.blk 3 (B63_26 _ _ _ _ _ _ (by decide)) rfl ?_
    refine Ev.ite (fun _ => ?_) (fun h => absurd h (by decide))
    exact Ev.ret rfl rfl rfl rfl ⟨rfl, rfl, fr2 fr0, rfl, by rw [hs]; rfl⟩
  · have hS : stp T n P j = if fOK T n (j + 1) (oAnd (allP P) (oXor (P 120 8) (-1))) then (if fOK T n (j + 2) 1022 then .inr (j + 3, uV (uV P 125 (24 + figN T (j + 1)) (figN T (j + 2) : Int)) 120 8 (oOr (P 120 8) (oShl 1 (figN T (j + 1) : Int)))) else .inl (j + 2)) else .inl (j + 1) := by
      unfold stp
      rw [if_neg (fun z => by have := z.1; omega), if_neg (fun z => by have := z.1; omega), if_pos ⟨hT, h0⟩]
    refine Ev.call rfl rfl rfl (x_name (d := d) hB hX (by omega) (oAnd_in _ _) (fun z => h0 (hta.mp z))) (by omega) ?_
    rintro v V1 b1 ⟨rfl, h⟩
    rcases h with ⟨h1, rfl, rfl⟩ | ⟨h1, rfl, rfl⟩
    · have h1' : fOK T n (j + 1) (oAnd (allP P) (oXor (P 120 8) (-1))) := h1
      rw [if_pos h1'] at hS
      have a1 := h1.v.2
      have a2 := (msk_bit ⟨w2, w8⟩ (v := figN T (j + 1)) (by omega)).mp h1.b
      obtain ⟨a, ha⟩ : ∃ a, a = figN T (j + 1) := ⟨_, rfl⟩
      rw [← ha] at a1 a2 hS ⊢
      refine Ev.blk 3 (B63_18 _ _ _ _ _) rfl ?_
      refine Ev.call rfl rfl rfl (x_tk (d := d) (j := j + 2) hB (hX.to (j + 2)) (by omega)) (by omega) ?_
      rintro v V1 b1 ⟨rfl, h⟩
      rcases h with ⟨h2, rfl, rfl⟩ | ⟨h2, rfl, rfl⟩
      · rw [if_pos h2] at hS
        rw [uV_uV]
        have x1 := h2.v.2
        refine Ev.blk 3 (B63_26 _ _ _ _ _ _ ⟨by omega, by omega⟩) rfl ?_
        refine Ev.ite (fun h => absurd (of_decide_eq_true h) (by omega)) (fun _ => ?_)
        refine Ev.blk 13 (B63_31 _ _ _ _ _ _ (Or.inl rfl) ⟨by omega, by omega⟩) rfl ?_
        have e8' : uV V 2 2 ((j + 2 + 1 : Nat) : Int) 4 3 = P 120 8 := e8
        rw [e8', Int.toNat_natCast]
        refine Ev.ret rfl rfl rfl rfl ⟨rfl, rfl, frk (by omega) (frk (by omega) (fr2 fr0)), rfl, ?_⟩
        rw [hS]
        exact ⟨(hX.to (j + 3)).frame rfl rfl, e7, rfl, kd_knock (kd_place hK) (by omega) (by omega), t7, tb_or t8 (show (a : Int) < P 121 3 by omega) (by omega)⟩
      · rw [if_neg h2] at hS
        refine Ev.blk 3 (B63_26 _ _ _ _ _ _ (by decide)) rfl ?_
        refine Ev.ite (fun _ => ?_) (fun h => absurd h (by decide))
        exact Ev.ret rfl rfl rfl rfl ⟨rfl, rfl, fr2 (fr2 fr0), rfl, by rw [hS]; rfl⟩
    · have h1' : ¬ fOK T n (j + 1) (oAnd (allP P) (oXor (P 120 8) (-1))) := h1
      rw [if_neg h1'] at hS
      refine Ev.blk 3 (B63_18 _ _ _ _ _) rfl ?_
      refine Ev.call rfl rfl rfl (x_tkF (d := d) (by rw [uV_at, if_pos rfl]; omega) (by rw [uV_at, if_pos rfl]; exact ⟨by omega, by omega⟩)) (by omega) ?_
      rintro v V' b' ⟨rfl, h_, g_⟩
      subst V' b'
      refine Ev.blk 3 (B63_26 _ _ _ _ _ _ (by decide)) rfl ?_
      refine Ev.ite (fun _ => ?_) (fun h => absurd h (by decide))
      exact Ev.ret rfl rfl rfl rfl ⟨rfl, rfl, fr2 (fr2 fr0), rfl, by rw [hS]; rfl⟩
theorem x_mnd {L d : Nat} {V P : Mv} {b : Bool} {T : Nat → Int} {n j : Nat} (hB : TB T n) (hC : CP V T n P j) (hj : j < n) (hT : T j = 77) : Ex L (d + 3) 64 [.inr (.inr 2), .inr (.inr 4)] V b (PQ V b T n P j) := by
  obtain ⟨hX, e7, e8, hK, t7, t8⟩ := hC
  have w2 : 2 ≤ P 121 3 := hK.w2
  have w8 : P 121 3 ≤ 8 := hK.w8
  have e0 : V 4 0 = P 121 3 := hK.w
  have hn := hB.1
  have hmw : ∀ i, i < 4 → V (4 + 6) i = P 126 (12 + i) ∧ (P 126 (12 + i) = -9 ∨ 0 ≤ P 126 (12 + i) ∧ P 126 (12 + i) + 2 ≤ P 121 3) := fun i hi => hK.mw i hi
  have hmi : ∀ i : Int, 0 ≤ i ∧ i < 4 → in32 (V (4 + 6) i.toNat) := fun i hi => by
    have := hmw i.toNat (by omega)
    rw [this.1]
    exact ⟨by omega, by omega⟩
  have hme : oAnd (oShl 1 4 - 1) (oXor (mbK (V (4 + 6)) 4) (-1)) = oMP P := mnd_eq (fun i => P 126 (12 + i)) (fun v hv => by
    rw [mbK_bit _ hv 4 (by omega)]
    constructor
    · rintro ⟨x, y⟩
      exact ⟨x, fun z => y (by rw [(hmw v x).1]; exact z)⟩
    · rintro ⟨x, y⟩
      exact ⟨x, fun z => y (by show P 126 (12 + v) = -9; rw [← (hmw v x).1]; exact z)⟩)
  refine Ev.blk 2 (B64_0 _ _ _ _) rfl ?_
  refine Ev.call rfl rfl rfl (x_bits (d := d)) (by omega) ?_
  rintro v V' b' ⟨rfl, h_, g_⟩
  subst V' b'
  refine Ev.blk 1 (B64_5 _ _ _ _ _) rfl ?_
  refine Ev.call rfl rfl rfl (x_mb (d := d) (c := 4) (Or.inl rfl) hmi) (by omega) ?_
  rintro v V' b' ⟨rfl, h_, g_⟩
  subst V' b'
  refine Ev.blk 3 (B64_9 _ _ _ _ _ _) rfl ?_
  rw [hme]
  have fl : ∀ (W : Mv) (f : Nat) (x2 : Int), W 2 3 = (f : Int) → f ≤ 200 → (∀ y, ¬ (y = 2 ∨ 4 ≤ y ∧ y ≤ 10) → W y = V y) → W 2 0 = V 2 0 → stp T n P j = .inl f → Ev L (d + 3) 64 29 [some (.inr (.inr 2)), some (.inr (.inr 4)), some (.inl x2), none, none] [.inl (-9)] W b (PQ V b T n P j) := by
    intro W f x2 h3 hf w1 w0 hs
    refine Ev.blk 2 (B64_29 _ _ _ _ _ _) rfl ?_
    refine Ev.call rfl rfl rfl (x_prcF (d := d) (by rw [h3]; omega) (by rw [h3]; exact ⟨by omega, by omega⟩)) (by omega) ?_
    rintro v V' b' ⟨rfl, h_, g_⟩
    subst V' b'
    refine Ev.blk 3 (B64_34 _ _ _ _ _ _ _ (by decide)) rfl ?_
    refine Ev.ite (fun _ => ?_) (fun h => absurd h (by decide))
    exact Ev.ret rfl rfl rfl rfl ⟨rfl, rfl, w1, w0, by rw [hs]; exact h3⟩
  by_cases h0 : oMP P = 0
  · have hs : stp T n P j = .inl j := by
      unfold stp
      rw [if_neg (fun z => by have := z.1; omega), if_neg (fun z => by have := z.1; omega), if_neg (fun z => by have := z.1; omega), if_neg (fun z => z.2 h0), if_neg (fun z => by have := z.1; omega)]
    rw [h0]
    refine Ev.call rfl rfl rfl (x_name0 (d := d)) (by omega) ?_
    rintro v V' b' ⟨rfl, h_, g_⟩
    subst V' b'
    rw [hX.2.2.1]
    refine Ev.blk 6 (B64_15 _ _ _ _ _ (Or.inl rfl)) rfl ?_
    refine Ev.call rfl rfl rfl (x_bits (d := d)) (by omega) ?_
    rintro v V' b' ⟨rfl, h_, g_⟩
    subst V' b'
    refine Ev.call rfl rfl rfl (x_tkF (d := d) (by rw [uV_at, if_pos rfl]; omega) (by rw [uV_at, if_pos rfl]; exact ⟨by omega, by omega⟩)) (by omega) ?_
    rintro v V' b' ⟨rfl, h_, g_⟩
    subst V' b'
    exact fl _ j _ (by rw [uV_at, if_pos rfl]) (by omega) (fr2 fr0) rfl hs
  · have hS : stp T n P j = if fOK T n (j + 1) (oMP P) then (if fOK T n (j + 2) (oShr (allP P) 1) then (if fOK T n (j + 3) 1023 then (if fOK T n (j + 4) 1023 then .inr (j + 5, uV (uV P 127 (12 + figN T (j + 1)) (10 * (figN T (j + 3) : Int) + (figN T (j + 4) : Int))) 126 (12 + figN T (j + 1)) (figN T (j + 2) : Int)) else .inl (j + 4)) else .inl (j + 3)) else .inl (j + 2)) else .inl (j + 1) := by
      unfold stp
      rw [if_neg (fun z => by have := z.1; omega), if_neg (fun z => by have := z.1; omega), if_neg (fun z => by have := z.1; omega), if_pos ⟨hT, h0⟩]
    refine Ev.call rfl rfl rfl (x_name (d := d) hB hX (by omega) (oMk_in _ _) h0) (by omega) ?_
    rintro v V1 b1 ⟨rfl, h⟩
    rcases h with ⟨h1, rfl, rfl⟩ | ⟨h1, rfl, rfl⟩
    · rw [if_pos h1] at hS
      have a1 := h1.v.2
      have a2 := (oMk_bit (fun i => P 126 (12 + i)) (v := figN T (j + 1)) (by omega) 4 (by omega)).mp h1.b
      obtain ⟨i, hi⟩ : ∃ i, i = figN T (j + 1) := ⟨_, rfl⟩
      rw [← hi] at a1 a2 hS ⊢
      have e0' : uV V 2 2 ((j + 2 : Nat) : Int) 4 0 = P 121 3 := e0
      obtain ⟨w, hw⟩ : ∃ w : Nat, P 121 3 = (w : Int) := ⟨_, (Int.toNat_of_nonneg (by omega)).symm⟩
      have hh : oShl 1 (P 121 3 - 1) - 1 = oShr (allP P) 1 := by
        unfold allP
        rw [hw]
        exact half_all w (by omega) (by omega)
      refine Ev.blk 6 (B64_15 _ _ _ _ _ (Or.inl rfl)) rfl ?_
      rw [e0']
      refine Ev.call rfl rfl rfl (x_bits (d := d)) (by omega) ?_
      rintro v V' b' ⟨rfl, h_, g_⟩
      subst V' b'
      rw [hh]
      refine Ev.call rfl rfl rfl (x_tk (d := d) (j := j + 2) hB (hX.to (j + 2)) (by omega)) (by omega) ?_
      rintro v V1 b1 ⟨rfl, h⟩
      rcases h with ⟨h2, rfl, rfl⟩ | ⟨h2, rfl, rfl⟩
      · rw [if_pos h2] at hS
        rw [uV_uV]
        have y1 := h2.v.2
        have y2 : figN T (j + 2) + 1 < w := half_bit w (by omega) (by omega) _ (by omega) (by
          have := h2.b
          unfold allP at this
          rw [hw] at this
          exact this)
        refine Ev.blk 2 (B64_29 _ _ _ _ _ _) rfl ?_
        refine Ev.call rfl rfl rfl (x_prc (d := d) (j := j + 3) hB (hX.to (j + 3)) (by omega)) (by omega) ?_
        rintro v V1 b1 ⟨rfl, h⟩
        rcases h with ⟨h3, h4, rfl, rfl⟩ | ⟨h3, rfl, rfl⟩ | ⟨h3, h4, rfl, rfl⟩
        · rw [if_pos h3, if_pos h4] at hS
          rw [uV_uV]
          have x1 := h3.v.2
          have x2 := h4.v.2
          refine Ev.blk 3 (B64_34 _ _ _ _ _ _ _ ⟨by omega, by omega⟩) rfl ?_
          refine Ev.ite (fun h => absurd (of_decide_eq_true h) (by omega)) (fun _ => ?_)
          refine Ev.blk 10 (B64_41 _ _ _ _ _ _ _ (Or.inl rfl) ⟨by omega, by omega⟩) rfl ?_
          rw [Int.toNat_natCast]
          refine Ev.ret rfl rfl rfl rfl ⟨rfl, rfl, frk (by omega) (frk (by omega) (fr2 fr0)), rfl, ?_⟩
          rw [hS]
          exact ⟨(hX.to (j + 5)).frame rfl rfl, e7, e8, kd_mend (kd_place hK) (by omega) (by omega) (by omega), t7, t8⟩
        · rw [if_neg h3] at hS
          refine Ev.blk 3 (B64_34 _ _ _ _ _ _ _ (by decide)) rfl ?_
          refine Ev.ite (fun _ => ?_) (fun h => absurd h (by decide))
          exact Ev.ret rfl rfl rfl rfl ⟨rfl, rfl, fr2 (fr2 fr0), rfl, by rw [hS]; rfl⟩
        · rw [if_pos h3, if_neg h4] at hS
          refine Ev.blk 3 (B64_34 _ _ _ _ _ _ _ (by decide)) rfl ?_
          refine Ev.ite (fun _ => ?_) (fun h => absurd h (by decide))
          exact Ev.ret rfl rfl rfl rfl ⟨rfl, rfl, fr2 (fr2 (fr2 fr0)), rfl, by rw [hS]; rfl⟩
      · rw [if_neg h2] at hS
        exact fl _ (j + 2) _ (by rw [uV_at, if_pos rfl]) (by omega) (fr2 (fr2 fr0)) rfl hS
    · rw [if_neg h1] at hS
      refine Ev.blk 6 (B64_15 _ _ _ _ _ (Or.inl rfl)) rfl ?_
      refine Ev.call rfl rfl rfl (x_bits (d := d)) (by omega) ?_
      rintro v V' b' ⟨rfl, h_, g_⟩
      subst V' b'
      refine Ev.call rfl rfl rfl (x_tkF (d := d) (by rw [uV_at, if_pos rfl]; omega) (by rw [uV_at, if_pos rfl]; exact ⟨by omega, by omega⟩)) (by omega) ?_
      rintro v V' b' ⟨rfl, h_, g_⟩
      subst V' b'
      exact fl _ (j + 1) _ (by rw [uV_at, if_pos rfl]) (by omega) (fr2 (fr2 fr0)) rfl hS
theorem x_lok {L d : Nat} {V P : Mv} {b : Bool} {T : Nat → Int} {n j : Nat} (hB : TB T n) (hC : CP V T n P j) (hj : j < n) (hT : T j = 76) : Ex L (d + 3) 65 [.inr (.inr 2), .inr (.inr 4)] V b (PQ V b T n P j) := by
  obtain ⟨hX, e7, e8, hK, t7, t8⟩ := hC
  have w2 : 2 ≤ P 121 3 := hK.w2
  have w8 : P 121 3 ≤ 8 := hK.w8
  have e0 : V 4 0 = P 121 3 := hK.w
  have hn := hB.1
  have e1 : V 4 1 = P 122 3 := hK.lk
  have l9 : P 122 3 = -9 ∨ 0 ≤ P 122 3 ∧ P 122 3 ≤ 9 := hK.lk9
  refine Ev.blk 2 (B65_0 _ _ _ _) rfl ?_
  refine Ev.call rfl rfl rfl (x_hasLook (d := d) (a := 4) (Or.inl rfl) (by rw [e1]; exact ⟨by omega, by omega⟩)) (by omega) ?_
  rintro v V' b' ⟨rfl, h_, g_⟩
  subst V' b'
  rw [e1]
  refine Ev.blk 1 (B65_5 _ _ _ _ _ (b01_in _)) rfl ?_
  refine Ev.ite (fun z => ?_) (fun z => ?_)
  · replace z := b01_0 (of_decide_eq_true z)
    have z : P 122 3 = -9 := Classical.byContradiction z
    have hS : stp T n P j = if fOK T n (j + 1) 1023 then .inr (j + 2, uV P 122 3 (figN T (j + 1) : Int)) else .inl (j + 1) := by
      unfold stp
      rw [if_neg (fun z => by have := z.1; omega), if_neg (fun z => by have := z.1; omega), if_neg (fun z => by have := z.1; omega), if_neg (fun z => by have := z.1; omega), if_pos ⟨hT, z⟩]
    refine Ev.blk 1 (B65_12 _ _ _ _) rfl ?_
    refine Ev.call rfl rfl rfl (x_name (d := d) hB hX (by omega) (by decide) (by decide)) (by omega) ?_
    rintro v V1 b1 ⟨rfl, h⟩
    rcases h with ⟨h1, rfl, rfl⟩ | ⟨h1, rfl, rfl⟩
    · rw [if_pos h1] at hS
      have a1 := h1.v.2
      refine Ev.blk 3 (B65_18 _ _ _ _ _ ⟨by omega, by omega⟩) rfl ?_
      refine Ev.ite (fun h => absurd (of_decide_eq_true h) (by omega)) (fun _ => ?_)
      refine Ev.blk 3 (B65_23 _ _ _ _ _ (Or.inl rfl)) rfl ?_
      refine Ev.ret rfl rfl rfl rfl ⟨rfl, rfl, frk (by omega) (fr2 fr0), rfl, ?_⟩
      rw [hS]
      exact ⟨(hX.to (j + 2)).frame rfl rfl, e7, e8, kd_look (kd_place hK) (by omega), t7, t8⟩
    · rw [if_neg h1] at hS
      refine Ev.blk 3 (B65_18 _ _ _ _ _ (by decide)) rfl ?_
      refine Ev.ite (fun _ => ?_) (fun h => absurd h (by decide))
      exact Ev.ret rfl rfl rfl rfl ⟨rfl, rfl, fr2 (fr2 fr0), rfl, by rw [hS]; rfl⟩
  · replace z := b01_1 (of_decide_eq_false z)
    have hs : stp T n P j = .inl j := by
      unfold stp
      rw [if_neg (fun z => by have := z.1; omega), if_neg (fun z => by have := z.1; omega), if_neg (fun z => by have := z.1; omega), if_neg (fun z => by have := z.1; omega), if_neg (fun z_ => z z_.2)]
    refine Ev.blk 2 (B65_8 _ _ _ _) rfl ?_
    refine Ev.call rfl rfl rfl (x_name0 (d := d)) (by omega) ?_
    rintro v V' b' ⟨rfl, h_, g_⟩
    subst V' b'
    rw [hX.2.2.1]
    refine Ev.blk 3 (B65_18 _ _ _ _ _ (by decide)) rfl ?_
    refine Ev.ite (fun _ => ?_) (fun h => absurd h (by decide))
    exact Ev.ret rfl rfl rfl rfl ⟨rfl, rfl, fr2 fr0, rfl, by rw [hs]; rfl⟩
theorem S58_0 (L : Nat) (V : Mv) (b : Bool) (x1 : Nat) (g0 : 0 ≤ V 2 2 ∧ V 2 2 < 64) : nxs 5 58 0 [some (.inr (.inr 2)), some (.inr (.inr x1))] [] (M0 L V b) = some (true, 9, [some (.inr (.inr 2)), some (.inr (.inr x1))], [.inl (V 3 (V 2 2).toNat)], M0 L V b) := by
  have f0 : gX (M0 L V b) 3 1 (V 2 2) = true := gx_of rfl g0
  have hG : (gX (M0 L V b) 3 1 (V 2 2) && true) = true := an f0 rfl
  show some (gX (M0 L V b) 3 1 (V 2 2) && true, _) = _
  rw [hG]
  try rfl
theorem S58_9 (L : Nat) (V : Mv) (b : Bool) (x1 : Nat) (z : Int) (g : in32 z) : nxs 1 58 9 [some (.inr (.inr 2)), some (.inr (.inr x1))] [.inl z] (M0 L V b) = some (true, if z = 67 then 68 else if z = 75 then 76 else if z = 76 then 92 else if z = 77 then 84 else if z = 83 then 60 else 100, [some (.inr (.inr 2)), some (.inr (.inr x1))], [], M0 L V b) := by
  by_cases h0 : z = 67
  · subst h0; rfl
  by_cases h1 : z = 75
  · subst h1; rfl
  by_cases h2 : z = 76
  · subst h2; rfl
  by_cases h3 : z = 77
  · subst h3; rfl
  by_cases h4 : z = 83
  · subst h4; rfl
  have e : lsw 9 91 [(67, 59), (75, 67), (76, 83), (77, 75), (83, 51)] z = 100 := by
    simp [lsw, Op.lookupswitch.offset, Ne.symm h0, Ne.symm h1, Ne.symm h2, Ne.symm h3, Ne.symm h4, h0, h1, h2, h3, h4]
  rw [if_neg h0, if_neg h1, if_neg h2, if_neg h3, if_neg h4]
  show some ((r32 z && decide (0 ≤ lsw 9 91 [(67, 59), (75, 67), (76, 83), (77, 75), (83, 51)] z)) && true, (lsw 9 91 [(67, 59), (75, 67), (76, 83), (77, 75), (83, 51)] z).toNat, _) = _
  rw [e, r32_of g]
  rfl
theorem x_part {L d : Nat} {V P : Mv} {b : Bool} {T : Nat → Int} {n j : Nat} (hB : TB T n) (hC : CP V T n P j) (hj : j < n) : Ex L (d + 4) 58 [.inr (.inr 2), .inr (.inr 4)] V b (PQ V b T n P j) := by
  have hX := hC.1
  have hn := hB.1
  have eT := hX.2.1 j (by omega)
  have hTj := hB.2 j (by omega)
  refine Ev.blk 5 (S58_0 _ _ _ _ (by rw [hX.2.2.1]; omega)) rfl ?_
  rw [hX.2.2.1, Int.toNat_natCast, eT]
  refine Ev.blk 1 (S58_9 _ _ _ _ _ ⟨by omega, by omega⟩) rfl ?_
  by_cases h0 : T j = 67
  · rw [if_pos h0]
    refine Ev.blk 2 (B58_68 _ _ _ _) rfl ?_
    refine Ev.call rfl rfl rfl (x_cost (d := d) hB hC hj h0) (by omega) ?_
    rintro v V1 b1 ⟨rfl, hq⟩
    refine Ev.blk 1 (B58_73 _ _ _ _) rfl ?_
    exact Ev.ret rfl rfl rfl rfl ⟨rfl, hq⟩
  rw [if_neg h0]
  by_cases h1 : T j = 75
  · rw [if_pos h1]
    refine Ev.blk 2 (B58_76 _ _ _ _) rfl ?_
    refine Ev.call rfl rfl rfl (x_knk (d := d) hB hC hj h1) (by omega) ?_
    rintro v V1 b1 ⟨rfl, hq⟩
    refine Ev.blk 1 (B58_81 _ _ _ _) rfl ?_
    exact Ev.ret rfl rfl rfl rfl ⟨rfl, hq⟩
  rw [if_neg h1]
  by_cases h2 : T j = 76
  · rw [if_pos h2]
    refine Ev.blk 2 (B58_92 _ _ _ _) rfl ?_
    refine Ev.call rfl rfl rfl (x_lok (d := d) hB hC hj h2) (by omega) ?_
    rintro v V1 b1 ⟨rfl, hq⟩
    refine Ev.blk 1 (B58_97 _ _ _ _) rfl ?_
    exact Ev.ret rfl rfl rfl rfl ⟨rfl, hq⟩
  rw [if_neg h2]
  by_cases h3 : T j = 77
  · rw [if_pos h3]
    refine Ev.blk 2 (B58_84 _ _ _ _) rfl ?_
    refine Ev.call rfl rfl rfl (x_mnd (d := d) hB hC hj h3) (by omega) ?_
    rintro v V1 b1 ⟨rfl, hq⟩
    refine Ev.blk 1 (B58_89 _ _ _ _) rfl ?_
    exact Ev.ret rfl rfl rfl rfl ⟨rfl, hq⟩
  rw [if_neg h3]
  by_cases h4 : T j = 83
  · rw [if_pos h4]
    refine Ev.blk 2 (B58_60 _ _ _ _) rfl ?_
    refine Ev.call rfl rfl rfl (x_way (d := d) hB hC hj h4) (by omega) ?_
    rintro v V1 b1 ⟨rfl, hq⟩
    refine Ev.blk 1 (B58_65 _ _ _ _) rfl ?_
    exact Ev.ret rfl rfl rfl rfl ⟨rfl, hq⟩
  rw [if_neg h4]
  have hs : stp T n P j = .inl j := by
    unfold stp
    rw [if_neg (fun z => h4 z.1), if_neg (fun z => h0 z.1), if_neg (fun z => h1 z.1), if_neg (fun z => h3 z.1), if_neg (fun z => h2 z.1)]
  refine Ev.blk 4 (B58_100 _ _ _ _) rfl ?_
  refine Ev.ret rfl rfl rfl rfl ⟨rfl, rfl, fr2 fr0, rfl, ?_⟩
  rw [hs, hX.2.2.1]
  rfl
