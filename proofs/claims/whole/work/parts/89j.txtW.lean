/-! the class reads the parts of the text (specs48.py) -/
def CP (V : Mv) (T : Nat → Int) (n : Nat) (P : Mv) (j : Nat) : Prop := TX V T n j ∧ V 4 2 = P 120 7 ∧ V 4 3 = P 120 8 ∧ Kd (cmb V P) 4 3 ∧ tb (P 120 7) (P 121 3) ∧ tb (P 120 8) (P 121 3)
def PQ (V : Mv) (b : Bool) (T : Nat → Int) (n : Nat) (P : Mv) (j : Nat) : Option AV → Mv → Bool → Prop := fun r V' b' => r = none ∧ b' = b ∧ (∀ y, ¬ (y = 2 ∨ 4 ≤ y ∧ y ≤ 10) → V' y = V y) ∧ V' 2 0 = V 2 0 ∧ RES (stp T n P j) (fun f => V' 2 3 = (f : Int)) (fun p => CP V' T n p.2 p.1)
theorem fr2 {V W : Mv} {k : Nat} {x : Int} (h : (∀ y, ¬ (y = 2 ∨ 4 ≤ y ∧ y ≤ 10) → W y = V y)) : ∀ y, ¬ (y = 2 ∨ 4 ≤ y ∧ y ≤ 10) → uV W 2 k x y = V y := fun y hy => by
  rw [uV_ne (by omega)]
  exact h y hy
theorem frk {V W : Mv} {a k : Nat} {x : Int} (ha : 4 ≤ a ∧ a ≤ 10) (h : (∀ y, ¬ (y = 2 ∨ 4 ≤ y ∧ y ≤ 10) → W y = V y)) : ∀ y, ¬ (y = 2 ∨ 4 ≤ y ∧ y ≤ 10) → uV W a k x y = V y := fun y hy => by
  rw [uV_ne (by omega)]
  exact h y hy
theorem fr0 {V : Mv} : ∀ y, ¬ (y = 2 ∨ 4 ≤ y ∧ y ≤ 10) → V y = V y := fun _ _ => rfl
theorem x_way {L d : Nat} {V P : Mv} {b : Bool} {T : Nat → Int} {n j : Nat} (hB : TB T n) (hC : CP V T n P j) (hj : j < n) (hT : T j = 83) : Ex L (d + 3) 59 [.inr (.inr 2), .inr (.inr 4)] V b (PQ V b T n P j) := by
  obtain ⟨hX, e7, e8, hK, t7, t8⟩ := hC
  have w2 : 2 ≤ P 121 3 := hK.w2
  have w8 : P 121 3 ≤ 8 := hK.w8
  have e0 : V 4 0 = P 121 3 := hK.w
  have hn := hB.1
  have fl : ∀ (W : Mv) (f : Nat) (x2 : Int), W 2 3 = (f : Int) → f ≤ 200 → (∀ y, ¬ (y = 2 ∨ 4 ≤ y ∧ y ≤ 10) → W y = V y) → W 2 0 = V 2 0 → stp T n P j = .inl f → Ev L (d + 3) 59 27 [some (.inr (.inr 2)), some (.inr (.inr 4)), some (.inl x2), none, none, none] [.inl (-9)] W b (PQ V b T n P j) := by
    intro W f x2 h3 hf w1 w0 hs
    refine Ev.blk 3 (B59_27 _ _ _ _ _ _ (by decide)) rfl ?_
    refine Ev.ite (fun h => absurd h (by decide)) (fun _ => ?_)
    refine Ev.blk 2 (B59_32 _ _ _ _ _ _) rfl ?_
    refine Ev.blk 6 (B59_45 _ _ _ _ _ _ _) rfl ?_
    refine Ev.call rfl rfl rfl (x_bits (d := d)) (by omega) ?_
    rintro v V' b' ⟨rfl, h_, g_⟩
    subst V' b'
    refine Ev.blk 1 (B59_58 _ _ _ _ _ _ _ _ _) rfl ?_
    refine Ev.call rfl rfl rfl (x_tkF (d := d) (by rw [h3]; omega) (by rw [h3]; exact ⟨by omega, by omega⟩)) (by omega) ?_
    rintro v V' b' ⟨rfl, h_, g_⟩
    subst V' b'
    refine Ev.blk 3 (B59_62 _ _ _ _ _ _ _ _ (by decide)) rfl ?_
    refine Ev.ite (fun _ => ?_) (fun h => absurd h (by decide))
    exact Ev.ret rfl rfl rfl rfl ⟨rfl, rfl, w1, w0, by rw [hs]; exact h3⟩
  refine Ev.blk 2 (B59_0 _ _ _ _) rfl ?_
  refine Ev.call rfl rfl rfl (x_oS (d := d + 1) hK) (by omega) ?_
  rintro v V' b' ⟨rfl, h_, g_⟩
  subst V' b'
  by_cases h0 : oWP P = 0
  · have hs : stp T n P j = .inl j := by
      unfold stp
      rw [if_neg (fun z => z.2 h0), if_neg (fun z => by have := z.1; omega), if_neg (fun z => by have := z.1; omega), if_neg (fun z => by have := z.1; omega), if_neg (fun z => by have := z.1; omega)]
    rw [h0]
    refine Ev.call rfl rfl rfl (x_name0 (d := d)) (by omega) ?_
    rintro v V' b' ⟨rfl, h_, g_⟩
    subst V' b'
    rw [hX.2.2.1]
    refine Ev.blk 3 (B59_8 _ _ _ _ _ (by decide)) rfl ?_
    refine Ev.ite (fun h => absurd h (by decide)) (fun _ => ?_)
    refine Ev.blk 2 (B59_13 _ _ _ _ _) rfl ?_
    exact fl _ j _ (by rw [uV_at, if_pos rfl]) (by omega) (fr2 fr0) (by rw [uV_at, if_neg (by omega)]) hs
  · have hS : stp T n P j = if fOK T n (j + 1) (oWP P) then (if fOK T n (j + 2) (oFP P (figN T (j + 1))) then (if fOK T n (j + 3) (oShl 1 (11 - rLv P 3 (figN T (j + 1) : Int)) - 2) then .inr (j + 4, uV P 123 (192 + 8 * figN T (j + 1) + figN T (j + 2)) (figN T (j + 3) : Int)) else .inl (j + 3)) else .inl (j + 2)) else .inl (j + 1) := if_pos ⟨hT, h0⟩
    refine Ev.call rfl rfl rfl (x_name (d := d) hB hX (by omega) (oWk_in _ _) h0) (by omega) ?_
    rintro v V1 b1 ⟨rfl, h⟩
    rcases h with ⟨h1, rfl, rfl⟩ | ⟨h1, rfl, rfl⟩
    · rw [if_pos h1] at hS
      have a1 := h1.v.2
      have a2 := (oWk_bit (oFP P) (v := figN T (j + 1)) (by omega) ((P 121 3).toNat - 1) (by omega)).mp h1.b
      obtain ⟨a, ha⟩ : ∃ a, a = figN T (j + 1) := ⟨_, rfl⟩
      rw [← ha] at a1 a2 hS ⊢
      refine Ev.blk 3 (B59_8 _ _ _ _ _ ⟨by omega, by omega⟩) rfl ?_
      refine Ev.ite (fun _ => ?_) (fun h => absurd (of_decide_eq_false h) (by omega))
      refine Ev.blk 3 (B59_18 _ _ _ _ _) rfl ?_
      refine Ev.call rfl rfl rfl (x_oT (d := d) (a := a) (kd_place hK) (by omega)) (by omega) ?_
      rintro v V' b' ⟨rfl, h_, g_⟩
      subst V' b'
      refine Ev.call rfl rfl rfl (x_tk (d := d) hB (hX.to (j + 2)) (by omega)) (by omega) ?_
      rintro v V1 b1 ⟨rfl, h⟩
      rcases h with ⟨h2, rfl, rfl⟩ | ⟨h2, rfl, rfl⟩
      · rw [if_pos h2] at hS
        rw [uV_uV]
        have hl10 : rLv P 3 (a : Int) < 10 := Classical.byContradiction (fun z => a2.2 (if_neg z))
        have eF : oFP P a = oFk (fun c => P 123 (192 + 8 * a + c)) a ((P 121 3).toNat - (a + 1)) := if_pos hl10
        have b1' := h2.v.2
        have b2 := h2.b
        rw [eF] at b2
        have b3 := (oFk_bit (fun c => P 123 (192 + 8 * a + c)) a (v := figN T (j + 2)) (by omega) ((P 121 3).toNat - (a + 1)) (by omega)).mp b2
        obtain ⟨to, hto⟩ : ∃ to, to = figN T (j + 2) := ⟨_, rfl⟩
        rw [← hto] at b1' b3 hS ⊢
        have l0 : 0 ≤ rLv P 3 (a : Int) := by
          rw [rLv_n]
          exact sumN_nn 8 (fun i hi => (hK.tn a i (by omega) hi).1)
        have eL : uV V 2 2 ((j + 2 + 1 : Nat) : Int) (4 + 2) ((a : Int)).toNat = rLv P 3 (a : Int) := by
          rw [Int.toNat_natCast, uV_ne (by omega)]
          exact hK.lv a (by omega)
        obtain ⟨l, hl⟩ : ∃ l : Nat, rLv P 3 (a : Int) = (l : Int) := ⟨_, (Int.toNat_of_nonneg l0).symm⟩
        refine Ev.blk 3 (B59_27 _ _ _ _ _ _ ⟨by omega, by omega⟩) rfl ?_
        refine Ev.ite (fun _ => ?_) (fun h => absurd (of_decide_eq_false h) (by omega))
        refine Ev.blk 6 (B59_36 _ _ _ _ _ _ (Or.inl rfl) ⟨by omega, by omega⟩) rfl ?_
        rw [eL, hl]
        refine Ev.blk 6 (B59_45 _ _ _ _ _ _ _) rfl ?_
        refine Ev.call rfl rfl rfl (x_bits (d := d)) (by omega) ?_
        rintro v V' b' ⟨rfl, h_, g_⟩
        subst V' b'
        refine Ev.blk 1 (B59_58 _ _ _ _ _ _ _ _ _) rfl ?_
        rw [hl] at hS
        have cg := fOK_congr (T := T) (n := n) (j := j + 3) (m1 := oAnd 1022 (oShl 1 (10 - (l : Int) + 1) - 1)) (m2 := oShl 1 (11 - (l : Int)) - 2) (fun v hv => (chn l (by omega) v hv).1)
        refine Ev.call rfl rfl rfl (x_tk (d := d) (j := j + 3) hB (hX.to (j + 3)) (by omega)) (by omega) ?_
        rintro v V1 b1 ⟨rfl, h⟩
        rcases h with ⟨h3, rfl, rfl⟩ | ⟨h3, rfl, rfl⟩
        · rw [cg] at h3
          rw [if_pos h3] at hS
          rw [uV_uV]
          have c1 := (chn l (by omega) (figN T (j + 3)) (by have := h3.v.2; omega)).2 h3.b
          have c2 := h3.v.2
          refine Ev.blk 3 (B59_62 _ _ _ _ _ _ _ _ ⟨by omega, by omega⟩) rfl ?_
          refine Ev.ite (fun h => absurd (of_decide_eq_true h) (by omega)) (fun _ => ?_)
          refine Ev.blk 4 (B59_69 _ _ _ _ _ _ _ _) rfl ?_
          refine Ev.call rfl rfl rfl (x_addWay (d := d) (a := a) (to := to) (Or.inl rfl) (by omega) (by omega) (by omega)) (by omega) ?_
          rintro v V' b' ⟨rfl, h_, g_⟩
          subst V' b'
          refine Ev.ret rfl rfl rfl rfl ⟨rfl, rfl, frk (by omega) (frk (by omega) (frk (by omega) (fr2 fr0))), rfl, ?_⟩
          rw [hS]
          refine ⟨(hX.to (j + 4)).frame rfl rfl, e7, e8, kd_way (kd_place hK) b3.1 (by omega) b3.2.2 (by omega) (by omega), t7, t8⟩
        · rw [cg] at h3
          rw [if_neg h3] at hS
          refine Ev.blk 3 (B59_62 _ _ _ _ _ _ _ _ (by decide)) rfl ?_
          refine Ev.ite (fun _ => ?_) (fun h => absurd h (by decide))
          exact Ev.ret rfl rfl rfl rfl ⟨rfl, rfl, fr2 (fr2 fr0), rfl, by rw [hS]; rfl⟩
      · rw [if_neg h2] at hS
        exact fl _ (j + 2) _ (by rw [uV_at, if_pos rfl]) (by omega) (fr2 (fr2 fr0)) rfl hS
    · rw [if_neg h1] at hS
      refine Ev.blk 3 (B59_8 _ _ _ _ _ (by decide)) rfl ?_
      refine Ev.ite (fun h => absurd h (by decide)) (fun _ => ?_)
      refine Ev.blk 2 (B59_13 _ _ _ _ _) rfl ?_
      exact fl _ (j + 1) _ (by rw [uV_at, if_pos rfl]) (by omega) (fr2 (fr2 fr0)) rfl hS
