/-! the 38 calls, 4 (by program, specs5.py) -/
theorem rule_iv {N : Nat} {V : Mv} {a0 a1 a2 : Int} (hI : Iv N V) (q0 : 0 ≤ a0 ∧ a0 < 4) (q1 : 0 ≤ a1 ∧ a1 < 8) (q2 : 0 ≤ a2 ∧ a2 < 5) : (some (Sum.inl (uV V (64 + 1 * a0.toNat) a1.toNat a2 135 (8 * a0 + a1).toNat)) : Option AV) = some (Sum.inl (V (64 + 1 * a0.toNat) a1.toNat)) ∧ Iv (N + 1) (uV (uV V (64 + 1 * a0.toNat) a1.toNat a2) 135 (8 * a0 + a1).toNat a2) := by
  obtain ⟨r, rfl⟩ : ∃ k : Nat, a0 = (k : Int) := ⟨a0.toNat, by omega⟩
  obtain ⟨w, rfl⟩ : ∃ k : Nat, a1 = (k : Int) := ⟨a1.toNat, by omega⟩
  have hi := hI.1
  have h1 := hi.ru r w (by omega) (by omega)
  rw [Int.toNat_natCast, Int.toNat_natCast, show (8 * (r : Int) + (w : Int)).toNat = 8 * r + w by omega, show 64 + 1 * r = 64 + r by omega]
  refine ⟨?_, ?_, ?_⟩
  · rw [uV_ne (by omega), h1.1]
  · refine (hi.more (Nat.le_succ N)).rule (fun a ha n1 n2 => ?_) ?_ ?_ ?_
    · rw [uV_ne (by omega), uV_ne (by omega)]
    · rw [uV_ne (by omega), uV_ne (by omega)]
    · rw [uV_ne (by omega), uV_ne (by omega)]
    · intro r' a' hr ha
      have h2 := hi.ru r' a' hr ha
      rw [uV_ne (show 64 + r' ≠ 135 by omega), uV_at, uV_ne (show 135 ≠ 64 + r by omega)]
      by_cases e : r' = r
      · subst e
        rw [uV_at]
        by_cases e2 : a' = w
        · rw [if_pos e2, if_pos (by omega)]
          omega
        · rw [if_neg e2, if_neg (by omega)]
          exact h2
      · rw [uV_ne (by omega), if_neg (by omega)]
        exact h2
  · intro k
    rw [uV_ne (by omega), uV_ne (by omega)]
    exact hI.2 k
theorem op_rule (a0 a1 a2 : Int) (h0 : in32 a0) (h1 : in32 a1) (h2 : in32 a2) : OpI 23 172 [.inl a0, .inl a1, .inl a2] := by
  intro L N V b hL hN hI
  have hi := hI.1
  have hr : ∀ x y : Int, 0 ≤ x ∧ x < 4 → 0 ≤ y ∧ y < 8 → 0 ≤ V (64 + 1 * x.toNat) y.toNat ∧ V (64 + 1 * x.toNat) y.toNat ≤ 4 := by
    intro x y hx hy
    have := hi.ru x.toNat y.toNat (by omega) (by omega)
    rw [show 64 + 1 * x.toNat = 64 + x.toNat by omega]
    omega
  refine Ev.blk 1 (B23_0 _ _ _ _ _ _) rfl ?_
  refine Ev.call rfl rfl (rfl) (x_isRuleC (d := 28) h0) (by omega) ?_
  rintro v V' b' ⟨rfl, rfl, rfl⟩
  refine Ev.blk 1 (B23_4 _ _ _ _ _ _ _ (by first | assumption | omega | exact b01_in _ | exact ⟨by omega, by omega⟩)) rfl ?_
  refine Ev.ite (fun q => ?_) (fun q => ?_)
  · replace q := of_decide_eq_true q
    replace q := b01_0 q
    refine Ev.blk 1 (B23_17 _ _ _ _ _ _) rfl ?_
    refine Ev.ret rfl rfl rfl (by first | rfl | exact decide_eq_true (b01_or _)) ?_
    refine ⟨_, rfl, (by first | decide | (have := hr a0 a1 (by omega) (by omega); exact ⟨by omega, by omega⟩)), (by first | rfl | exact uV_ne (by omega)), ?_⟩
    refine Ev.blk 1 (B172_0 _ _ _ _ _ _) rfl ?_
    refine Ev.call rfl rfl (rfl) (x_isRuleR (d := 27) h0) (by omega) ?_
    rintro v V' b' ⟨rfl, rfl, rfl⟩
    refine Ev.blk 1 (B172_4 _ _ _ _ _ _ _ (by first | assumption | omega | exact b01_in _ | exact ⟨by omega, by omega⟩)) rfl ?_
    refine Ev.ite (fun q => ?_) (fun q => ?_)
    · replace q := of_decide_eq_true q
      replace q := b01_0 q
      refine Ev.blk 1 (B172_19 _ _ _ _ _ _) rfl ?_
      refine Ev.ret rfl rfl rfl (by first | rfl | exact decide_eq_true (b01_or _)) ?_
      first | (exfalso; omega) | exact rule_iv hI (by omega) (by omega) (by omega) | exact ⟨rfl, hi.more (Nat.le_succ N), hI.2⟩
    · replace q := of_decide_eq_false q
      replace q := b01_1 q
      refine Ev.blk 4 (B172_7 _ _ _ _ _ _ (by first | assumption | omega | exact b01_in _ | exact ⟨by omega, by omega⟩)) rfl ?_
      refine Ev.call rfl rfl (rfl) (x_in (d := 28) ⟨by omega, by omega⟩ (by decide) (by decide)) (by omega) ?_
      rintro v V' b' ⟨rfl, rfl, rfl⟩
      refine Ev.blk 1 (B172_16 _ _ _ _ _ _ _ (by first | assumption | omega | exact b01_in _ | exact ⟨by omega, by omega⟩)) rfl ?_
      refine Ev.ite (fun q => ?_) (fun q => ?_)
      · replace q := nd_t q
        replace q := b01_1 q
        refine Ev.blk 4 (B172_21 _ _ _ _ _ _ (by first | assumption | omega | exact b01_in _ | exact ⟨by omega, by omega⟩)) rfl ?_
        refine Ev.call rfl rfl (rfl) (x_in (d := 28) ⟨by omega, by omega⟩ (by decide) (by decide)) (by omega) ?_
        rintro v V' b' ⟨rfl, rfl, rfl⟩
        refine Ev.blk 1 (B172_30 _ _ _ _ _ _ _ (by first | assumption | omega | exact b01_in _ | exact ⟨by omega, by omega⟩)) rfl ?_
        refine Ev.ite (fun q => ?_) (fun q => ?_)
        · replace q := nd_t q
          replace q := b01_1 q
          refine Ev.blk 19 (B172_36 _ _ _ _ _ _ (by first | assumption | omega | exact b01_in _ | exact ⟨by omega, by omega⟩)) rfl ?_
          refine Ev.ret rfl rfl rfl (by first | rfl | exact decide_eq_true (b01_or _)) ?_
          first | (exfalso; omega) | exact rule_iv hI (by omega) (by omega) (by omega) | exact ⟨rfl, hi.more (Nat.le_succ N), hI.2⟩
        · replace q := nd_f q
          replace q := b01_0 q
          refine Ev.blk 1 (B172_33 _ _ _ _ _ _) rfl ?_
          refine Ev.ret rfl rfl rfl (by first | rfl | exact decide_eq_true (b01_or _)) ?_
          first | (exfalso; omega) | exact rule_iv hI (by omega) (by omega) (by omega) | exact ⟨rfl, hi.more (Nat.le_succ N), hI.2⟩
      · replace q := nd_f q
        replace q := b01_0 q
        refine Ev.blk 1 (B172_19 _ _ _ _ _ _) rfl ?_
        refine Ev.ret rfl rfl rfl (by first | rfl | exact decide_eq_true (b01_or _)) ?_
        first | (exfalso; omega) | exact rule_iv hI (by omega) (by omega) (by omega) | exact ⟨rfl, hi.more (Nat.le_succ N), hI.2⟩
  · replace q := of_decide_eq_false q
    replace q := b01_1 q
    refine Ev.blk 2 (B23_7 _ _ _ _ _ _ (by first | assumption | omega | exact b01_in _ | exact ⟨by omega, by omega⟩)) rfl ?_
    refine Ev.ite (fun q => ?_) (fun q => ?_)
    · replace q := of_decide_eq_true q
      refine Ev.blk 1 (B23_17 _ _ _ _ _ _) rfl ?_
      refine Ev.ret rfl rfl rfl (by first | rfl | exact decide_eq_true (b01_or _)) ?_
      refine ⟨_, rfl, (by first | decide | (have := hr a0 a1 (by omega) (by omega); exact ⟨by omega, by omega⟩)), (by first | rfl | exact uV_ne (by omega)), ?_⟩
      refine Ev.blk 1 (B172_0 _ _ _ _ _ _) rfl ?_
      refine Ev.call rfl rfl (rfl) (x_isRuleR (d := 27) h0) (by omega) ?_
      rintro v V' b' ⟨rfl, rfl, rfl⟩
      refine Ev.blk 1 (B172_4 _ _ _ _ _ _ _ (by first | assumption | omega | exact b01_in _ | exact ⟨by omega, by omega⟩)) rfl ?_
      refine Ev.ite (fun q => ?_) (fun q => ?_)
      · replace q := of_decide_eq_true q
        replace q := b01_0 q
        refine Ev.blk 1 (B172_19 _ _ _ _ _ _) rfl ?_
        refine Ev.ret rfl rfl rfl (by first | rfl | exact decide_eq_true (b01_or _)) ?_
        first | (exfalso; omega) | exact rule_iv hI (by omega) (by omega) (by omega) | exact ⟨rfl, hi.more (Nat.le_succ N), hI.2⟩
      · replace q := of_decide_eq_false q
        replace q := b01_1 q
        refine Ev.blk 4 (B172_7 _ _ _ _ _ _ (by first | assumption | omega | exact b01_in _ | exact ⟨by omega, by omega⟩)) rfl ?_
        refine Ev.call rfl rfl (rfl) (x_in (d := 28) ⟨by omega, by omega⟩ (by decide) (by decide)) (by omega) ?_
        rintro v V' b' ⟨rfl, rfl, rfl⟩
        refine Ev.blk 1 (B172_16 _ _ _ _ _ _ _ (by first | assumption | omega | exact b01_in _ | exact ⟨by omega, by omega⟩)) rfl ?_
        refine Ev.ite (fun q => ?_) (fun q => ?_)
        · replace q := nd_t q
          replace q := b01_1 q
          refine Ev.blk 4 (B172_21 _ _ _ _ _ _ (by first | assumption | omega | exact b01_in _ | exact ⟨by omega, by omega⟩)) rfl ?_
          refine Ev.call rfl rfl (rfl) (x_in (d := 28) ⟨by omega, by omega⟩ (by decide) (by decide)) (by omega) ?_
          rintro v V' b' ⟨rfl, rfl, rfl⟩
          refine Ev.blk 1 (B172_30 _ _ _ _ _ _ _ (by first | assumption | omega | exact b01_in _ | exact ⟨by omega, by omega⟩)) rfl ?_
          refine Ev.ite (fun q => ?_) (fun q => ?_)
          · replace q := nd_t q
            replace q := b01_1 q
            refine Ev.blk 19 (B172_36 _ _ _ _ _ _ (by first | assumption | omega | exact b01_in _ | exact ⟨by omega, by omega⟩)) rfl ?_
            refine Ev.ret rfl rfl rfl (by first | rfl | exact decide_eq_true (b01_or _)) ?_
            first | (exfalso; omega) | exact rule_iv hI (by omega) (by omega) (by omega) | exact ⟨rfl, hi.more (Nat.le_succ N), hI.2⟩
          · replace q := nd_f q
            replace q := b01_0 q
            refine Ev.blk 1 (B172_33 _ _ _ _ _ _) rfl ?_
            refine Ev.ret rfl rfl rfl (by first | rfl | exact decide_eq_true (b01_or _)) ?_
            first | (exfalso; omega) | exact rule_iv hI (by omega) (by omega) (by omega) | exact ⟨rfl, hi.more (Nat.le_succ N), hI.2⟩
        · replace q := nd_f q
          replace q := b01_0 q
          refine Ev.blk 1 (B172_19 _ _ _ _ _ _) rfl ?_
          refine Ev.ret rfl rfl rfl (by first | rfl | exact decide_eq_true (b01_or _)) ?_
          first | (exfalso; omega) | exact rule_iv hI (by omega) (by omega) (by omega) | exact ⟨rfl, hi.more (Nat.le_succ N), hI.2⟩
    · replace q := of_decide_eq_false q
      refine Ev.blk 3 (B23_11 _ _ _ _ _ _ (by first | assumption | omega | exact b01_in _ | exact ⟨by omega, by omega⟩)) rfl ?_
      refine Ev.ite (fun q => ?_) (fun q => ?_)
      · replace q := of_decide_eq_true q
        refine Ev.blk 2 (B23_19 _ _ _ _ _ _ (by first | assumption | omega | exact b01_in _ | exact ⟨by omega, by omega⟩)) rfl ?_
        refine Ev.ite (fun q => ?_) (fun q => ?_)
        · replace q := of_decide_eq_true q
          refine Ev.blk 1 (B23_28 _ _ _ _ _ _) rfl ?_
          refine Ev.ret rfl rfl rfl (by first | rfl | exact decide_eq_true (b01_or _)) ?_
          refine ⟨_, rfl, (by first | decide | (have := hr a0 a1 (by omega) (by omega); exact ⟨by omega, by omega⟩)), (by first | rfl | exact uV_ne (by omega)), ?_⟩
          refine Ev.blk 1 (B172_0 _ _ _ _ _ _) rfl ?_
          refine Ev.call rfl rfl (rfl) (x_isRuleR (d := 27) h0) (by omega) ?_
          rintro v V' b' ⟨rfl, rfl, rfl⟩
          refine Ev.blk 1 (B172_4 _ _ _ _ _ _ _ (by first | assumption | omega | exact b01_in _ | exact ⟨by omega, by omega⟩)) rfl ?_
          refine Ev.ite (fun q => ?_) (fun q => ?_)
          · replace q := of_decide_eq_true q
            replace q := b01_0 q
            refine Ev.blk 1 (B172_19 _ _ _ _ _ _) rfl ?_
            refine Ev.ret rfl rfl rfl (by first | rfl | exact decide_eq_true (b01_or _)) ?_
            first | (exfalso; omega) | exact rule_iv hI (by omega) (by omega) (by omega) | exact ⟨rfl, hi.more (Nat.le_succ N), hI.2⟩
          · replace q := of_decide_eq_false q
            replace q := b01_1 q
            refine Ev.blk 4 (B172_7 _ _ _ _ _ _ (by first | assumption | omega | exact b01_in _ | exact ⟨by omega, by omega⟩)) rfl ?_
            refine Ev.call rfl rfl (rfl) (x_in (d := 28) ⟨by omega, by omega⟩ (by decide) (by decide)) (by omega) ?_
            rintro v V' b' ⟨rfl, rfl, rfl⟩
            refine Ev.blk 1 (B172_16 _ _ _ _ _ _ _ (by first | assumption | omega | exact b01_in _ | exact ⟨by omega, by omega⟩)) rfl ?_
            refine Ev.ite (fun q => ?_) (fun q => ?_)
            · replace q := nd_t q
              replace q := b01_1 q
              refine Ev.blk 4 (B172_21 _ _ _ _ _ _ (by first | assumption | omega | exact b01_in _ | exact ⟨by omega, by omega⟩)) rfl ?_
              refine Ev.call rfl rfl (rfl) (x_in (d := 28) ⟨by omega, by omega⟩ (by decide) (by decide)) (by omega) ?_
              rintro v V' b' ⟨rfl, rfl, rfl⟩
              refine Ev.blk 1 (B172_30 _ _ _ _ _ _ _ (by first | assumption | omega | exact b01_in _ | exact ⟨by omega, by omega⟩)) rfl ?_
              refine Ev.ite (fun q => ?_) (fun q => ?_)
              · replace q := nd_t q
                replace q := b01_1 q
                refine Ev.blk 19 (B172_36 _ _ _ _ _ _ (by first | assumption | omega | exact b01_in _ | exact ⟨by omega, by omega⟩)) rfl ?_
                refine Ev.ret rfl rfl rfl (by first | rfl | exact decide_eq_true (b01_or _)) ?_
                first | (exfalso; omega) | exact rule_iv hI (by omega) (by omega) (by omega) | exact ⟨rfl, hi.more (Nat.le_succ N), hI.2⟩
              · replace q := nd_f q
                replace q := b01_0 q
                refine Ev.blk 1 (B172_33 _ _ _ _ _ _) rfl ?_
                refine Ev.ret rfl rfl rfl (by first | rfl | exact decide_eq_true (b01_or _)) ?_
                first | (exfalso; omega) | exact rule_iv hI (by omega) (by omega) (by omega) | exact ⟨rfl, hi.more (Nat.le_succ N), hI.2⟩
            · replace q := nd_f q
              replace q := b01_0 q
              refine Ev.blk 1 (B172_19 _ _ _ _ _ _) rfl ?_
              refine Ev.ret rfl rfl rfl (by first | rfl | exact decide_eq_true (b01_or _)) ?_
              first | (exfalso; omega) | exact rule_iv hI (by omega) (by omega) (by omega) | exact ⟨rfl, hi.more (Nat.le_succ N), hI.2⟩
        · replace q := of_decide_eq_false q
          refine Ev.blk 3 (B23_23 _ _ _ _ _ _ (by first | assumption | omega | exact b01_in _ | exact ⟨by omega, by omega⟩)) rfl ?_
          refine Ev.ite (fun q => ?_) (fun q => ?_)
          · replace q := of_decide_eq_true q
            refine Ev.blk 15 (B23_31 _ _ _ _ _ _ (by first | assumption | omega | exact b01_in _ | exact ⟨by omega, by omega⟩) (by first | assumption | omega | exact b01_in _ | exact ⟨by omega, by omega⟩)) rfl ?_
            refine Ev.ret rfl rfl rfl (by first | rfl | exact decide_eq_true (b01_or _)) ?_
            refine ⟨_, rfl, (by first | decide | (have := hr a0 a1 (by omega) (by omega); exact ⟨by omega, by omega⟩)), (by first | rfl | exact uV_ne (by omega)), ?_⟩
            refine Ev.blk 1 (B172_0 _ _ _ _ _ _) rfl ?_
            refine Ev.call rfl rfl (rfl) (x_isRuleR (d := 27) h0) (by omega) ?_
            rintro v V' b' ⟨rfl, rfl, rfl⟩
            refine Ev.blk 1 (B172_4 _ _ _ _ _ _ _ (by first | assumption | omega | exact b01_in _ | exact ⟨by omega, by omega⟩)) rfl ?_
            refine Ev.ite (fun q => ?_) (fun q => ?_)
            · replace q := of_decide_eq_true q
              replace q := b01_0 q
              refine Ev.blk 1 (B172_19 _ _ _ _ _ _) rfl ?_
              refine Ev.ret rfl rfl rfl (by first | rfl | exact decide_eq_true (b01_or _)) ?_
              first | (exfalso; omega) | exact rule_iv hI (by omega) (by omega) (by omega) | exact ⟨rfl, hi.more (Nat.le_succ N), hI.2⟩
            · replace q := of_decide_eq_false q
              replace q := b01_1 q
              refine Ev.blk 4 (B172_7 _ _ _ _ _ _ (by first | assumption | omega | exact b01_in _ | exact ⟨by omega, by omega⟩)) rfl ?_
              refine Ev.call rfl rfl (rfl) (x_in (d := 28) ⟨by omega, by omega⟩ (by decide) (by decide)) (by omega) ?_
              rintro v V' b' ⟨rfl, rfl, rfl⟩
              refine Ev.blk 1 (B172_16 _ _ _ _ _ _ _ (by first | assumption | omega | exact b01_in _ | exact ⟨by omega, by omega⟩)) rfl ?_
              refine Ev.ite (fun q => ?_) (fun q => ?_)
              · replace q := nd_t q
                replace q := b01_1 q
                refine Ev.blk 4 (B172_21 _ _ _ _ _ _ (by first | assumption | omega | exact b01_in _ | exact ⟨by omega, by omega⟩)) rfl ?_
                refine Ev.call rfl rfl (rfl) (x_in (d := 28) ⟨by omega, by omega⟩ (by decide) (by decide)) (by omega) ?_
                rintro v V' b' ⟨rfl, rfl, rfl⟩
                refine Ev.blk 1 (B172_30 _ _ _ _ _ _ _ (by first | assumption | omega | exact b01_in _ | exact ⟨by omega, by omega⟩)) rfl ?_
                refine Ev.ite (fun q => ?_) (fun q => ?_)
                · replace q := nd_t q
                  replace q := b01_1 q
                  refine Ev.blk 19 (B172_36 _ _ _ _ _ _ (by first | assumption | omega | exact b01_in _ | exact ⟨by omega, by omega⟩)) rfl ?_
                  refine Ev.ret rfl rfl rfl (by first | rfl | exact decide_eq_true (b01_or _)) ?_
                  first | (exfalso; omega) | exact rule_iv hI (by omega) (by omega) (by omega) | exact ⟨rfl, hi.more (Nat.le_succ N), hI.2⟩
                · replace q := nd_f q
                  replace q := b01_0 q
                  refine Ev.blk 1 (B172_33 _ _ _ _ _ _) rfl ?_
                  refine Ev.ret rfl rfl rfl (by first | rfl | exact decide_eq_true (b01_or _)) ?_
                  first | (exfalso; omega) | exact rule_iv hI (by omega) (by omega) (by omega) | exact ⟨rfl, hi.more (Nat.le_succ N), hI.2⟩
              · replace q := nd_f q
                replace q := b01_0 q
                refine Ev.blk 1 (B172_19 _ _ _ _ _ _) rfl ?_
                refine Ev.ret rfl rfl rfl (by first | rfl | exact decide_eq_true (b01_or _)) ?_
                first | (exfalso; omega) | exact rule_iv hI (by omega) (by omega) (by omega) | exact ⟨rfl, hi.more (Nat.le_succ N), hI.2⟩
          · replace q := of_decide_eq_false q
            refine Ev.blk 1 (B23_28 _ _ _ _ _ _) rfl ?_
            refine Ev.ret rfl rfl rfl (by first | rfl | exact decide_eq_true (b01_or _)) ?_
            refine ⟨_, rfl, (by first | decide | (have := hr a0 a1 (by omega) (by omega); exact ⟨by omega, by omega⟩)), (by first | rfl | exact uV_ne (by omega)), ?_⟩
            refine Ev.blk 1 (B172_0 _ _ _ _ _ _) rfl ?_
            refine Ev.call rfl rfl (rfl) (x_isRuleR (d := 27) h0) (by omega) ?_
            rintro v V' b' ⟨rfl, rfl, rfl⟩
            refine Ev.blk 1 (B172_4 _ _ _ _ _ _ _ (by first | assumption | omega | exact b01_in _ | exact ⟨by omega, by omega⟩)) rfl ?_
            refine Ev.ite (fun q => ?_) (fun q => ?_)
            · replace q := of_decide_eq_true q
              replace q := b01_0 q
              refine Ev.blk 1 (B172_19 _ _ _ _ _ _) rfl ?_
              refine Ev.ret rfl rfl rfl (by first | rfl | exact decide_eq_true (b01_or _)) ?_
              first | (exfalso; omega) | exact rule_iv hI (by omega) (by omega) (by omega) | exact ⟨rfl, hi.more (Nat.le_succ N), hI.2⟩
            · replace q := of_decide_eq_false q
              replace q := b01_1 q
              refine Ev.blk 4 (B172_7 _ _ _ _ _ _ (by first | assumption | omega | exact b01_in _ | exact ⟨by omega, by omega⟩)) rfl ?_
              refine Ev.call rfl rfl (rfl) (x_in (d := 28) ⟨by omega, by omega⟩ (by decide) (by decide)) (by omega) ?_
              rintro v V' b' ⟨rfl, rfl, rfl⟩
              refine Ev.blk 1 (B172_16 _ _ _ _ _ _ _ (by first | assumption | omega | exact b01_in _ | exact ⟨by omega, by omega⟩)) rfl ?_
              refine Ev.ite (fun q => ?_) (fun q => ?_)
              · replace q := nd_t q
                replace q := b01_1 q
                refine Ev.blk 4 (B172_21 _ _ _ _ _ _ (by first | assumption | omega | exact b01_in _ | exact ⟨by omega, by omega⟩)) rfl ?_
                refine Ev.call rfl rfl (rfl) (x_in (d := 28) ⟨by omega, by omega⟩ (by decide) (by decide)) (by omega) ?_
                rintro v V' b' ⟨rfl, rfl, rfl⟩
                refine Ev.blk 1 (B172_30 _ _ _ _ _ _ _ (by first | assumption | omega | exact b01_in _ | exact ⟨by omega, by omega⟩)) rfl ?_
                refine Ev.ite (fun q => ?_) (fun q => ?_)
                · replace q := nd_t q
                  replace q := b01_1 q
                  refine Ev.blk 19 (B172_36 _ _ _ _ _ _ (by first | assumption | omega | exact b01_in _ | exact ⟨by omega, by omega⟩)) rfl ?_
                  refine Ev.ret rfl rfl rfl (by first | rfl | exact decide_eq_true (b01_or _)) ?_
                  first | (exfalso; omega) | exact rule_iv hI (by omega) (by omega) (by omega) | exact ⟨rfl, hi.more (Nat.le_succ N), hI.2⟩
                · replace q := nd_f q
                  replace q := b01_0 q
                  refine Ev.blk 1 (B172_33 _ _ _ _ _ _) rfl ?_
                  refine Ev.ret rfl rfl rfl (by first | rfl | exact decide_eq_true (b01_or _)) ?_
                  first | (exfalso; omega) | exact rule_iv hI (by omega) (by omega) (by omega) | exact ⟨rfl, hi.more (Nat.le_succ N), hI.2⟩
              · replace q := nd_f q
                replace q := b01_0 q
                refine Ev.blk 1 (B172_19 _ _ _ _ _ _) rfl ?_
                refine Ev.ret rfl rfl rfl (by first | rfl | exact decide_eq_true (b01_or _)) ?_
                first | (exfalso; omega) | exact rule_iv hI (by omega) (by omega) (by omega) | exact ⟨rfl, hi.more (Nat.le_succ N), hI.2⟩
      · replace q := of_decide_eq_false q
        refine Ev.blk 1 (B23_17 _ _ _ _ _ _) rfl ?_
        refine Ev.ret rfl rfl rfl (by first | rfl | exact decide_eq_true (b01_or _)) ?_
        refine ⟨_, rfl, (by first | decide | (have := hr a0 a1 (by omega) (by omega); exact ⟨by omega, by omega⟩)), (by first | rfl | exact uV_ne (by omega)), ?_⟩
        refine Ev.blk 1 (B172_0 _ _ _ _ _ _) rfl ?_
        refine Ev.call rfl rfl (rfl) (x_isRuleR (d := 27) h0) (by omega) ?_
        rintro v V' b' ⟨rfl, rfl, rfl⟩
        refine Ev.blk 1 (B172_4 _ _ _ _ _ _ _ (by first | assumption | omega | exact b01_in _ | exact ⟨by omega, by omega⟩)) rfl ?_
        refine Ev.ite (fun q => ?_) (fun q => ?_)
        · replace q := of_decide_eq_true q
          replace q := b01_0 q
          refine Ev.blk 1 (B172_19 _ _ _ _ _ _) rfl ?_
          refine Ev.ret rfl rfl rfl (by first | rfl | exact decide_eq_true (b01_or _)) ?_
          first | (exfalso; omega) | exact rule_iv hI (by omega) (by omega) (by omega) | exact ⟨rfl, hi.more (Nat.le_succ N), hI.2⟩
        · replace q := of_decide_eq_false q
          replace q := b01_1 q
          refine Ev.blk 4 (B172_7 _ _ _ _ _ _ (by first | assumption | omega | exact b01_in _ | exact ⟨by omega, by omega⟩)) rfl ?_
          refine Ev.call rfl rfl (rfl) (x_in (d := 28) ⟨by omega, by omega⟩ (by decide) (by decide)) (by omega) ?_
          rintro v V' b' ⟨rfl, rfl, rfl⟩
          refine Ev.blk 1 (B172_16 _ _ _ _ _ _ _ (by first | assumption | omega | exact b01_in _ | exact ⟨by omega, by omega⟩)) rfl ?_
          refine Ev.ite (fun q => ?_) (fun q => ?_)
          · replace q := nd_t q
            replace q := b01_1 q
            refine Ev.blk 4 (B172_21 _ _ _ _ _ _ (by first | assumption | omega | exact b01_in _ | exact ⟨by omega, by omega⟩)) rfl ?_
            refine Ev.call rfl rfl (rfl) (x_in (d := 28) ⟨by omega, by omega⟩ (by decide) (by decide)) (by omega) ?_
            rintro v V' b' ⟨rfl, rfl, rfl⟩
            refine Ev.blk 1 (B172_30 _ _ _ _ _ _ _ (by first | assumption | omega | exact b01_in _ | exact ⟨by omega, by omega⟩)) rfl ?_
            refine Ev.ite (fun q => ?_) (fun q => ?_)
            · replace q := nd_t q
              replace q := b01_1 q
              refine Ev.blk 19 (B172_36 _ _ _ _ _ _ (by first | assumption | omega | exact b01_in _ | exact ⟨by omega, by omega⟩)) rfl ?_
              refine Ev.ret rfl rfl rfl (by first | rfl | exact decide_eq_true (b01_or _)) ?_
              first | (exfalso; omega) | exact rule_iv hI (by omega) (by omega) (by omega) | exact ⟨rfl, hi.more (Nat.le_succ N), hI.2⟩
            · replace q := nd_f q
              replace q := b01_0 q
              refine Ev.blk 1 (B172_33 _ _ _ _ _ _) rfl ?_
              refine Ev.ret rfl rfl rfl (by first | rfl | exact decide_eq_true (b01_or _)) ?_
              first | (exfalso; omega) | exact rule_iv hI (by omega) (by omega) (by omega) | exact ⟨rfl, hi.more (Nat.le_succ N), hI.2⟩
          · replace q := nd_f q
            replace q := b01_0 q
            refine Ev.blk 1 (B172_19 _ _ _ _ _ _) rfl ?_
            refine Ev.ret rfl rfl rfl (by first | rfl | exact decide_eq_true (b01_or _)) ?_
            first | (exfalso; omega) | exact rule_iv hI (by omega) (by omega) (by omega) | exact ⟨rfl, hi.more (Nat.le_succ N), hI.2⟩

