/-! the 38 calls: life (specs36.py) -/
theorem sumN_le {f g : Nat → Int} : ∀ n, (∀ i, i < n → f i ≤ g i) → sumN f n ≤ sumN g n
  | 0, _ => Int.le_refl 0
  | n + 1, h => Int.add_le_add (sumN_le n (fun i hi => h i (by omega))) (h n (by omega))
theorem Kd.life {V : Mv} {K i n1 : Nat} (hk : Kd V K i) (hn : V 121 i = (n1 : Int)) : lfH n1 (fun a c => rGo V (i : Int) (a : Int) (c : Int)) (fun w => rLv V (i : Int) (w : Int)) := by
  have h2 := hk.w2
  have h8 := hk.w8
  have tz : ∀ a c : Nat, a < 8 → c < 8 → a ≠ c → rGo V (i : Int) (a : Int) (c : Int) = V 123 (64 * i + 8 * a + c) := fun a c ha hc hac => by
    unfold rGo
    rw [if_neg (by omega), show (64 * (i : Int) + 8 * (a : Int) + (c : Int)).toNat = 64 * i + 8 * a + c by omega]
  refine ⟨by omega, by omega, fun w hw => ⟨rLv_nn hk hw, hk.lv10 w hw⟩, fun a c ha hc hac => ?_, fun w hw => ?_, ?_⟩
  · show 0 ≤ rGo V (i : Int) (a : Int) (c : Int) ∧ rGo V (i : Int) (a : Int) (c : Int) ≤ 9
    rw [tz a c ha hc hac]
    exact hk.tn a c ha hc
  · have e1 : sumN (fun j => rGo V (i : Int) (w : Int) ((w + 1 + j : Nat) : Int)) (n1 - 1 - w) = sumN (fun o => if w + 1 < n1 ∧ o < n1 ∧ w + 1 ≤ o then rGo V (i : Int) (w : Int) (o : Int) else 0) 8 := by
      rw [sumN_cut (f := fun o => rGo V (i : Int) (w : Int) (o : Int)) hw 8, show min 8 n1 - (w + 1) = n1 - 1 - w by omega]
    show sumN (fun j => rGo V (i : Int) (w : Int) ((w + 1 + j : Nat) : Int)) (n1 - 1 - w) ≤ rLv V (i : Int) (w : Int)
    rw [e1]
    unfold rLv
    refine sumN_le 8 (fun o ho => ?_)
    rw [show (64 * (i : Int) + 8 * (w : Int) + (o : Int)).toNat = 64 * i + 8 * w + o by omega]
    have := hk.tn w o (by omega) ho
    by_cases q : w + 1 < n1 ∧ o < n1 ∧ w + 1 ≤ o
    · rw [if_pos q, tz w o (by omega) ho (by omega)]
      exact Int.le_refl _
    · rw [if_neg q]
      exact this.1
  · show rLv V (i : Int) ((n1 - 1 : Nat) : Int) = 0
    unfold rLv
    refine sumN_0 8 (fun o ho => ?_)
    rw [show (64 * (i : Int) + 8 * ((n1 - 1 : Nat) : Int) + (o : Int)).toNat = 64 * i + 8 * (n1 - 1) + o by omega]
    exact hk.tn0 (n1 - 1) o (by omega) ho (by omega)
theorem op_life (a0 a1 a2 : Int) (h0 : in32 a0) (h1 : in32 a1) (h2 : a2 = 0 ∨ a2 = 1) : OpJ 22 171 [.inl a0, .inl a1, .inl a2] := by
  intro L N V b hL hN hI
  have hi := hI.1
  refine Ev.blk 3 (B22_0 _ _ _ _ _ _) rfl ?_
  refine Ev.call rfl rfl rfl (x_isWearC (d := 27) h0 h1 (fun i hi2 => hi.bdC.w hi2)) (by omega) ?_
  rintro v V' b' ⟨rfl, h_, g_⟩
  subst V' b'
  refine Ev.blk 1 (B22_6 _ _ _ _ _ _ _ (b01_in _)) rfl ?_
  refine Ev.ite (fun q => ?_) (fun q => ?_)
  · replace q := b01_1 (nd_t q)
    obtain ⟨i, rfl⟩ : ∃ k : Nat, a0 = (k : Int) := ⟨a0.toNat, by omega⟩
    obtain ⟨w, rfl⟩ : ∃ k : Nat, a1 = (k : Int) := ⟨a1.toNat, by omega⟩
    rw [Int.toNat_natCast] at q
    have hi3 : i < 3 := by omega
    have hk := hi.kd i hi3
    have hK : isK (14 + 15 * i) := k_11 (i := (i : Int)) q.1
    have hww := hk.w
    have hw2 := hk.w2
    have h8 := hk.w8
    obtain ⟨n1, hn1⟩ : ∃ k : Nat, V 121 i = (k : Int) := ⟨(V 121 i).toNat, by omega⟩
    have hH := hk.life hn1
    have hsc := Fp_n hH
    have hwn : w < n1 := by omega
    refine Ev.blk 6 (B22_13 _ _ _ _ _ _ q.1) rfl ?_
    rw [Int.toNat_natCast]
    refine Ev.call rfl rfl (vg rfl rfl (isK_0 hK) (congrArg Prod.fst (isK_T (L := L) hK)) rfl) (x_lives (d := 27) (n1 := n1) (t := (fun a c => rGo V (i : Int) (a : Int) (c : Int))) (lv := (fun w => rLv V (i : Int) (w : Int))) hK hH (by rw [hww]; exact hn1) (fun a c ha hc => hk.go a c ha hc) (fun a ha => hk.lv a ha)) (by omega) ?_
    rintro v V1 b1 ⟨rfl, rfl, f1, f3⟩
    have hKw := lfK_bd hH (lfK_all hH f3 hwn)
    obtain ⟨sc, hscn⟩ : ∃ k : Nat, Fp (fun w => rLv V (i : Int) (w : Int)) n1 = (k : Int) := ⟨(Fp (fun w => rLv V (i : Int) (w : Int)) n1).toNat, by omega⟩
    refine Ev.blk 8 (B22_26 _ _ _ _ _ _ _ (by omega) (by rw [Int.toNat_natCast]; exact ⟨by omega, by omega⟩) (cmpI_in _ _)) rfl ?_
    rw [Int.toNat_natCast]
    refine Ev.ite (fun z => ?_) (fun z => ?_)
    · replace z := (cmpI_ge _ _).mp (of_decide_eq_true z)
      obtain ⟨X, hX⟩ : ∃ k : Nat, V1 119 w = (k : Int) := ⟨(V1 119 w).toNat, by omega⟩
      have hF : isF 107 := by unfold isF; decide
      refine Ev.blk 7 (B22_43 _ _ _ _ _ _ _ (by omega)) rfl ?_
      rw [Int.toNat_natCast, hX, hscn]
      refine Ev.call rfl rfl rfl (x_become (d := 27) (a := 107) (x := X) (y := sc) hF (by omega) (by omega) (by omega)) (by omega) ?_
      rintro v V2 b2 ⟨rfl, rfl, rfl⟩
      refine Ev.blk 3 (B22_58 _ _ _ _ _ _ _) rfl ?_
      refine Ev.call rfl rfl rfl (x_toldC (d := 28) hF h2) (by omega) ?_
      rintro v V3 b3 ⟨rfl, rfl, rfl⟩
      have d1 := Nat.div_le_self X (Nat.gcd X sc)
      have d2 := Nat.div_le_self sc (Nat.gcd X sc)
      have w1 : ∀ x, x ≠ 107 → x ≠ 119 → uV (uV V1 107 0 ((X / Nat.gcd X sc : Nat) : Int)) 107 1 ((sc / Nat.gcd X sc : Nat) : Int) x = V x := fun x n1 n2 => by
        rw [uV_ne n1, uV_ne n1, f1 x n2]
      refine Ev.ret rfl rfl rfl rfl ⟨(if a2 = 0 then ((sc / Nat.gcd X sc : Nat) : Int) else ((X / Nat.gcd X sc : Nat) : Int)), rfl, ?_, w1 0 (by omega) (by omega), ?_⟩
      · have nn : ∀ p : Nat, p ≤ 3000000000000000 → in64 (p : Int) := fun p hp => ⟨by omega, by omega⟩
        split
        · exact nn _ (Nat.le_trans d2 (by omega))
        · exact nn _ (Nat.le_trans d1 (by omega))
      obtain ⟨U, hU⟩ : ∃ U, U = uV (uV V1 107 0 ((X / Nat.gcd X sc : Nat) : Int)) 107 1 ((sc / Nat.gcd X sc : Nat) : Int) := ⟨_, rfl⟩
      rw [← hU] at w1 ⊢
      have w121 : U 121 = V 121 := w1 121 (by omega) (by omega)
      have w123 : U 123 = V 123 := w1 123 (by omega) (by omega)
      have hBR : BdR U := by
        have := hi.bdR
        unfold BdR at this ⊢
        rw [w121, w1 126 (by omega) (by omega)]
        exact this
      refine Ev.blk 3 (B171_0 _ _ _ _ _ _) rfl ?_
      refine Ev.call rfl rfl rfl (x_isWearR (d := 26) hBR h0 h1) (by omega) ?_
      rintro v V' b' ⟨rfl, h_, g_⟩
      subst V' b'
      refine Ev.blk 1 (B171_6 _ _ _ _ _ _ _ (b01_in _)) rfl ?_
      refine Ev.ite (fun _ => ?_) (fun z => absurd (show (0 ≤ (i : Int) ∧ (i : Int) ≤ 2) ∧ 0 ≤ (w : Int) ∧ (w : Int) ≤ U 121 i - 1 by rw [w121]; omega) (b01_0 (nd_f z)))
      refine Ev.blk 7 (B171_13 _ _ _ _ _ _ (by omega)) rfl ?_
      rw [Int.toNat_natCast, w121, hn1]
      refine lf2_lp (d := 28) (V := U) (t := (fun a c => rGo V (i : Int) (a : Int) (c : Int))) (lv := (fun w => rLv V (i : Int) (w : Int))) (I := V1 119) hi3 hH (by rw [w121]; exact hn1) (fun a c ha hc hac => ?_) f3 (fun x hx => by rw [rLv_congr w123]) (fun Y hy => ?_) n1 U (Nat.le_refl _) ⟨fun _ _ _ => rfl, fun x q1 q2 => absurd q2 (by omega)⟩
      · show U 123 (64 * i + 8 * a + c) = rGo V (i : Int) (a : Int) (c : Int)
        unfold rGo
        rw [if_neg (by omega), show (64 * (i : Int) + 8 * (a : Int) + (c : Int)).toNat = 64 * i + 8 * a + c by omega, w123]
      have hlr := hy.2 w (by omega) (by omega)
      rcases hlr with ⟨r1, r2, r3⟩ | ⟨r1, lu, ld, r2, r3, r4, r5, r6⟩
      · omega
      · rw [hX, hscn] at r6
        have r7 : lu * sc = X * ld := by
          rw [← Int.natCast_mul, ← Int.natCast_mul] at r6
          exact Int.ofNat_inj.mp r6
        have r8 := least_eq r5 r7 (by omega) r4
        have b1 : ld ≤ sc := Nat.le_of_dvd (by omega) r8.2.2
        refine Ev.blk 7 (B171_273 _ _ _ _ _ _ _ (by omega) (by rw [Int.toNat_natCast, r3]; exact ⟨by omega, by omega⟩) (cmpI_in _ _)) rfl ?_
        rw [Int.toNat_natCast, r3]
        refine Ev.ite (fun _ => ?_) (fun y => absurd ((cmpI_eq _ _).mp (nd_f y)) (by omega))
        refine Ev.blk 2 (B171_290 _ _ _ _ _ _ _ ⟨by omega, by omega⟩) rfl ?_
        refine Ev.ite (fun y => ?_) (fun y => ?_)
        · replace y := of_decide_eq_true y
          refine Ev.blk 4 (B171_303 _ _ _ _ _ _ _ (by omega)) rfl ?_
          refine Ev.ret rfl rfl rfl rfl ⟨?_, (hi.more (Nat.le_succ N)).frame (fun a ha => by unfold dI at ha; rw [hy.1 a (by omega) (by omega), w1 a (by omega) (by omega)]) (by rw [hy.1 120 (by omega) (by omega), w1 120 (by omega) (by omega)]) (by rw [hy.1 120 (by omega) (by omega), w1 120 (by omega) (by omega)]), fun k => by rw [hy.1 0 (by omega) (by omega), w1 0 (by omega) (by omega)]; exact hI.2 k⟩
          rw [Int.toNat_natCast, r3, if_pos y, r8.2.1]
        · replace y := of_decide_eq_false y
          refine Ev.blk 5 (B171_294 _ _ _ _ _ _ _ (by omega)) rfl ?_
          refine Ev.ret rfl rfl rfl rfl ⟨?_, (hi.more (Nat.le_succ N)).frame (fun a ha => by unfold dI at ha; rw [hy.1 a (by omega) (by omega), w1 a (by omega) (by omega)]) (by rw [hy.1 120 (by omega) (by omega), w1 120 (by omega) (by omega)]) (by rw [hy.1 120 (by omega) (by omega), w1 120 (by omega) (by omega)]), fun k => by rw [hy.1 0 (by omega) (by omega), w1 0 (by omega) (by omega)]; exact hI.2 k⟩
          rw [Int.toNat_natCast, r2, if_neg y, r8.1]
    · have z : ¬ 0 ≤ V1 119 w := fun y => of_decide_eq_false z ((cmpI_ge _ _).mpr y)
      refine Ev.blk 1 (B22_39 _ _ _ _ _ _ _) rfl ?_
      have w1 : ∀ x, x ≠ 107 → x ≠ 119 → V1 x = V x := fun x _ n2 => f1 x n2
      refine Ev.ret rfl rfl rfl rfl ⟨_, rfl, by decide, w1 0 (by omega) (by omega), ?_⟩
      obtain ⟨U, hU⟩ : ∃ U, U = V1 := ⟨_, rfl⟩
      rw [← hU] at w1 ⊢
      have w121 : U 121 = V 121 := w1 121 (by omega) (by omega)
      have w123 : U 123 = V 123 := w1 123 (by omega) (by omega)
      have hBR : BdR U := by
        have := hi.bdR
        unfold BdR at this ⊢
        rw [w121, w1 126 (by omega) (by omega)]
        exact this
      refine Ev.blk 3 (B171_0 _ _ _ _ _ _) rfl ?_
      refine Ev.call rfl rfl rfl (x_isWearR (d := 26) hBR h0 h1) (by omega) ?_
      rintro v V' b' ⟨rfl, h_, g_⟩
      subst V' b'
      refine Ev.blk 1 (B171_6 _ _ _ _ _ _ _ (b01_in _)) rfl ?_
      refine Ev.ite (fun _ => ?_) (fun z => absurd (show (0 ≤ (i : Int) ∧ (i : Int) ≤ 2) ∧ 0 ≤ (w : Int) ∧ (w : Int) ≤ U 121 i - 1 by rw [w121]; omega) (b01_0 (nd_f z)))
      refine Ev.blk 7 (B171_13 _ _ _ _ _ _ (by omega)) rfl ?_
      rw [Int.toNat_natCast, w121, hn1]
      refine lf2_lp (d := 28) (V := U) (t := (fun a c => rGo V (i : Int) (a : Int) (c : Int))) (lv := (fun w => rLv V (i : Int) (w : Int))) (I := V1 119) hi3 hH (by rw [w121]; exact hn1) (fun a c ha hc hac => ?_) f3 (fun x hx => by rw [rLv_congr w123]) (fun Y hy => ?_) n1 U (Nat.le_refl _) ⟨fun _ _ _ => rfl, fun x q1 q2 => absurd q2 (by omega)⟩
      · show U 123 (64 * i + 8 * a + c) = rGo V (i : Int) (a : Int) (c : Int)
        unfold rGo
        rw [if_neg (by omega), show (64 * (i : Int) + 8 * (a : Int) + (c : Int)).toNat = 64 * i + 8 * a + c by omega, w123]
      have hlr := hy.2 w (by omega) (by omega)
      rcases hlr with ⟨r1, r2, r3⟩ | ⟨r1, _⟩
      · refine Ev.blk 7 (B171_273 _ _ _ _ _ _ _ (by omega) (by rw [Int.toNat_natCast, r3]; decide) (cmpI_in _ _)) rfl ?_
        rw [Int.toNat_natCast, r3]
        refine Ev.ite (fun y => absurd y (by decide)) (fun _ => ?_)
        refine Ev.blk 2 (B171_284 _ _ _ _ _ _ _) rfl ?_
        exact Ev.ret rfl rfl rfl rfl ⟨rfl, (hi.more (Nat.le_succ N)).frame (fun a ha => by unfold dI at ha; rw [hy.1 a (by omega) (by omega), w1 a (by omega) (by omega)]) (by rw [hy.1 120 (by omega) (by omega), w1 120 (by omega) (by omega)]) (by rw [hy.1 120 (by omega) (by omega), w1 120 (by omega) (by omega)]), fun k => by rw [hy.1 0 (by omega) (by omega), w1 0 (by omega) (by omega)]; exact hI.2 k⟩
      · exact absurd r1 z
  · replace q := b01_0 (nd_f q)
    refine Ev.blk 1 (B22_9 _ _ _ _ _ _) rfl ?_
    refine Ev.ret rfl rfl rfl rfl ⟨_, rfl, by decide, rfl, ?_⟩
    refine Ev.blk 3 (B171_0 _ _ _ _ _ _) rfl ?_
    refine Ev.call rfl rfl rfl (x_isWearR (d := 26) hi.bdR h0 h1) (by omega) ?_
    rintro v V4 b4 ⟨rfl, rfl, rfl⟩
    refine Ev.blk 1 (B171_6 _ _ _ _ _ _ _ (b01_in _)) rfl ?_
    refine Ev.ite (fun z => ?_) (fun _ => ?_)
    · have z := b01_1 (nd_t z)
      exact absurd (hi.wears.mpr z) q
    · refine Ev.blk 1 (B171_9 _ _ _ _ _ _) rfl ?_
      exact Ev.ret rfl rfl rfl rfl ⟨rfl, hi.more (Nat.le_succ N), hI.2⟩
