/-! the 38 calls: two, whom (specs33.py) -/
def rfT (V : Mv) (m w o e dd : Int) : Int := if ((0 ≤ m ∧ m < 3) ∧ 0 ≤ w ∧ w < V (14 + 15 * m.toNat) 0) ∧ ((0 ≤ o ∧ o < 3) ∧ 0 ≤ e ∧ e < V (14 + 15 * o.toNat) 0) then (if 1 ≤ dd ∧ dd ≤ 6 then 0 else -2) else -1
theorem rfT_c (V : Mv) (m w o e dd : Int) : (rfT V m w o e dd = 0 ∧ (((0 ≤ m ∧ m < 3) ∧ 0 ≤ w ∧ w < V (14 + 15 * m.toNat) 0) ∧ ((0 ≤ o ∧ o < 3) ∧ 0 ≤ e ∧ e < V (14 + 15 * o.toNat) 0)) ∧ 1 ≤ dd ∧ dd ≤ 6) ∨ (rfT V m w o e dd = -1 ∧ ¬ (((0 ≤ m ∧ m < 3) ∧ 0 ≤ w ∧ w < V (14 + 15 * m.toNat) 0) ∧ ((0 ≤ o ∧ o < 3) ∧ 0 ≤ e ∧ e < V (14 + 15 * o.toNat) 0))) ∨ (rfT V m w o e dd = -2 ∧ (((0 ≤ m ∧ m < 3) ∧ 0 ≤ w ∧ w < V (14 + 15 * m.toNat) 0) ∧ ((0 ≤ o ∧ o < 3) ∧ 0 ≤ e ∧ e < V (14 + 15 * o.toNat) 0)) ∧ ¬ (1 ≤ dd ∧ dd ≤ 6)) := by
  unfold rfT
  by_cases h : ((0 ≤ m ∧ m < 3) ∧ 0 ≤ w ∧ w < V (14 + 15 * m.toNat) 0) ∧ ((0 ≤ o ∧ o < 3) ∧ 0 ≤ e ∧ e < V (14 + 15 * o.toNat) 0)
  · by_cases h2 : 1 ≤ dd ∧ dd ≤ 6
    · rw [if_pos h, if_pos h2]
      exact Or.inl ⟨rfl, h, h2⟩
    · rw [if_pos h, if_neg h2]
      exact Or.inr (Or.inr ⟨rfl, h, h2⟩)
  · rw [if_neg h]
    exact Or.inr (Or.inl ⟨rfl, h⟩)
theorem x_rfT {L d : Nat} {V : Mv} {b : Bool} {m w o e dd : Int} (hk : ∀ i : Int, 0 ≤ i ∧ i < 3 → in32 (V (14 + 15 * i.toNat) 0)) (h0 : in32 m) (h1 : in32 w) (h2 : in32 o) (h3 : in32 e) (h4 : in32 dd) : Ex L (d + 2) 41 [.inr (.inr 1), .inl m, .inl w, .inl o, .inl e, .inl dd] V b (Ans (some (.inl (rfT V m w o e dd))) V b) := by
  refine Ev.blk 3 (B41_0 _ _ _ _ _ _ _ _) rfl ?_
  refine Ev.call rfl rfl (rfl) (x_isWearC (d := d) h0 h1 hk) (by omega) ?_
  rintro v V' b' ⟨rfl, rfl, rfl⟩
  refine Ev.blk 1 (B41_6 _ _ _ _ _ _ _ _ _ (by first | assumption | omega | decide | exact b01_in _ | exact ⟨by omega, by omega⟩)) rfl ?_
  refine Ev.ite (fun q => ?_) (fun q => ?_)
  · replace q := of_decide_eq_true q
    replace q := b01_0 q
    refine Ev.blk 1 (B41_19 _ _ _ _ _ _ _ _) rfl ?_
    refine Ev.ret rfl rfl rfl (by first | rfl | exact decide_eq_true (b01_or _)) ?_
    refine ⟨?_, rfl, rfl⟩
    congr 2
    unfold rfT
    repeat (first | rw [if_pos (by omega)] | rw [if_neg (by omega)])
  · replace q := of_decide_eq_false q
    replace q := b01_1 q
    refine Ev.blk 3 (B41_9 _ _ _ _ _ _ _ _) rfl ?_
    refine Ev.call rfl rfl (rfl) (x_isWearC (d := d) h2 h3 hk) (by omega) ?_
    rintro v V' b' ⟨rfl, rfl, rfl⟩
    refine Ev.blk 1 (B41_16 _ _ _ _ _ _ _ _ _ (by first | assumption | omega | decide | exact b01_in _ | exact ⟨by omega, by omega⟩)) rfl ?_
    refine Ev.ite (fun q => ?_) (fun q => ?_)
    · replace q := nd_t q
      replace q := b01_1 q
      refine Ev.blk 3 (B41_21 _ _ _ _ _ _ _ _ (by first | assumption | omega | decide | exact b01_in _ | exact ⟨by omega, by omega⟩)) rfl ?_
      refine Ev.ite (fun q => ?_) (fun q => ?_)
      · replace q := of_decide_eq_true q
        refine Ev.blk 2 (B41_34 _ _ _ _ _ _ _ _) rfl ?_
        refine Ev.ret rfl rfl rfl (by first | rfl | exact decide_eq_true (b01_or _)) ?_
        refine ⟨?_, rfl, rfl⟩
        congr 2
        unfold rfT
        repeat (first | rw [if_pos (by omega)] | rw [if_neg (by omega)])
      · replace q := of_decide_eq_false q
        refine Ev.blk 3 (B41_27 _ _ _ _ _ _ _ _ (by first | assumption | omega | decide | exact b01_in _ | exact ⟨by omega, by omega⟩)) rfl ?_
        refine Ev.ite (fun q => ?_) (fun q => ?_)
        · replace q := of_decide_eq_true q
          refine Ev.blk 1 (B41_39 _ _ _ _ _ _ _ _) rfl ?_
          refine Ev.ret rfl rfl rfl (by first | rfl | exact decide_eq_true (b01_or _)) ?_
          refine ⟨?_, rfl, rfl⟩
          congr 2
          unfold rfT
          repeat (first | rw [if_pos (by omega)] | rw [if_neg (by omega)])
        · replace q := of_decide_eq_false q
          refine Ev.blk 2 (B41_34 _ _ _ _ _ _ _ _) rfl ?_
          refine Ev.ret rfl rfl rfl (by first | rfl | exact decide_eq_true (b01_or _)) ?_
          refine ⟨?_, rfl, rfl⟩
          congr 2
          unfold rfT
          repeat (first | rw [if_pos (by omega)] | rw [if_neg (by omega)])
    · replace q := nd_f q
      replace q := b01_0 q
      refine Ev.blk 1 (B41_19 _ _ _ _ _ _ _ _) rfl ?_
      refine Ev.ret rfl rfl rfl (by first | rfl | exact decide_eq_true (b01_or _)) ?_
      refine ⟨?_, rfl, rfl⟩
      congr 2
      unfold rfT
      repeat (first | rw [if_pos (by omega)] | rw [if_neg (by omega)])

theorem op_two (a0 a1 a2 a3 a4 a5 : Int) (h0 : in32 a0) (h1 : in32 a1) (h2 : in32 a2) (h3 : in32 a3) (h4 : in32 a4) (h5 : a5 = 0 ∨ a5 = 1) : OpJ 40 219 [.inl a0, .inl a1, .inl a2, .inl a3, .inl a4, .inl a5] := by
  intro L N V b hL hN hI
  have hi := hI.1
  have hrc := rfT_c V a0 a1 a2 a3 a4
  have rest : rfT V a0 a1 a2 a3 a4 ≠ 0 → ∀ b1, Ex L 29 219 [.inr (.inr 120), .inl a0, .inl a1, .inl a2, .inl a3, .inl a4, .inl a5] V b1 (fun v2 V2 _ => v2 = some (.inr (.inl (rfT V a0 a1 a2 a3 a4))) ∧ Iv (N + 1) V2) := by
    intro hne b1
    rcases rfT_c V a0 a1 a2 a3 a4 with ⟨hc, _⟩ | ⟨hc, hw⟩ | ⟨hc, hw, hno⟩
    · exact absurd hc hne
    · rw [hi.wears, hi.wears] at hw
      rw [hc]
      refine Ev.blk 3 (B219_0 _ _ _ _ _ _ _ _ _) rfl ?_
      refine Ev.call rfl rfl (rfl) (x_isWearR (d := 26) hi.bdR h0 h1) (by omega) ?_
      rintro v V' b' ⟨rfl, h_, g_⟩
      subst V' b'
      refine Ev.blk 1 (B219_6 _ _ _ _ _ _ _ _ _ _ (by first | assumption | omega | decide | exact b01_in _ | exact ⟨by omega, by omega⟩)) rfl ?_
      refine Ev.ite (fun q => ?_) (fun q => ?_)
      · replace q := of_decide_eq_true q
        replace q := b01_0 q
        refine Ev.blk 1 (B219_19 _ _ _ _ _ _ _ _ _) rfl ?_
        refine Ev.ret rfl rfl rfl (by first | rfl | exact decide_eq_true (b01_or _)) ?_
        exact ⟨rfl, hi.more (Nat.le_succ N), hI.2⟩
      · replace q := of_decide_eq_false q
        replace q := b01_1 q
        refine Ev.blk 3 (B219_9 _ _ _ _ _ _ _ _ _) rfl ?_
        refine Ev.call rfl rfl (rfl) (x_isWearR (d := 26) hi.bdR h2 h3) (by omega) ?_
        rintro v V' b' ⟨rfl, h_, g_⟩
        subst V' b'
        refine Ev.blk 1 (B219_16 _ _ _ _ _ _ _ _ _ _ (by first | assumption | omega | decide | exact b01_in _ | exact ⟨by omega, by omega⟩)) rfl ?_
        refine Ev.ite (fun q => ?_) (fun q => ?_)
        · replace q := nd_t q
          replace q := b01_1 q
          exact absurd ⟨by assumption, by assumption⟩ hw
        · replace q := nd_f q
          replace q := b01_0 q
          refine Ev.blk 1 (B219_19 _ _ _ _ _ _ _ _ _) rfl ?_
          refine Ev.ret rfl rfl rfl (by first | rfl | exact decide_eq_true (b01_or _)) ?_
          exact ⟨rfl, hi.more (Nat.le_succ N), hI.2⟩
    · rw [hi.wears, hi.wears] at hw
      rw [hc]
      refine Ev.blk 3 (B219_0 _ _ _ _ _ _ _ _ _) rfl ?_
      refine Ev.call rfl rfl (rfl) (x_isWearR (d := 26) hi.bdR h0 h1) (by omega) ?_
      rintro v V' b' ⟨rfl, h_, g_⟩
      subst V' b'
      refine Ev.blk 1 (B219_6 _ _ _ _ _ _ _ _ _ _ (by first | assumption | omega | decide | exact b01_in _ | exact ⟨by omega, by omega⟩)) rfl ?_
      refine Ev.ite (fun q => ?_) (fun q => ?_)
      · replace q := of_decide_eq_true q
        replace q := b01_0 q
        (first | exact absurd hw.1 q | exact absurd hw.2 q)
      · replace q := of_decide_eq_false q
        replace q := b01_1 q
        refine Ev.blk 3 (B219_9 _ _ _ _ _ _ _ _ _) rfl ?_
        refine Ev.call rfl rfl (rfl) (x_isWearR (d := 26) hi.bdR h2 h3) (by omega) ?_
        rintro v V' b' ⟨rfl, h_, g_⟩
        subst V' b'
        refine Ev.blk 1 (B219_16 _ _ _ _ _ _ _ _ _ _ (by first | assumption | omega | decide | exact b01_in _ | exact ⟨by omega, by omega⟩)) rfl ?_
        refine Ev.ite (fun q => ?_) (fun q => ?_)
        · replace q := nd_t q
          replace q := b01_1 q
          refine Ev.blk 4 (B219_23 _ _ _ _ _ _ _ _ _ (by first | assumption | omega | decide | exact b01_in _ | exact ⟨by omega, by omega⟩)) rfl ?_
          refine Ev.call rfl rfl (rfl) (x_in (d := 28) ⟨by omega, by omega⟩ (by decide) (by decide)) (by omega) ?_
          rintro v V' b' ⟨rfl, h_, g_⟩
          subst V' b'
          refine Ev.blk 1 (B219_33 _ _ _ _ _ _ _ _ _ _ (by first | assumption | omega | decide | exact b01_in _ | exact ⟨by omega, by omega⟩)) rfl ?_
          refine Ev.ite (fun q => ?_) (fun q => ?_)
          · replace q := nd_t q
            replace q := b01_1 q
            exact absurd q hno
          · replace q := nd_f q
            replace q := b01_0 q
            refine Ev.blk 1 (B219_36 _ _ _ _ _ _ _ _ _) rfl ?_
            refine Ev.ret rfl rfl rfl (by first | rfl | exact decide_eq_true (b01_or _)) ?_
            exact ⟨rfl, hi.more (Nat.le_succ N), hI.2⟩
        · replace q := nd_f q
          replace q := b01_0 q
          (first | exact absurd hw.1 q | exact absurd hw.2 q)
  refine Ev.blk 6 (B40_0 _ _ _ _ _ _ _ _ _) rfl ?_
  refine Ev.call rfl rfl rfl (x_rfT (d := 26) (fun i hi2 => hi.bdC.w hi2) h0 h1 h2 h3 h4) (by omega) ?_
  rintro v V' b' ⟨rfl, h_, g_⟩
  subst V' b'
  refine Ev.blk 3 (B40_11 _ _ _ _ _ _ _ _ _ _ ⟨by omega, by omega⟩) rfl ?_
  refine Ev.ite (fun q => ?_) (fun q => ?_)
  · replace q := of_decide_eq_true q
    have hr := (rfT_c V a0 a1 a2 a3 a4).resolve_right (fun z => by rcases z with z | z <;> (have := z.1; omega))
    obtain ⟨i0, rfl⟩ : ∃ k : Nat, a0 = (k : Int) := ⟨a0.toNat, by omega⟩
    obtain ⟨w, rfl⟩ : ∃ k : Nat, a1 = (k : Int) := ⟨a1.toNat, by omega⟩
    obtain ⟨o0, rfl⟩ : ∃ k : Nat, a2 = (k : Int) := ⟨a2.toNat, by omega⟩
    obtain ⟨e, rfl⟩ : ∃ k : Nat, a3 = (k : Int) := ⟨a3.toNat, by omega⟩
    obtain ⟨dd, rfl⟩ : ∃ k : Nat, a4 = (k : Int) := ⟨a4.toNat, by omega⟩
    rw [Int.toNat_natCast, Int.toNat_natCast] at hr
    have hi3 : i0 < 3 := by omega
    have ho3 : o0 < 3 := by omega
    have hk := hi.kd i0 hi3
    have hko := hi.kd o0 ho3
    have hK : isK (14 + 15 * i0) := k_11 (i := (i0 : Int)) (by omega)
    have hKo : isK (14 + 15 * o0) := k_11 (i := (o0 : Int)) (by omega)
    obtain ⟨wn, hwn, hPK, hPR, hPB⟩ := hk.rows
    obtain ⟨wm, hwm, hPKo, hPRo, hPBo⟩ := hko.rows
    have hww := hk.w
    have hwo := hko.w
    have hwr : w < wn := by omega
    have hew : e < wm := by omega
    have h8 := hPB.2.1
    have h82 := hPBo.2.1
    have hXX := twF_bd (n := wn) (n2 := wm) hPB.2.2.1 hPB.2.2.2.1 hPBo.2.2.1 hPBo.2.2.2.1 dd (by omega) w e (by omega) (by omega)
    have hB8 := Bd8 (t := dd) (by omega)
    obtain ⟨X, hX⟩ : ∃ X : Nat, twF (fun i j => rGo V (i0 : Int) (i : Int) (j : Int)) (fun j => V 124 (8 * i0 + j)) wn (fun i j => rGo V (o0 : Int) (i : Int) (j : Int)) (fun j => V 124 (8 * o0 + j)) wm dd w e = (X : Int) := ⟨_, (Int.toNat_of_nonneg hXX.1).symm⟩
    rw [hX] at hXX
    have hF : isF 107 := by unfold isF; decide
    obtain ⟨Y, hY⟩ : ∃ Y : Nat, pw 10 (dd - 1) = (Y : Int) := ⟨(pw 10 (dd - 1)).toNat, by have := (pw10 (t := dd - 1) (by omega)).1; omega⟩
    have hYb := pw10 (t := dd - 1) (by omega)
    rw [hY] at hYb
    refine Ev.blk 11 (B40_22 _ _ _ _ _ _ _ _ _ _ (by omega) (by omega)) rfl ?_
    rw [Int.toNat_natCast, Int.toNat_natCast]
    refine Ev.call rfl rfl rfl (x_twoF (d := 27) hK hKo hPK hPB hPKo hPBo (by omega)) (by omega) ?_
    rintro v V1 b1 ⟨rfl, f1, f2, f3⟩
    refine Ev.blk 6 (B40_43 _ _ _ _ _ _ _ _ _ _) rfl ?_
    have cL : Ex L 28 128 [.inr (.inr 115), .inl (w : Int), .inl (e : Int)] V1 b1 (Ans (some (.inr (.inl (X : Int)))) V1 b1) := by
      refine Ev.blk 8 (T128_0 _ _ _ _ _ (by omega)) rfl ?_
      rw [show ((w : Int) * 8 + (e : Int)).toNat = 8 * w + e by omega, f2 w e hwr hew, hX]
      exact Ev.ret rfl rfl rfl rfl ⟨rfl, rfl, rfl⟩
    refine Ev.call rfl rfl rfl cL (by omega) ?_
    rintro v V' b' ⟨rfl, h_, g_⟩
    subst V' b'
    refine Ev.blk 4 (B40_57 _ _ _ _ _ _ _ _ _ _ _ _) rfl ?_
    rw [show (dd : Int) - 1 = ((dd - 1 : Nat) : Int) by omega]
    refine Ev.call rfl rfl rfl (x_power (d := 28) (x := 10) (t := dd - 1) (by omega)) (by omega) ?_
    rintro v V' b' ⟨rfl, h_, g_⟩
    subst V' b'
    rw [hY]
    refine Ev.call rfl rfl rfl (x_become (d := 27) (a := 107) (x := X) (y := Y) hF (by omega) (by omega) (by omega)) (by omega) ?_
    rintro v V2 b2 ⟨rfl, rfl, rfl⟩
    refine Ev.blk 3 (B40_70 _ _ _ _ _ _ _ _ _ _) rfl ?_
    refine Ev.call rfl rfl rfl (x_toldC (d := 28) hF h5) (by omega) ?_
    rintro v V3 b3 ⟨rfl, rfl, rfl⟩
    have d1 := Nat.div_le_self X (Nat.gcd X Y)
    have d2 := Nat.div_le_self Y (Nat.gcd X Y)
    have w1 : ∀ x, x ≠ 107 → x ≠ 116 → x ≠ 117 → x ≠ 118 → uV (uV V1 107 0 ((X / Nat.gcd X Y : Nat) : Int)) 107 1 ((Y / Nat.gcd X Y : Nat) : Int) x = V x := fun x n1 n2 n3 n4 => by
      rw [uV_ne n1, uV_ne n1, f1 x n2 n3 n4]
    refine Ev.ret rfl rfl rfl rfl ⟨(if a5 = 0 then ((Y / Nat.gcd X Y : Nat) : Int) else ((X / Nat.gcd X Y : Nat) : Int)), rfl, ?_, w1 0 (by omega) (by omega) (by omega) (by omega), ?_⟩
    · have nn : ∀ p : Nat, p ≤ 3000000000000000 → in64 (p : Int) := fun p hp => ⟨by omega, by omega⟩
      split
      · exact nn _ (Nat.le_trans d2 (by omega))
      · exact nn _ (Nat.le_trans d1 (by omega))
    obtain ⟨U, hU⟩ : ∃ U, U = uV (uV V1 107 0 ((X / Nat.gcd X Y : Nat) : Int)) 107 1 ((Y / Nat.gcd X Y : Nat) : Int) := ⟨_, rfl⟩
    rw [← hU] at w1 ⊢
    have hBR : BdR U := by
      have := hi.bdR
      unfold BdR at this ⊢
      rw [w1 121 (by omega) (by omega) (by omega) (by omega), w1 126 (by omega) (by omega) (by omega) (by omega)]
      exact this
    have w121 : U 121 = V 121 := w1 121 (by omega) (by omega) (by omega) (by omega)
    refine Ev.blk 3 (B219_0 _ _ _ _ _ _ _ _ _) rfl ?_
    refine Ev.call rfl rfl rfl (x_isWearR (d := 26) hBR h0 h1) (by omega) ?_
    rintro v V' b' ⟨rfl, h_, g_⟩
    subst V' b'
    refine Ev.blk 1 (B219_6 _ _ _ _ _ _ _ _ _ _ (b01_in _)) rfl ?_
    refine Ev.ite (fun z => absurd (show (0 ≤ (i0 : Int) ∧ (i0 : Int) ≤ 2) ∧ 0 ≤ (w : Int) ∧ (w : Int) ≤ U 121 i0 - 1 by rw [w121]; omega) (b01_0 (of_decide_eq_true z))) (fun _ => ?_)
    refine Ev.blk 3 (B219_9 _ _ _ _ _ _ _ _ _) rfl ?_
    refine Ev.call rfl rfl rfl (x_isWearR (d := 26) hBR h2 h3) (by omega) ?_
    rintro v V' b' ⟨rfl, h_, g_⟩
    subst V' b'
    refine Ev.blk 1 (B219_16 _ _ _ _ _ _ _ _ _ _ (b01_in _)) rfl ?_
    refine Ev.ite (fun _ => ?_) (fun z => absurd (show (0 ≤ (o0 : Int) ∧ (o0 : Int) ≤ 2) ∧ 0 ≤ (e : Int) ∧ (e : Int) ≤ U 121 o0 - 1 by rw [w121]; omega) (b01_0 (nd_f z)))
    refine Ev.blk 4 (B219_23 _ _ _ _ _ _ _ _ _ h4) rfl ?_
    refine Ev.call rfl rfl rfl (x_in (d := 28) ⟨by omega, by omega⟩ (by decide) (by decide)) (by omega) ?_
    rintro v V' b' ⟨rfl, h_, g_⟩
    subst V' b'
    refine Ev.blk 1 (B219_33 _ _ _ _ _ _ _ _ _ _ (b01_in _)) rfl ?_
    refine Ev.ite (fun _ => ?_) (fun z => absurd hr.2.2 (b01_0 (nd_f z)))
    refine Ev.blk 6 (B219_40 _ _ _ _ _ _ _ _ _) rfl ?_
    refine Ev.call rfl rfl rfl (x_layTwo (d := 26) hi3 ho3 (hPR.frame (fun x n1 n2 => w1 x (by omega) (by omega) (by omega) (by omega))) hPB (hPRo.frame (fun x n1 n2 => w1 x (by omega) (by omega) (by omega) (by omega))) hPBo (by omega) (by omega) (by omega)) (by omega) ?_
    rintro v V4 b4 ⟨rfl, rfl, g1, g2, g3⟩
    refine Ev.blk 1 (B219_51 _ _ _ _ _ _ _ _ _ _) rfl ?_
    refine Ev.call rfl rfl rfl (x_tens (d := 28) (t := dd) (by omega)) (by omega) ?_
    rintro v V' b' ⟨rfl, h_, g_⟩
    subst V' b'
    refine Ev.blk 1 (B219_56 _ _ _ _ _ _ _ _ _ _ _) rfl ?_
    have e1 : (10 : Int) * (X : Int) = ((10 * X : Nat) : Int) := by omega
    have e2 : pw 10 dd = ((10 * Y : Nat) : Int) := by
      obtain ⟨t, rfl⟩ : ∃ t, dd = t + 1 := ⟨dd - 1, by omega⟩
      show pw 10 t * 10 = _
      rw [show t + 1 - 1 = t by omega] at hY
      rw [hY]
      omega
    rw [hX, e1, e2]
    refine Ev.call rfl rfl rfl (x_toldR (d := 27) (x := 10 * X) (y := 10 * Y) (by omega) (by omega) (by omega) h5) (by omega) ?_
    rintro v V' b' ⟨rfl, h_, g_⟩
    subst V' b'
    rw [(frac10 X Y).1, (frac10 X Y).2]
    refine Ev.ret rfl rfl rfl rfl ⟨rfl, (hi.more (Nat.le_succ N)).frame (fun a ha => ?_) ?_ ?_, fun k => ?_⟩
    · unfold dI at ha
      rw [g1 a (by omega) (by omega) (by omega), w1 a (by omega) (by omega) (by omega) (by omega)]
    · rw [g2 10 (by omega), w1 120 (by omega) (by omega) (by omega) (by omega)]
    · rw [g2 37 (by omega), w1 120 (by omega) (by omega) (by omega) (by omega)]
    · rw [g1 0 (by omega) (by omega) (by omega), w1 0 (by omega) (by omega) (by omega) (by omega)]
      exact hI.2 k
  · replace q := of_decide_eq_false q
    refine Ev.blk 2 (B40_18 _ _ _ _ _ _ _ _ _ _ ⟨by omega, by omega⟩) rfl ?_
    exact Ev.ret rfl rfl rfl rfl ⟨_, rfl, ⟨by omega, by omega⟩, rfl, rest q _⟩
theorem op_whom (a0 a1 a2 a3 a4 : Int) (h0 : in32 a0) (h1 : in32 a1) (h2 : in32 a2) (h3 : in32 a3) (h4 : in32 a4) : OpI 42 221 [.inl a0, .inl a1, .inl a2, .inl a3, .inl a4] := by
  intro L N V b hL hN hI
  have hi := hI.1
  have hrc := rfT_c V a0 a1 a2 a3 a4
  have rest : rfT V a0 a1 a2 a3 a4 ≠ 0 → ∀ b1, Ex L 29 221 [.inr (.inr 120), .inl a0, .inl a1, .inl a2, .inl a3, .inl a4] V b1 (fun v2 V2 _ => v2 = some (.inl (rfT V a0 a1 a2 a3 a4)) ∧ Iv (N + 1) V2) := by
    intro hne b1
    rcases rfT_c V a0 a1 a2 a3 a4 with ⟨hc, _⟩ | ⟨hc, hw⟩ | ⟨hc, hw, hno⟩
    · exact absurd hc hne
    · rw [hi.wears, hi.wears] at hw
      rw [hc]
      refine Ev.blk 3 (B221_0 _ _ _ _ _ _ _ _) rfl ?_
      refine Ev.call rfl rfl (rfl) (x_isWearR (d := 26) hi.bdR h0 h1) (by omega) ?_
      rintro v V' b' ⟨rfl, h_, g_⟩
      subst V' b'
      refine Ev.blk 1 (B221_6 _ _ _ _ _ _ _ _ _ (by first | assumption | omega | decide | exact b01_in _ | exact ⟨by omega, by omega⟩)) rfl ?_
      refine Ev.ite (fun q => ?_) (fun q => ?_)
      · replace q := of_decide_eq_true q
        replace q := b01_0 q
        refine Ev.blk 1 (B221_19 _ _ _ _ _ _ _ _) rfl ?_
        refine Ev.ret rfl rfl rfl (by first | rfl | exact decide_eq_true (b01_or _)) ?_
        exact ⟨rfl, hi.more (Nat.le_succ N), hI.2⟩
      · replace q := of_decide_eq_false q
        replace q := b01_1 q
        refine Ev.blk 3 (B221_9 _ _ _ _ _ _ _ _) rfl ?_
        refine Ev.call rfl rfl (rfl) (x_isWearR (d := 26) hi.bdR h2 h3) (by omega) ?_
        rintro v V' b' ⟨rfl, h_, g_⟩
        subst V' b'
        refine Ev.blk 1 (B221_16 _ _ _ _ _ _ _ _ _ (by first | assumption | omega | decide | exact b01_in _ | exact ⟨by omega, by omega⟩)) rfl ?_
        refine Ev.ite (fun q => ?_) (fun q => ?_)
        · replace q := nd_t q
          replace q := b01_1 q
          exact absurd ⟨by assumption, by assumption⟩ hw
        · replace q := nd_f q
          replace q := b01_0 q
          refine Ev.blk 1 (B221_19 _ _ _ _ _ _ _ _) rfl ?_
          refine Ev.ret rfl rfl rfl (by first | rfl | exact decide_eq_true (b01_or _)) ?_
          exact ⟨rfl, hi.more (Nat.le_succ N), hI.2⟩
    · rw [hi.wears, hi.wears] at hw
      rw [hc]
      refine Ev.blk 3 (B221_0 _ _ _ _ _ _ _ _) rfl ?_
      refine Ev.call rfl rfl (rfl) (x_isWearR (d := 26) hi.bdR h0 h1) (by omega) ?_
      rintro v V' b' ⟨rfl, h_, g_⟩
      subst V' b'
      refine Ev.blk 1 (B221_6 _ _ _ _ _ _ _ _ _ (by first | assumption | omega | decide | exact b01_in _ | exact ⟨by omega, by omega⟩)) rfl ?_
      refine Ev.ite (fun q => ?_) (fun q => ?_)
      · replace q := of_decide_eq_true q
        replace q := b01_0 q
        (first | exact absurd hw.1 q | exact absurd hw.2 q)
      · replace q := of_decide_eq_false q
        replace q := b01_1 q
        refine Ev.blk 3 (B221_9 _ _ _ _ _ _ _ _) rfl ?_
        refine Ev.call rfl rfl (rfl) (x_isWearR (d := 26) hi.bdR h2 h3) (by omega) ?_
        rintro v V' b' ⟨rfl, h_, g_⟩
        subst V' b'
        refine Ev.blk 1 (B221_16 _ _ _ _ _ _ _ _ _ (by first | assumption | omega | decide | exact b01_in _ | exact ⟨by omega, by omega⟩)) rfl ?_
        refine Ev.ite (fun q => ?_) (fun q => ?_)
        · replace q := nd_t q
          replace q := b01_1 q
          refine Ev.blk 4 (B221_21 _ _ _ _ _ _ _ _ (by first | assumption | omega | decide | exact b01_in _ | exact ⟨by omega, by omega⟩)) rfl ?_
          refine Ev.call rfl rfl (rfl) (x_in (d := 28) ⟨by omega, by omega⟩ (by decide) (by decide)) (by omega) ?_
          rintro v V' b' ⟨rfl, h_, g_⟩
          subst V' b'
          refine Ev.blk 1 (B221_31 _ _ _ _ _ _ _ _ _ (by first | assumption | omega | decide | exact b01_in _ | exact ⟨by omega, by omega⟩)) rfl ?_
          refine Ev.ite (fun q => ?_) (fun q => ?_)
          · replace q := nd_t q
            replace q := b01_1 q
            exact absurd q hno
          · replace q := nd_f q
            replace q := b01_0 q
            refine Ev.blk 1 (B221_34 _ _ _ _ _ _ _ _) rfl ?_
            refine Ev.ret rfl rfl rfl (by first | rfl | exact decide_eq_true (b01_or _)) ?_
            exact ⟨rfl, hi.more (Nat.le_succ N), hI.2⟩
        · replace q := nd_f q
          replace q := b01_0 q
          (first | exact absurd hw.1 q | exact absurd hw.2 q)
  refine Ev.blk 6 (B42_0 _ _ _ _ _ _ _ _) rfl ?_
  refine Ev.call rfl rfl rfl (x_rfT (d := 26) (fun i hi2 => hi.bdC.w hi2) h0 h1 h2 h3 h4) (by omega) ?_
  rintro v V' b' ⟨rfl, h_, g_⟩
  subst V' b'
  refine Ev.blk 3 (B42_11 _ _ _ _ _ _ _ _ _ ⟨by omega, by omega⟩) rfl ?_
  refine Ev.ite (fun q => ?_) (fun q => ?_)
  · replace q := of_decide_eq_true q
    have hr := (rfT_c V a0 a1 a2 a3 a4).resolve_right (fun z => by rcases z with z | z <;> (have := z.1; omega))
    obtain ⟨i0, rfl⟩ : ∃ k : Nat, a0 = (k : Int) := ⟨a0.toNat, by omega⟩
    obtain ⟨w, rfl⟩ : ∃ k : Nat, a1 = (k : Int) := ⟨a1.toNat, by omega⟩
    obtain ⟨o0, rfl⟩ : ∃ k : Nat, a2 = (k : Int) := ⟨a2.toNat, by omega⟩
    obtain ⟨e, rfl⟩ : ∃ k : Nat, a3 = (k : Int) := ⟨a3.toNat, by omega⟩
    obtain ⟨dd, rfl⟩ : ∃ k : Nat, a4 = (k : Int) := ⟨a4.toNat, by omega⟩
    rw [Int.toNat_natCast, Int.toNat_natCast] at hr
    have hi3 : i0 < 3 := by omega
    have ho3 : o0 < 3 := by omega
    have hk := hi.kd i0 hi3
    have hko := hi.kd o0 ho3
    have hK : isK (14 + 15 * i0) := k_11 (i := (i0 : Int)) (by omega)
    have hKo : isK (14 + 15 * o0) := k_11 (i := (o0 : Int)) (by omega)
    obtain ⟨wn, hwn, hPK, hPR, hPB⟩ := hk.rows
    obtain ⟨wm, hwm, hPKo, hPRo, hPBo⟩ := hko.rows
    have hww := hk.w
    have hwo := hko.w
    have hwr : w < wn := by omega
    have hew : e < wm := by omega
    have h8 := hPB.2.1
    have h82 := hPBo.2.1
    have hXX := twF_bd (n := wn) (n2 := wm) hPB.2.2.1 hPB.2.2.2.1 hPBo.2.2.1 hPBo.2.2.2.1 dd (by omega) w e (by omega) (by omega)
    have hB8 := Bd8 (t := dd) (by omega)
    obtain ⟨X, hX⟩ : ∃ X : Nat, twF (fun i j => rGo V (i0 : Int) (i : Int) (j : Int)) (fun j => V 124 (8 * i0 + j)) wn (fun i j => rGo V (o0 : Int) (i : Int) (j : Int)) (fun j => V 124 (8 * o0 + j)) wm dd w e = (X : Int) := ⟨_, (Int.toNat_of_nonneg hXX.1).symm⟩
    rw [hX] at hXX
    refine Ev.blk 11 (B42_21 _ _ _ _ _ _ _ _ _ (by omega) (by omega)) rfl ?_
    rw [Int.toNat_natCast, Int.toNat_natCast]
    refine Ev.call rfl rfl rfl (x_twoF (d := 27) hK hKo hPK hPB hPKo hPBo (by omega)) (by omega) ?_
    rintro v V1 b1 ⟨rfl, f1, f2, f3⟩
    refine Ev.blk 4 (B42_42 _ _ _ _ _ _ _ _ _) rfl ?_
    have cL : Ex L 28 129 [.inr (.inr 115), .inl (w : Int), .inl (e : Int)] V1 b1 (Ans (some (.inl (twR (fun i j => rGo V (i0 : Int) (i : Int) (j : Int)) (fun j => V 124 (8 * i0 + j)) wn (fun i j => rGo V (o0 : Int) (i : Int) (j : Int)) (fun j => V 124 (8 * o0 + j)) wm (dd - 1) w e))) V1 b1) := by
      refine Ev.blk 8 (B129_0 _ _ _ _ _ (by omega)) rfl ?_
      rw [show ((w : Int) * 8 + (e : Int)).toNat = 8 * w + e by omega, f3 w e hwr hew]
      exact Ev.ret rfl rfl rfl rfl ⟨rfl, rfl, rfl⟩
    refine Ev.call rfl rfl rfl cL (by omega) ?_
    rintro v V' b' ⟨rfl, h_, g_⟩
    subst V' b'
    have hact : 0 ≤ twR (fun i j => rGo V (i0 : Int) (i : Int) (j : Int)) (fun j => V 124 (8 * i0 + j)) wn (fun i j => rGo V (o0 : Int) (i : Int) (j : Int)) (fun j => V 124 (8 * o0 + j)) wm (dd - 1) w e ∧ twR (fun i j => rGo V (i0 : Int) (i : Int) (j : Int)) (fun j => V 124 (8 * i0 + j)) wn (fun i j => rGo V (o0 : Int) (i : Int) (j : Int)) (fun j => V 124 (8 * o0 + j)) wm (dd - 1) w e ≤ 1 := by
      unfold twR
      split <;> omega
    refine Ev.ret rfl rfl rfl rfl ⟨_, rfl, ⟨by omega, by omega⟩, f1 0 (by omega) (by omega) (by omega), ?_⟩
    have hBR : BdR V1 := by
      have := hi.bdR
      unfold BdR at this ⊢
      rw [f1 121 (by omega) (by omega) (by omega), f1 126 (by omega) (by omega) (by omega)]
      exact this
    have w121 : V1 121 = V 121 := f1 121 (by omega) (by omega) (by omega)
    refine Ev.blk 3 (B221_0 _ _ _ _ _ _ _ _) rfl ?_
    refine Ev.call rfl rfl rfl (x_isWearR (d := 26) hBR h0 h1) (by omega) ?_
    rintro v V' b' ⟨rfl, h_, g_⟩
    subst V' b'
    refine Ev.blk 1 (B221_6 _ _ _ _ _ _ _ _ _ (b01_in _)) rfl ?_
    refine Ev.ite (fun z => absurd (show (0 ≤ (i0 : Int) ∧ (i0 : Int) ≤ 2) ∧ 0 ≤ (w : Int) ∧ (w : Int) ≤ V1 121 i0 - 1 by rw [w121]; omega) (b01_0 (of_decide_eq_true z))) (fun _ => ?_)
    refine Ev.blk 3 (B221_9 _ _ _ _ _ _ _ _) rfl ?_
    refine Ev.call rfl rfl rfl (x_isWearR (d := 26) hBR h2 h3) (by omega) ?_
    rintro v V' b' ⟨rfl, h_, g_⟩
    subst V' b'
    refine Ev.blk 1 (B221_16 _ _ _ _ _ _ _ _ _ (b01_in _)) rfl ?_
    refine Ev.ite (fun _ => ?_) (fun z => absurd (show (0 ≤ (o0 : Int) ∧ (o0 : Int) ≤ 2) ∧ 0 ≤ (e : Int) ∧ (e : Int) ≤ V1 121 o0 - 1 by rw [w121]; omega) (b01_0 (nd_f z)))
    refine Ev.blk 4 (B221_21 _ _ _ _ _ _ _ _ h4) rfl ?_
    refine Ev.call rfl rfl rfl (x_in (d := 28) ⟨by omega, by omega⟩ (by decide) (by decide)) (by omega) ?_
    rintro v V' b' ⟨rfl, h_, g_⟩
    subst V' b'
    refine Ev.blk 1 (B221_31 _ _ _ _ _ _ _ _ _ (b01_in _)) rfl ?_
    refine Ev.ite (fun _ => ?_) (fun z => absurd hr.2.2 (b01_0 (nd_f z)))
    refine Ev.blk 6 (B221_37 _ _ _ _ _ _ _ _) rfl ?_
    refine Ev.call rfl rfl rfl (x_layTwo (d := 26) hi3 ho3 (hPR.frame (fun x n1 n2 => f1 x (by omega) (by omega) (by omega))) hPB (hPRo.frame (fun x n1 n2 => f1 x (by omega) (by omega) (by omega))) hPBo (by omega) (by omega) (by omega)) (by omega) ?_
    rintro v V4 b4 ⟨rfl, rfl, g1, g2, g3⟩
    refine Ev.blk 3 (B221_48 _ _ _ _ _ _ _ _ _) rfl ?_
    rw [g3]
    refine Ev.ret rfl rfl rfl rfl ⟨rfl, (hi.more (Nat.le_succ N)).frame (fun a ha => ?_) ?_ ?_, fun k => ?_⟩
    · unfold dI at ha
      rw [g1 a (by omega) (by omega) (by omega), f1 a (by omega) (by omega) (by omega)]
    · rw [g2 10 (by omega), f1 120 (by omega) (by omega) (by omega)]
    · rw [g2 37 (by omega), f1 120 (by omega) (by omega) (by omega)]
    · rw [g1 0 (by omega) (by omega) (by omega), f1 0 (by omega) (by omega) (by omega)]
      exact hI.2 k
  · replace q := of_decide_eq_false q
    refine Ev.blk 1 (B42_18 _ _ _ _ _ _ _ _ _) rfl ?_
    exact Ev.ret rfl rfl rfl rfl ⟨_, rfl, ⟨by omega, by omega⟩, rfl, rest q _⟩
