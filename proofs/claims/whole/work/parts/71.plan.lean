/-! the 38 calls: plan, planAct (specs29.py) -/
def rfP (V : Mv) (m w dd p f : Int) : Int := if (0 ≤ m ∧ m < 3) ∧ 0 ≤ w ∧ w < V (14 + 15 * m.toNat) 0 then (if (1 ≤ dd ∧ dd ≤ 8) ∧ (1 ≤ p ∧ p ≤ 8) ∧ 0 ≤ f ∧ f ≤ 9 then 0 else -2) else -1
theorem x_rfP {L d : Nat} {V : Mv} {b : Bool} {m w dd p f : Int} (hk : ∀ i : Int, 0 ≤ i ∧ i < 3 → in32 (V (14 + 15 * i.toNat) 0)) (h0 : in32 m) (h1 : in32 w) (h2 : in32 dd) (h3 : in32 p) (h4 : in32 f) : Ex L (d + 2) 35 [.inr (.inr 1), .inl m, .inl w, .inl dd, .inl p, .inl f] V b (Ans (some (.inl (rfP V m w dd p f))) V b) := by
  refine Ev.blk 3 (B35_0 _ _ _ _ _ _ _ _) rfl ?_
  refine Ev.call rfl rfl (rfl) (x_isWearC (d := d) h0 h1 hk) (by omega) ?_
  rintro v V' b' ⟨rfl, rfl, rfl⟩
  refine Ev.blk 1 (B35_6 _ _ _ _ _ _ _ _ _ (by first | assumption | omega | decide | exact b01_in _ | exact ⟨by omega, by omega⟩)) rfl ?_
  refine Ev.ite (fun q => ?_) (fun q => ?_)
  · replace q := nd_t q
    replace q := b01_1 q
    refine Ev.blk 3 (B35_11 _ _ _ _ _ _ _ _ (by first | assumption | omega | decide | exact b01_in _ | exact ⟨by omega, by omega⟩)) rfl ?_
    refine Ev.ite (fun q => ?_) (fun q => ?_)
    · replace q := of_decide_eq_true q
      refine Ev.blk 1 (B35_51 _ _ _ _ _ _ _ _) rfl ?_
      refine Ev.blk 3 (B35_52 _ _ _ _ _ _ _ _ _ (by decide)) rfl ?_
      refine Ev.ite (fun _ => ?_) (fun z => absurd z (by decide))
      refine Ev.blk 1 (B35_63 _ _ _ _ _ _ _ _ _) rfl ?_
      refine Ev.ret rfl rfl rfl rfl ?_
      refine ⟨?_, rfl, rfl⟩
      congr 2
      unfold rfP
      repeat (first | rw [if_pos (by omega)] | rw [if_neg (by omega)])
    · replace q := of_decide_eq_false q
      refine Ev.blk 3 (B35_16 _ _ _ _ _ _ _ _ (by first | assumption | omega | decide | exact b01_in _ | exact ⟨by omega, by omega⟩)) rfl ?_
      refine Ev.ite (fun q => ?_) (fun q => ?_)
      · replace q := of_decide_eq_true q
        refine Ev.blk 1 (B35_51 _ _ _ _ _ _ _ _) rfl ?_
        refine Ev.blk 3 (B35_52 _ _ _ _ _ _ _ _ _ (by decide)) rfl ?_
        refine Ev.ite (fun _ => ?_) (fun z => absurd z (by decide))
        refine Ev.blk 1 (B35_63 _ _ _ _ _ _ _ _ _) rfl ?_
        refine Ev.ret rfl rfl rfl rfl ?_
        refine ⟨?_, rfl, rfl⟩
        congr 2
        unfold rfP
        repeat (first | rw [if_pos (by omega)] | rw [if_neg (by omega)])
      · replace q := of_decide_eq_false q
        refine Ev.blk 3 (B35_22 _ _ _ _ _ _ _ _ (by first | assumption | omega | decide | exact b01_in _ | exact ⟨by omega, by omega⟩)) rfl ?_
        refine Ev.ite (fun q => ?_) (fun q => ?_)
        · replace q := of_decide_eq_true q
          refine Ev.blk 1 (B35_51 _ _ _ _ _ _ _ _) rfl ?_
          refine Ev.blk 3 (B35_52 _ _ _ _ _ _ _ _ _ (by decide)) rfl ?_
          refine Ev.ite (fun _ => ?_) (fun z => absurd z (by decide))
          refine Ev.blk 1 (B35_63 _ _ _ _ _ _ _ _ _) rfl ?_
          refine Ev.ret rfl rfl rfl rfl ?_
          refine ⟨?_, rfl, rfl⟩
          congr 2
          unfold rfP
          repeat (first | rw [if_pos (by omega)] | rw [if_neg (by omega)])
        · replace q := of_decide_eq_false q
          refine Ev.blk 3 (B35_28 _ _ _ _ _ _ _ _ (by first | assumption | omega | decide | exact b01_in _ | exact ⟨by omega, by omega⟩)) rfl ?_
          refine Ev.ite (fun q => ?_) (fun q => ?_)
          · replace q := of_decide_eq_true q
            refine Ev.blk 1 (B35_51 _ _ _ _ _ _ _ _) rfl ?_
            refine Ev.blk 3 (B35_52 _ _ _ _ _ _ _ _ _ (by decide)) rfl ?_
            refine Ev.ite (fun _ => ?_) (fun z => absurd z (by decide))
            refine Ev.blk 1 (B35_63 _ _ _ _ _ _ _ _ _) rfl ?_
            refine Ev.ret rfl rfl rfl rfl ?_
            refine ⟨?_, rfl, rfl⟩
            congr 2
            unfold rfP
            repeat (first | rw [if_pos (by omega)] | rw [if_neg (by omega)])
          · replace q := of_decide_eq_false q
            refine Ev.blk 2 (B35_35 _ _ _ _ _ _ _ _ (by first | assumption | omega | decide | exact b01_in _ | exact ⟨by omega, by omega⟩)) rfl ?_
            refine Ev.ite (fun q => ?_) (fun q => ?_)
            · replace q := of_decide_eq_true q
              refine Ev.blk 1 (B35_51 _ _ _ _ _ _ _ _) rfl ?_
              refine Ev.blk 3 (B35_52 _ _ _ _ _ _ _ _ _ (by decide)) rfl ?_
              refine Ev.ite (fun _ => ?_) (fun z => absurd z (by decide))
              refine Ev.blk 1 (B35_63 _ _ _ _ _ _ _ _ _) rfl ?_
              refine Ev.ret rfl rfl rfl rfl ?_
              refine ⟨?_, rfl, rfl⟩
              congr 2
              unfold rfP
              repeat (first | rw [if_pos (by omega)] | rw [if_neg (by omega)])
            · replace q := of_decide_eq_false q
              refine Ev.blk 3 (B35_40 _ _ _ _ _ _ _ _ (by first | assumption | omega | decide | exact b01_in _ | exact ⟨by omega, by omega⟩)) rfl ?_
              refine Ev.ite (fun q => ?_) (fun q => ?_)
              · replace q := of_decide_eq_true q
                refine Ev.blk 1 (B35_51 _ _ _ _ _ _ _ _) rfl ?_
                refine Ev.blk 3 (B35_52 _ _ _ _ _ _ _ _ _ (by decide)) rfl ?_
                refine Ev.ite (fun _ => ?_) (fun z => absurd z (by decide))
                refine Ev.blk 1 (B35_63 _ _ _ _ _ _ _ _ _) rfl ?_
                refine Ev.ret rfl rfl rfl rfl ?_
                refine ⟨?_, rfl, rfl⟩
                congr 2
                unfold rfP
                repeat (first | rw [if_pos (by omega)] | rw [if_neg (by omega)])
              · replace q := of_decide_eq_false q
                refine Ev.blk 2 (B35_47 _ _ _ _ _ _ _ _) rfl ?_
                refine Ev.blk 3 (B35_52 _ _ _ _ _ _ _ _ _ (by decide)) rfl ?_
                refine Ev.ite (fun z => absurd z (by decide)) (fun _ => ?_)
                refine Ev.blk 2 (B35_59 _ _ _ _ _ _ _ _ _) rfl ?_
                refine Ev.ret rfl rfl rfl rfl ?_
                refine ⟨?_, rfl, rfl⟩
                congr 2
                unfold rfP
                repeat (first | rw [if_pos (by omega)] | rw [if_neg (by omega)])
  · replace q := nd_f q
    replace q := b01_0 q
    refine Ev.blk 1 (B35_9 _ _ _ _ _ _ _ _) rfl ?_
    refine Ev.ret rfl rfl rfl (by first | rfl | exact decide_eq_true (b01_or _)) ?_
    refine ⟨?_, rfl, rfl⟩
    congr 2
    unfold rfP
    repeat (first | rw [if_pos (by omega)] | rw [if_neg (by omega)])

theorem x_isPlan {L d : Nat} {V : Mv} {b : Bool} {dd p f : Int} (h2 : in32 dd) (h3 : in32 p) (h4 : in32 f) : Ex L (d + 1) 196 [.inl dd, .inl p, .inl f] V b (Ans (some (.inl (b01 ((1 ≤ dd ∧ dd ≤ 8) ∧ (1 ≤ p ∧ p ≤ 8) ∧ 0 ≤ f ∧ f ≤ 9)))) V b) := by
  refine Ev.blk 4 (B196_0 _ _ _ _ _ _ (by first | assumption | omega | decide | exact b01_in _ | exact ⟨by omega, by omega⟩)) rfl ?_
  refine Ev.call rfl rfl (rfl) (x_in (d := d) ⟨by omega, by omega⟩ (by decide) (by decide)) (by omega) ?_
  rintro v V' b' ⟨rfl, rfl, rfl⟩
  refine Ev.blk 1 (B196_9 _ _ _ _ _ _ _ (by first | assumption | omega | decide | exact b01_in _ | exact ⟨by omega, by omega⟩)) rfl ?_
  refine Ev.ite (fun q => ?_) (fun q => ?_)
  · replace q := of_decide_eq_true q
    replace q := b01_0 q
    refine Ev.blk 1 (B196_40 _ _ _ _ _ _) rfl ?_
    refine Ev.ret rfl rfl rfl (by first | rfl | exact decide_eq_true (b01_or _)) ?_
    refine ⟨?_, rfl, rfl⟩
    congr 2
    unfold b01
    repeat (first | rw [if_pos (by omega)] | rw [if_neg (by omega)])
  · replace q := of_decide_eq_false q
    replace q := b01_1 q
    refine Ev.blk 4 (B196_12 _ _ _ _ _ _ (by first | assumption | omega | decide | exact b01_in _ | exact ⟨by omega, by omega⟩)) rfl ?_
    refine Ev.call rfl rfl (rfl) (x_in (d := d) ⟨by omega, by omega⟩ (by decide) (by decide)) (by omega) ?_
    rintro v V' b' ⟨rfl, rfl, rfl⟩
    refine Ev.blk 1 (B196_21 _ _ _ _ _ _ _ (by first | assumption | omega | decide | exact b01_in _ | exact ⟨by omega, by omega⟩)) rfl ?_
    refine Ev.ite (fun q => ?_) (fun q => ?_)
    · replace q := of_decide_eq_true q
      replace q := b01_0 q
      refine Ev.blk 1 (B196_40 _ _ _ _ _ _) rfl ?_
      refine Ev.ret rfl rfl rfl (by first | rfl | exact decide_eq_true (b01_or _)) ?_
      refine ⟨?_, rfl, rfl⟩
      congr 2
      unfold b01
      repeat (first | rw [if_pos (by omega)] | rw [if_neg (by omega)])
    · replace q := of_decide_eq_false q
      replace q := b01_1 q
      refine Ev.blk 4 (B196_24 _ _ _ _ _ _ (by first | assumption | omega | decide | exact b01_in _ | exact ⟨by omega, by omega⟩)) rfl ?_
      refine Ev.call rfl rfl (rfl) (x_in (d := d) ⟨by omega, by omega⟩ (by decide) (by decide)) (by omega) ?_
      rintro v V' b' ⟨rfl, rfl, rfl⟩
      refine Ev.blk 1 (B196_33 _ _ _ _ _ _ _ (by first | assumption | omega | decide | exact b01_in _ | exact ⟨by omega, by omega⟩)) rfl ?_
      refine Ev.ite (fun q => ?_) (fun q => ?_)
      · replace q := of_decide_eq_true q
        replace q := b01_0 q
        refine Ev.blk 1 (B196_40 _ _ _ _ _ _) rfl ?_
        refine Ev.ret rfl rfl rfl (by first | rfl | exact decide_eq_true (b01_or _)) ?_
        refine ⟨?_, rfl, rfl⟩
        congr 2
        unfold b01
        repeat (first | rw [if_pos (by omega)] | rw [if_neg (by omega)])
      · replace q := of_decide_eq_false q
        replace q := b01_1 q
        refine Ev.blk 2 (B196_36 _ _ _ _ _ _) rfl ?_
        refine Ev.ret rfl rfl rfl (by first | rfl | exact decide_eq_true (b01_or _)) ?_
        refine ⟨?_, rfl, rfl⟩
        congr 2
        unfold b01
        repeat (first | rw [if_pos (by omega)] | rw [if_neg (by omega)])

theorem tens_lp {L d : Nat} {V : Mv} {b : Bool} {Q : Option AV → Mv → Bool → Prop} {t : Nat} (ht : t ≤ 8) (hQ : Q (some (.inr (.inl (pw 10 t)))) V b) : ∀ n k : Nat, k + n = t → Ev L (d) 199 4 [some (.inl (t : Int)), some (.inr (.inl (pw 10 k))), none, some (.inl (k : Int))] [] V b Q
  | 0, k, h => by
    obtain rfl : k = t := by omega
    refine Ev.blk 3 (B199_4 _ _ _ _ _ _ (by first | assumption | omega | decide | exact cmpI_in _ _ | exact ⟨by omega, by omega⟩) (by first | assumption | omega | decide | exact cmpI_in _ _ | exact ⟨by omega, by omega⟩)) rfl ?_
    refine Ev.ite (fun q => ?_) (fun q => ?_)
    · replace q := of_decide_eq_true q
      exact Ev.blk 1 (B199_21 _ _ _ _ _ _) rfl (Ev.ret rfl rfl rfl rfl hQ)
    · replace q := of_decide_eq_false q
      exact absurd q (by omega)
  | n + 1, k, h => by
    have ih := tens_lp (L := L) (d := d) ht hQ n (k + 1) (by omega)
    refine Ev.blk 3 (B199_4 _ _ _ _ _ _ (by first | assumption | omega | decide | exact cmpI_in _ _ | exact ⟨by omega, by omega⟩) (by first | assumption | omega | decide | exact cmpI_in _ _ | exact ⟨by omega, by omega⟩)) rfl ?_
    refine Ev.ite (fun q => ?_) (fun q => ?_)
    · replace q := of_decide_eq_true q
      exact absurd q (by omega)
    · replace q := of_decide_eq_false q
      refine Ev.blk 6 (B199_9 _ _ _ _ _ _) rfl ?_
      exact ih

theorem x_tens {L d : Nat} {V : Mv} {b : Bool} {t : Nat} (ht : t ≤ 8) : Ex L d 199 [.inl (t : Int)] V b (Ans (some (.inr (.inl (pw 10 t)))) V b) := by
  refine Ev.blk 4 (B199_0 _ _ _ _) rfl ?_
  exact tens_lp ht ⟨rfl, rfl, rfl⟩ t 0 (by omega)
theorem frac10 (x y : Nat) : 10 * x / Nat.gcd (10 * x) (10 * y) = x / Nat.gcd x y ∧ 10 * y / Nat.gcd (10 * x) (10 * y) = y / Nat.gcd x y := by
  rw [Nat.gcd_mul_left]
  exact ⟨Nat.mul_div_mul_left _ _ (by omega), Nat.mul_div_mul_left _ _ (by omega)⟩
theorem rfP_0 {V : Mv} {m w dd p f : Int} (h : rfP V m w dd p f = 0) : ((0 ≤ m ∧ m < 3) ∧ 0 ≤ w ∧ w < V (14 + 15 * m.toNat) 0) ∧ (1 ≤ dd ∧ dd ≤ 8) ∧ (1 ≤ p ∧ p ≤ 8) ∧ 0 ≤ f ∧ f ≤ 9 := by
  unfold rfP at h
  split at h
  · split at h
    · exact ⟨by assumption, by assumption⟩
    · exact absurd h (by decide)
  · exact absurd h (by decide)
theorem rfP_c (V : Mv) (m w dd p f : Int) : rfP V m w dd p f = 0 ∨ (rfP V m w dd p f = -1 ∧ ¬ ((0 ≤ m ∧ m < 3) ∧ 0 ≤ w ∧ w < V (14 + 15 * m.toNat) 0)) ∨ (rfP V m w dd p f = -2 ∧ ((0 ≤ m ∧ m < 3) ∧ 0 ≤ w ∧ w < V (14 + 15 * m.toNat) 0) ∧ ¬ ((1 ≤ dd ∧ dd ≤ 8) ∧ (1 ≤ p ∧ p ≤ 8) ∧ 0 ≤ f ∧ f ≤ 9)) := by
  unfold rfP
  split
  · split
    · exact Or.inl rfl
    · exact Or.inr (Or.inr ⟨rfl, by assumption, by assumption⟩)
  · exact Or.inr (Or.inl ⟨rfl, by assumption⟩)
/-- a wear of a machine, by the class's word and by the reference's -/
theorem Inv.wears {N : Nat} {V : Mv} (hi : Inv N V) {m w : Int} : ((0 ≤ m ∧ m < 3) ∧ 0 ≤ w ∧ w < V (14 + 15 * m.toNat) 0) ↔ ((0 ≤ m ∧ m ≤ 2) ∧ 0 ≤ w ∧ w ≤ V 121 m.toNat - 1) := by
  constructor
  · intro h
    have e := (hi.kd m.toNat (by omega)).w
    omega
  · intro h
    have e := (hi.kd m.toNat (by omega)).w
    omega
theorem op_plan (a0 a1 a2 a3 a4 a5 : Int) (h0 : in32 a0) (h1 : in32 a1) (h2 : in32 a2) (h3 : in32 a3) (h4 : in32 a4) (h5 : a5 = 0 ∨ a5 = 1) : OpJ 34 195 [.inl a0, .inl a1, .inl a2, .inl a3, .inl a4, .inl a5] := by
  intro L N V b hL hN hI
  have hi := hI.1
  have hrc := rfP_c V a0 a1 a2 a3 a4
  have rest : rfP V a0 a1 a2 a3 a4 ≠ 0 → ∀ b1, Ex L 29 195 [.inr (.inr 120), .inl a0, .inl a1, .inl a2, .inl a3, .inl a4, .inl a5] V b1 (fun v2 V2 _ => v2 = some (.inr (.inl (rfP V a0 a1 a2 a3 a4))) ∧ Iv (N + 1) V2) := by
    intro hne b1
    rcases rfP_c V a0 a1 a2 a3 a4 with hc | ⟨hc, hw⟩ | ⟨hc, hw, hno⟩
    · exact absurd hc hne
    · rw [hi.wears] at hw
      rw [hc]
      refine Ev.blk 3 (B195_0 _ _ _ _ _ _ _ _ _) rfl ?_
      refine Ev.call rfl rfl (rfl) (x_isWearR (d := 26) hi.bdR h0 h1) (by omega) ?_
      rintro v V' b' ⟨rfl, h_, g_⟩
      subst V' b'
      refine Ev.blk 1 (B195_6 _ _ _ _ _ _ _ _ _ _ (by first | assumption | omega | decide | exact b01_in _ | exact ⟨by omega, by omega⟩)) rfl ?_
      refine Ev.ite (fun q => ?_) (fun q => ?_)
      · replace q := nd_t q
        replace q := b01_1 q
        exact absurd q hw
      · replace q := nd_f q
        replace q := b01_0 q
        refine Ev.blk 1 (B195_9 _ _ _ _ _ _ _ _ _) rfl ?_
        refine Ev.ret rfl rfl rfl (by first | rfl | exact decide_eq_true (b01_or _)) ?_
        exact ⟨rfl, hi.more (Nat.le_succ N), hI.2⟩
    · rw [hi.wears] at hw
      rw [hc]
      refine Ev.blk 3 (B195_0 _ _ _ _ _ _ _ _ _) rfl ?_
      refine Ev.call rfl rfl (rfl) (x_isWearR (d := 26) hi.bdR h0 h1) (by omega) ?_
      rintro v V' b' ⟨rfl, h_, g_⟩
      subst V' b'
      refine Ev.blk 1 (B195_6 _ _ _ _ _ _ _ _ _ _ (by first | assumption | omega | decide | exact b01_in _ | exact ⟨by omega, by omega⟩)) rfl ?_
      refine Ev.ite (fun q => ?_) (fun q => ?_)
      · replace q := nd_t q
        replace q := b01_1 q
        refine Ev.blk 3 (B195_13 _ _ _ _ _ _ _ _ _) rfl ?_
        refine Ev.call rfl rfl (rfl) (x_isPlan (d := 27) h2 h3 h4) (by omega) ?_
        rintro v V' b' ⟨rfl, h_, g_⟩
        subst V' b'
        refine Ev.blk 1 (B195_21 _ _ _ _ _ _ _ _ _ _ (by first | assumption | omega | decide | exact b01_in _ | exact ⟨by omega, by omega⟩)) rfl ?_
        refine Ev.ite (fun q => ?_) (fun q => ?_)
        · replace q := nd_t q
          replace q := b01_1 q
          exact absurd q hno
        · replace q := nd_f q
          replace q := b01_0 q
          refine Ev.blk 1 (B195_24 _ _ _ _ _ _ _ _ _) rfl ?_
          refine Ev.ret rfl rfl rfl (by first | rfl | exact decide_eq_true (b01_or _)) ?_
          exact ⟨rfl, hi.more (Nat.le_succ N), hI.2⟩
      · replace q := nd_f q
        replace q := b01_0 q
        exact absurd hw q
  refine Ev.blk 6 (B34_0 _ _ _ _ _ _ _ _ _) rfl ?_
  refine Ev.call rfl rfl rfl (x_rfP (d := 26) (fun i hi2 => hi.bdC.w hi2) h0 h1 h2 h3 h4) (by omega) ?_
  rintro v V' b' ⟨rfl, h_, g_⟩
  subst V' b'
  refine Ev.blk 3 (B34_11 _ _ _ _ _ _ _ _ _ _ ⟨by omega, by omega⟩) rfl ?_
  refine Ev.ite (fun q => ?_) (fun q => ?_)
  · replace q := of_decide_eq_true q
    have hr := rfP_0 q
    obtain ⟨i0, rfl⟩ : ∃ k : Nat, a0 = (k : Int) := ⟨a0.toNat, by omega⟩
    obtain ⟨w, rfl⟩ : ∃ k : Nat, a1 = (k : Int) := ⟨a1.toNat, by omega⟩
    obtain ⟨dd, rfl⟩ : ∃ k : Nat, a2 = (k : Int) := ⟨a2.toNat, by omega⟩
    obtain ⟨p, rfl⟩ : ∃ k : Nat, a3 = (k : Int) := ⟨a3.toNat, by omega⟩
    rw [Int.toNat_natCast] at hr
    have hi3 : i0 < 3 := by omega
    have hk := hi.kd i0 hi3
    have hK : isK (14 + 15 * i0) := k_11 (i := (i0 : Int)) (by omega)
    obtain ⟨wn, hwn, hPK, hPR, hPB⟩ := hk.rows
    have hww := hk.w
    have hwr : w < wn := by omega
    have hmw' : ∀ j, j < 4 → (fun j => V 126 (4 * i0 + j)) j = -9 ∨ 0 ≤ (fun j => V 126 (4 * i0 + j)) j ∧ (fun j => V 126 (4 * i0 + j)) j < (wn : Int) := fun j hj => by
      have h := hPB.2.2.2.2.1 j hj
      dsimp only at h ⊢
      omega
    obtain ⟨X, hX⟩ : ∃ X : Nat, plA (fun i j => rGo V (i0 : Int) (i : Int) (j : Int)) (fun j => V 124 (8 * i0 + j)) (fun j => V 126 (4 * i0 + j)) (fun j => V 127 (4 * i0 + j)) wn dd p a4 dd w = (X : Int) := by
      have h1 := (plA_bd (G := fun i j => rGo V (i0 : Int) (i : Int) (j : Int)) (co := fun j => V 124 (8 * i0 + j)) (mw := fun j => V 126 (4 * i0 + j)) (mc := fun j => V 127 (4 * i0 + j)) (n := wn) (f := a4) (d := dd) (p := p) hPB.2.2.1 hPB.2.2.2.1 hmw' hPB.2.2.2.2.2 hPB.2.1 (by omega) dd (by omega) w hwr).1
      exact ⟨_, (Int.toNat_of_nonneg h1).symm⟩
    have hXb : X ≤ 3000000000000000 := by
      have h1 := (plA_bd (G := fun i j => rGo V (i0 : Int) (i : Int) (j : Int)) (co := fun j => V 124 (8 * i0 + j)) (mw := fun j => V 126 (4 * i0 + j)) (mc := fun j => V 127 (4 * i0 + j)) (n := wn) (f := a4) (d := dd) (p := p) hPB.2.2.1 hPB.2.2.2.1 hmw' hPB.2.2.2.2.2 hPB.2.1 (by omega) dd (by omega) w hwr).2
      have h2 := Bd8 (t := dd) (by omega)
      rw [hX] at h1
      omega
    have hF : isF 107 := by unfold isF; decide
    obtain ⟨Y, hY⟩ : ∃ Y : Nat, pw 10 (dd - 1) = (Y : Int) := ⟨(pw 10 (dd - 1)).toNat, by have := (pw10 (t := dd - 1) (by omega)).1; omega⟩
    have hYb := pw10 (t := dd - 1) (by omega)
    rw [hY] at hYb
    refine Ev.blk 10 (B34_22 _ _ _ _ _ _ _ _ _ _ (by omega)) rfl ?_
    rw [Int.toNat_natCast]
    refine Ev.call rfl rfl rfl (x_planF (d := 26) hK hPK hPB hwr (by omega) (by omega) (by omega)) (by omega) ?_
    rintro v V1 b1 ⟨rfl, rfl, f1, f2, f3⟩
    refine Ev.blk 9 (B34_41 _ _ _ _ _ _ _ _ _ _) rfl ?_
    rw [f2, hX, show (dd : Int) - 1 = ((dd - 1 : Nat) : Int) by omega]
    refine Ev.call rfl rfl rfl (x_power (d := 28) (x := 10) (t := dd - 1) (by omega)) (by omega) ?_
    rintro v V' b' ⟨rfl, h_, g_⟩
    subst V' b'
    rw [hY]
    refine Ev.call rfl rfl rfl (x_become (d := 27) (a := 107) (x := X) (y := Y) hF (by omega) (by omega) (by omega)) (by omega) ?_
    rintro v V2 b2 ⟨rfl, rfl, rfl⟩
    refine Ev.blk 3 (B34_64 _ _ _ _ _ _ _ _ _ _) rfl ?_
    refine Ev.call rfl rfl rfl (x_toldC (d := 28) hF h5) (by omega) ?_
    rintro v V3 b3 ⟨rfl, rfl, rfl⟩
    have d1 := Nat.div_le_self X (Nat.gcd X Y)
    have d2 := Nat.div_le_self Y (Nat.gcd X Y)
    have w1 : ∀ x, x ≠ 107 → x ≠ 108 → x ≠ 109 → x ≠ 110 → uV (uV V1 107 0 ((X / Nat.gcd X Y : Nat) : Int)) 107 1 ((Y / Nat.gcd X Y : Nat) : Int) x = V x := fun x n1 n2 n3 n4 => by
      rw [uV_ne n1, uV_ne n1, f1 x n2 n3 n4]
    refine Ev.ret rfl rfl rfl rfl ⟨(if a5 = 0 then ((Y / Nat.gcd X Y : Nat) : Int) else ((X / Nat.gcd X Y : Nat) : Int)), rfl, ?_, w1 0 (by omega) (by omega) (by omega) (by omega), ?_⟩
    · have nn : ∀ p : Nat, p ≤ 3000000000000000 → in64 (p : Int) := fun p hp => ⟨by omega, by omega⟩
      split
      · exact nn _ (Nat.le_trans d2 (by omega))
      · exact nn _ (Nat.le_trans d1 (by omega))
    obtain ⟨U, hU⟩ : ∃ U, U = uV (uV V1 107 0 ((X / Nat.gcd X Y : Nat) : Int)) 107 1 ((Y / Nat.gcd X Y : Nat) : Int) := ⟨_, rfl⟩
    rw [← hU] at w1 ⊢
    have hBR : BdR U := by
      have := hi.bdR
      unfold BdR at this ⊢
      rw [w1 121 (by omega) (by omega) (by omega) (by omega), w1 126 (by omega) (by omega) (by omega) (by omega)]
      exact this
    refine Ev.blk 3 (B195_0 _ _ _ _ _ _ _ _ _) rfl ?_
    refine Ev.call rfl rfl rfl (x_isWearR (d := 26) hBR h0 h1) (by omega) ?_
    rintro v V' b' ⟨rfl, h_, g_⟩
    subst V' b'
    refine Ev.blk 1 (B195_6 _ _ _ _ _ _ _ _ _ _ (b01_in _)) rfl ?_
    refine Ev.ite (fun _ => ?_) (fun z => absurd (show (0 ≤ (i0 : Int) ∧ (i0 : Int) ≤ 2) ∧ 0 ≤ (w : Int) ∧ (w : Int) ≤ U 121 i0 - 1 by rw [w1 121 (by omega) (by omega) (by omega) (by omega)]; omega) (b01_0 (nd_f z)))
    refine Ev.blk 3 (B195_13 _ _ _ _ _ _ _ _ _) rfl ?_
    refine Ev.call rfl rfl rfl (x_isPlan (d := 27) h2 h3 h4) (by omega) ?_
    rintro v V' b' ⟨rfl, h_, g_⟩
    subst V' b'
    refine Ev.blk 1 (B195_21 _ _ _ _ _ _ _ _ _ _ (b01_in _)) rfl ?_
    refine Ev.ite (fun _ => ?_) (fun z => absurd hr.2 (b01_0 (nd_f z)))
    refine Ev.blk 6 (B195_28 _ _ _ _ _ _ _ _ _) rfl ?_
    refine Ev.call rfl rfl rfl (x_layPlan (d := 25) hi3 (hPR.frame (fun x n1 n2 => w1 x (by omega) (by omega) (by omega) (by omega))) hPB hwr (by omega) (by omega) (by omega)) (by omega) ?_
    rintro v V4 b4 ⟨rfl, rfl, g1, g2, g3⟩
    refine Ev.blk 1 (B195_39 _ _ _ _ _ _ _ _ _ _) rfl ?_
    refine Ev.call rfl rfl rfl (x_tens (d := 28) (t := dd) (by omega)) (by omega) ?_
    rintro v V' b' ⟨rfl, h_, g_⟩
    subst V' b'
    refine Ev.blk 1 (B195_43 _ _ _ _ _ _ _ _ _ _ _) rfl ?_
    have e1 : (10 : Int) * (X : Int) = ((10 * X : Nat) : Int) := by omega
    have e2 : pw 10 dd = ((10 * Y : Nat) : Int) := by
      obtain ⟨t, rfl⟩ : ∃ t, dd = t + 1 := ⟨dd - 1, by omega⟩
      show pw 10 t * 10 = _
      rw [show t + 1 - 1 = t by omega] at hY
      rw [hY]
      omega
    rw [hX, e1, e2]
    refine Ev.call rfl rfl rfl (x_toldR (d := 27) (x := 10 * X) (y := 10 * Y) (by omega) (by omega) (by omega) h5) (by omega) ?_
    rintro v V' b' ⟨rfl, h_, g_⟩
    subst V' b'
    rw [(frac10 X Y).1, (frac10 X Y).2]
    refine Ev.ret rfl rfl rfl rfl ⟨rfl, (hi.more (Nat.le_succ N)).frame (fun a ha => ?_) ?_ ?_, fun k => ?_⟩
    · unfold dI at ha
      rw [g1 a (by omega) (by omega) (by omega), w1 a (by omega) (by omega) (by omega) (by omega)]
    · rw [g2 10 (by omega), w1 120 (by omega) (by omega) (by omega) (by omega)]
    · rw [g2 37 (by omega), w1 120 (by omega) (by omega) (by omega) (by omega)]
    · rw [g1 0 (by omega) (by omega) (by omega), w1 0 (by omega) (by omega) (by omega) (by omega)]
      exact hI.2 k
  · replace q := of_decide_eq_false q
    refine Ev.blk 2 (B34_18 _ _ _ _ _ _ _ _ _ _ ⟨by omega, by omega⟩) rfl ?_
    exact Ev.ret rfl rfl rfl rfl ⟨_, rfl, ⟨by omega, by omega⟩, rfl, rest q _⟩
theorem chV_act {mw mc rn : Nat → Int} {fall s : Int} {a : Nat} : ∀ i, i ≤ 4 → 0 ≤ (chV mw mc rn fall s a i).2 ∧ (chV mw mc rn fall s a i).2 ≤ 4
  | 0, _ => ⟨Int.le_refl 0, by show (0 : Int) ≤ 4; decide⟩
  | i + 1, h => by
    have ih := chV_act (mw := mw) (mc := mc) (rn := rn) (fall := fall) (s := s) (a := a) i (by omega)
    by_cases q : ¬ mw i = -9 ∧ prc (mc i) fall * s + rn (mw i).toNat < (chV mw mc rn fall s a i).1
    · rw [chV_t q.1 q.2]
      show 0 ≤ (i : Int) + 1 ∧ (i : Int) + 1 ≤ 4
      omega
    · rw [chV_f q]
      exact ih
theorem chW_act (mw mc rn : Nat → Int) (fall s : Int) (a : Nat) : 0 ≤ (chW mw mc rn fall s a).2 ∧ (chW mw mc rn fall s a).2 ≤ 4 := by
  unfold chW
  split
  · exact ⟨Int.le_refl 0, by show (0 : Int) ≤ 4; decide⟩
  · exact chV_act 4 (Nat.le_refl _)
theorem op_planAct (a0 a1 a2 a3 a4 : Int) (h0 : in32 a0) (h1 : in32 a1) (h2 : in32 a2) (h3 : in32 a3) (h4 : in32 a4) : OpI 36 200 [.inl a0, .inl a1, .inl a2, .inl a3, .inl a4] := by
  intro L N V b hL hN hI
  have hi := hI.1
  have hrc := rfP_c V a0 a1 a2 a3 a4
  have rest : rfP V a0 a1 a2 a3 a4 ≠ 0 → ∀ b1, Ex L 29 200 [.inr (.inr 120), .inl a0, .inl a1, .inl a2, .inl a3, .inl a4] V b1 (fun v2 V2 _ => v2 = some (.inl (rfP V a0 a1 a2 a3 a4)) ∧ Iv (N + 1) V2) := by
    intro hne b1
    rcases rfP_c V a0 a1 a2 a3 a4 with hc | ⟨hc, hw⟩ | ⟨hc, hw, hno⟩
    · exact absurd hc hne
    · rw [hi.wears] at hw
      rw [hc]
      refine Ev.blk 3 (B200_0 _ _ _ _ _ _ _ _) rfl ?_
      refine Ev.call rfl rfl (rfl) (x_isWearR (d := 26) hi.bdR h0 h1) (by omega) ?_
      rintro v V' b' ⟨rfl, h_, g_⟩
      subst V' b'
      refine Ev.blk 1 (B200_6 _ _ _ _ _ _ _ _ _ (by first | assumption | omega | decide | exact b01_in _ | exact ⟨by omega, by omega⟩)) rfl ?_
      refine Ev.ite (fun q => ?_) (fun q => ?_)
      · replace q := nd_t q
        replace q := b01_1 q
        exact absurd q hw
      · replace q := nd_f q
        replace q := b01_0 q
        refine Ev.blk 1 (B200_9 _ _ _ _ _ _ _ _) rfl ?_
        refine Ev.ret rfl rfl rfl (by first | rfl | exact decide_eq_true (b01_or _)) ?_
        exact ⟨rfl, hi.more (Nat.le_succ N), hI.2⟩
    · rw [hi.wears] at hw
      rw [hc]
      refine Ev.blk 3 (B200_0 _ _ _ _ _ _ _ _) rfl ?_
      refine Ev.call rfl rfl (rfl) (x_isWearR (d := 26) hi.bdR h0 h1) (by omega) ?_
      rintro v V' b' ⟨rfl, h_, g_⟩
      subst V' b'
      refine Ev.blk 1 (B200_6 _ _ _ _ _ _ _ _ _ (by first | assumption | omega | decide | exact b01_in _ | exact ⟨by omega, by omega⟩)) rfl ?_
      refine Ev.ite (fun q => ?_) (fun q => ?_)
      · replace q := nd_t q
        replace q := b01_1 q
        refine Ev.blk 3 (B200_11 _ _ _ _ _ _ _ _) rfl ?_
        refine Ev.call rfl rfl (rfl) (x_isPlan (d := 27) h2 h3 h4) (by omega) ?_
        rintro v V' b' ⟨rfl, h_, g_⟩
        subst V' b'
        refine Ev.blk 1 (B200_19 _ _ _ _ _ _ _ _ _ (by first | assumption | omega | decide | exact b01_in _ | exact ⟨by omega, by omega⟩)) rfl ?_
        refine Ev.ite (fun q => ?_) (fun q => ?_)
        · replace q := nd_t q
          replace q := b01_1 q
          exact absurd q hno
        · replace q := nd_f q
          replace q := b01_0 q
          refine Ev.blk 1 (B200_22 _ _ _ _ _ _ _ _) rfl ?_
          refine Ev.ret rfl rfl rfl (by first | rfl | exact decide_eq_true (b01_or _)) ?_
          exact ⟨rfl, hi.more (Nat.le_succ N), hI.2⟩
      · replace q := nd_f q
        replace q := b01_0 q
        exact absurd hw q
  refine Ev.blk 6 (B36_0 _ _ _ _ _ _ _ _) rfl ?_
  refine Ev.call rfl rfl rfl (x_rfP (d := 26) (fun i hi2 => hi.bdC.w hi2) h0 h1 h2 h3 h4) (by omega) ?_
  rintro v V' b' ⟨rfl, h_, g_⟩
  subst V' b'
  refine Ev.blk 3 (B36_11 _ _ _ _ _ _ _ _ _ ⟨by omega, by omega⟩) rfl ?_
  refine Ev.ite (fun q => ?_) (fun q => ?_)
  · replace q := of_decide_eq_true q
    have hr := rfP_0 q
    obtain ⟨i0, rfl⟩ : ∃ k : Nat, a0 = (k : Int) := ⟨a0.toNat, by omega⟩
    obtain ⟨w, rfl⟩ : ∃ k : Nat, a1 = (k : Int) := ⟨a1.toNat, by omega⟩
    obtain ⟨dd, rfl⟩ : ∃ k : Nat, a2 = (k : Int) := ⟨a2.toNat, by omega⟩
    obtain ⟨p, rfl⟩ : ∃ k : Nat, a3 = (k : Int) := ⟨a3.toNat, by omega⟩
    rw [Int.toNat_natCast] at hr
    have hi3 : i0 < 3 := by omega
    have hk := hi.kd i0 hi3
    have hK : isK (14 + 15 * i0) := k_11 (i := (i0 : Int)) (by omega)
    obtain ⟨wn, hwn, hPK, hPR, hPB⟩ := hk.rows
    have hww := hk.w
    have hwr : w < wn := by omega
    have hmw' : ∀ j, j < 4 → (fun j => V 126 (4 * i0 + j)) j = -9 ∨ 0 ≤ (fun j => V 126 (4 * i0 + j)) j ∧ (fun j => V 126 (4 * i0 + j)) j < (wn : Int) := fun j hj => by
      have h := hPB.2.2.2.2.1 j hj
      dsimp only at h ⊢
      omega
    obtain ⟨X, hX⟩ : ∃ X : Nat, plA (fun i j => rGo V (i0 : Int) (i : Int) (j : Int)) (fun j => V 124 (8 * i0 + j)) (fun j => V 126 (4 * i0 + j)) (fun j => V 127 (4 * i0 + j)) wn dd p a4 dd w = (X : Int) := by
      have h1 := (plA_bd (G := fun i j => rGo V (i0 : Int) (i : Int) (j : Int)) (co := fun j => V 124 (8 * i0 + j)) (mw := fun j => V 126 (4 * i0 + j)) (mc := fun j => V 127 (4 * i0 + j)) (n := wn) (f := a4) (d := dd) (p := p) hPB.2.2.1 hPB.2.2.2.1 hmw' hPB.2.2.2.2.2 hPB.2.1 (by omega) dd (by omega) w hwr).1
      exact ⟨_, (Int.toNat_of_nonneg h1).symm⟩
    have hXb : X ≤ 3000000000000000 := by
      have h1 := (plA_bd (G := fun i j => rGo V (i0 : Int) (i : Int) (j : Int)) (co := fun j => V 124 (8 * i0 + j)) (mw := fun j => V 126 (4 * i0 + j)) (mc := fun j => V 127 (4 * i0 + j)) (n := wn) (f := a4) (d := dd) (p := p) hPB.2.2.1 hPB.2.2.2.1 hmw' hPB.2.2.2.2.2 hPB.2.1 (by omega) dd (by omega) w hwr).2
      have h2 := Bd8 (t := dd) (by omega)
      rw [hX] at h1
      omega
    refine Ev.blk 10 (B36_21 _ _ _ _ _ _ _ _ _ (by omega)) rfl ?_
    rw [Int.toNat_natCast]
    refine Ev.call rfl rfl rfl (x_planF (d := 26) hK hPK hPB hwr (by omega) (by omega) (by omega)) (by omega) ?_
    rintro v V1 b1 ⟨rfl, rfl, f1, f2, f3⟩
    refine Ev.blk 3 (B36_40 _ _ _ _ _ _ _ _ _) rfl ?_
    rw [f3]
    have hact : 0 ≤ plC (fun i j => rGo V (i0 : Int) (i : Int) (j : Int)) (fun j => V 124 (8 * i0 + j)) (fun j => V 126 (4 * i0 + j)) (fun j => V 127 (4 * i0 + j)) wn dd p a4 (dd - 1) w ∧ plC (fun i j => rGo V (i0 : Int) (i : Int) (j : Int)) (fun j => V 124 (8 * i0 + j)) (fun j => V 126 (4 * i0 + j)) (fun j => V 127 (4 * i0 + j)) wn dd p a4 (dd - 1) w ≤ 4 := chW_act _ _ _ _ _ _
    refine Ev.ret rfl rfl rfl rfl ⟨_, rfl, ⟨by omega, by omega⟩, f1 0 (by omega) (by omega) (by omega), ?_⟩
    have hBR : BdR V1 := by
      have := hi.bdR
      unfold BdR at this ⊢
      rw [f1 121 (by omega) (by omega) (by omega), f1 126 (by omega) (by omega) (by omega)]
      exact this
    refine Ev.blk 3 (B200_0 _ _ _ _ _ _ _ _) rfl ?_
    refine Ev.call rfl rfl rfl (x_isWearR (d := 26) hBR h0 h1) (by omega) ?_
    rintro v V' b' ⟨rfl, h_, g_⟩
    subst V' b'
    refine Ev.blk 1 (B200_6 _ _ _ _ _ _ _ _ _ (b01_in _)) rfl ?_
    refine Ev.ite (fun _ => ?_) (fun z => absurd (show (0 ≤ (i0 : Int) ∧ (i0 : Int) ≤ 2) ∧ 0 ≤ (w : Int) ∧ (w : Int) ≤ V1 121 i0 - 1 by rw [f1 121 (by omega) (by omega) (by omega)]; omega) (b01_0 (nd_f z)))
    refine Ev.blk 3 (B200_11 _ _ _ _ _ _ _ _) rfl ?_
    refine Ev.call rfl rfl rfl (x_isPlan (d := 27) h2 h3 h4) (by omega) ?_
    rintro v V' b' ⟨rfl, h_, g_⟩
    subst V' b'
    refine Ev.blk 1 (B200_19 _ _ _ _ _ _ _ _ _ (b01_in _)) rfl ?_
    refine Ev.ite (fun _ => ?_) (fun z => absurd hr.2 (b01_0 (nd_f z)))
    refine Ev.blk 6 (B200_25 _ _ _ _ _ _ _ _) rfl ?_
    refine Ev.call rfl rfl rfl (x_layPlan (d := 25) hi3 (hPR.frame (fun x n1 n2 => f1 x (by omega) (by omega) (by omega))) hPB hwr (by omega) (by omega) (by omega)) (by omega) ?_
    rintro v V4 b4 ⟨rfl, rfl, g1, g2, g3⟩
    refine Ev.blk 3 (B200_36 _ _ _ _ _ _ _ _ _) rfl ?_
    rw [g3]
    refine Ev.ret rfl rfl rfl rfl ⟨rfl, (hi.more (Nat.le_succ N)).frame (fun a ha => ?_) ?_ ?_, fun k => ?_⟩
    · unfold dI at ha
      rw [g1 a (by omega) (by omega) (by omega), f1 a (by omega) (by omega) (by omega)]
    · rw [g2 10 (by omega), f1 120 (by omega) (by omega) (by omega)]
    · rw [g2 37 (by omega), f1 120 (by omega) (by omega) (by omega)]
    · rw [g1 0 (by omega) (by omega) (by omega), f1 0 (by omega) (by omega) (by omega)]
      exact hI.2 k
  · replace q := of_decide_eq_false q
    refine Ev.blk 1 (B36_18 _ _ _ _ _ _ _ _ _) rfl ?_
    exact Ev.ret rfl rfl rfl rfl ⟨_, rfl, ⟨by omega, by omega⟩, rfl, rest q _⟩
