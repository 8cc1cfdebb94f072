/-! the 38 calls: put (specs24.py) -/
theorem putC_lp {L d : Nat} {V : Mv} {b : Bool} {Q : Option AV → Mv → Bool → Prop} {w r x : Nat} {x1 x3 : Int} (hw8 : w ≤ 8) (hr4 : r < 4) (hx : x < 2147483648) (hQ : ∀ W, ((∀ y, y ≠ 64 + r → W y = V y) ∧ (∀ j, 0 ≤ j → j < 8 → W (64 + r) j = dg x w j)) → Q (some (.inl (bz (dg x w) 8))) W b) : ∀ (n : Nat) (W : Mv), n ≤ 8 → ((∀ y, y ≠ 64 + r → W y = V y) ∧ (∀ j, n ≤ j → j < 8 → W (64 + r) j = dg x w j)) → Ev L d 30 58 [some (.inr (.inr 1)), some (.inl x1), some (.inl (r : Int)), some (.inl x3), some (.inl (w : Int)), some (.inl ((rs x w n : Nat) : Int)), some (.inl (bz (dg x w) 8 - bz (dg x w) n)), some (.inl (((n : Nat) : Int) - 1)), none] [] W b Q
  | 0, W, h, hr => by
    refine Ev.blk 2 (B30_58 _ _ _ _ _ _ _ _ _ _ (by decide)) rfl ?_
    refine Ev.ite (fun _ => ?_) (fun h => absurd h (by decide))
    refine Ev.blk 1 (B30_117 _ _ _ _ _ _ _ _ _ _) rfl ?_
    refine Ev.ret rfl rfl rfl rfl ?_
    rw [show bz (dg x w) 8 - bz (dg x w) 0 = bz (dg x w) 8 from Int.sub_zero _]
    exact hQ W hr
  | n + 1, W, h, hr => by
    have ih := putC_lp (L := L) (d := d) (x1 := x1) (x3 := x3) hw8 hr4 hx hQ n
    rw [show (((n + 1 : Nat) : Int) - 1) = (n : Int) by omega]
    have hle := rs_le x w (n + 1)
    refine Ev.blk 2 (B30_58 _ _ _ _ _ _ _ _ _ _ ⟨by omega, by omega⟩) rfl ?_
    refine Ev.ite (fun q => absurd (of_decide_eq_true q) (by omega)) (fun _ => ?_)
    refine Ev.blk 5 (B30_63 _ _ _ _ _ _ _ _ _ _ ⟨by omega, by omega⟩ ⟨by omega, by omega⟩) rfl ?_
    refine Ev.ite (fun q => ?_) (fun q => ?_)
    · have q : ¬ n < w := by have := of_decide_eq_true q; omega
      refine Ev.blk 10 (B30_85 _ _ _ _ _ _ _ _ _ _ _ (by omega) (by omega) (by decide)) rfl ?_
      rw [Int.toNat_natCast, Int.toNat_natCast]
      refine Ev.ite (fun z => ?_) (fun z => ?_)
      · replace z := of_decide_eq_true z
        refine Ev.blk 1 (B30_107 _ _ _ _ _ _ _ _ _ _ _ _) rfl ?_
        refine Ev.blk 4 (B30_108 _ _ _ _ _ _ _ _ _ _ _ _ _) rfl ?_
        refine Ev.kill [false, false, false, false, false, false, false, false, true] ?_
        dsimp only [mkl]
        refine Ev.val (ls' := [some (.inr (.inr 1)), some (.inl x1), some (.inl (r : Int)), some (.inl x3), some (.inl (w : Int)), some (.inl ((rs x w n : Nat) : Int)), some (.inl (bz (dg x w) 8 - bz (dg x w) n)), some (.inl ((n : Int) - 1)), none]) ?_ rfl (ih _ (by omega) ⟨fun y hy => ?_, fun j hj1 hj2 => ?_⟩)
        · rw [show bz (dg x w) 8 - bz (dg x w) n = bz (dg x w) 8 - bz (dg x w) (n + 1) + 0 by rw [bz_t (f := dg x w) (k := n) (dg_f q)]; omega, rs_e q]
          rfl
        · rw [uV_ne (by omega)]
          exact hr.1 y hy
        · rw [show 64 + r = 64 + 1 * r by omega, uV_at]
          by_cases e : j = n
          · rw [if_pos e, e, dg_f q]
          · rw [if_neg e, show 64 + 1 * r = 64 + r by omega]
            exact hr.2 j (by omega) hj2
      · replace z := of_decide_eq_false z
        refine Ev.blk 2 (B30_103 _ _ _ _ _ _ _ _ _ _ _ _) rfl ?_
        refine Ev.blk 4 (B30_108 _ _ _ _ _ _ _ _ _ _ _ _ _) rfl ?_
        exact absurd rfl z
    · have q : n < w := by have := of_decide_eq_false q; omega
      refine Ev.blk 8 (B30_73 _ _ _ _ _ _ _ _ _ _ _ ⟨by omega, by omega⟩) rfl ?_
      rw [tdv, tmv]
      refine Ev.blk 10 (B30_85 _ _ _ _ _ _ _ _ _ _ _ (by omega) (by omega) ⟨by omega, by omega⟩) rfl ?_
      rw [Int.toNat_natCast, Int.toNat_natCast]
      refine Ev.ite (fun z => ?_) (fun z => ?_)
      · replace z := of_decide_eq_true z
        refine Ev.blk 1 (B30_107 _ _ _ _ _ _ _ _ _ _ _ _) rfl ?_
        refine Ev.blk 4 (B30_108 _ _ _ _ _ _ _ _ _ _ _ _ _) rfl ?_
        refine Ev.kill [false, false, false, false, false, false, false, false, true] ?_
        dsimp only [mkl]
        refine Ev.val (ls' := [some (.inr (.inr 1)), some (.inl x1), some (.inl (r : Int)), some (.inl x3), some (.inl (w : Int)), some (.inl ((rs x w n : Nat) : Int)), some (.inl (bz (dg x w) 8 - bz (dg x w) n)), some (.inl ((n : Int) - 1)), none]) ?_ rfl (ih _ (by omega) ⟨fun y hy => ?_, fun j hj1 hj2 => ?_⟩)
        · rw [show bz (dg x w) 8 - bz (dg x w) n = bz (dg x w) 8 - bz (dg x w) (n + 1) + 0 by rw [bz_t (f := dg x w) (k := n) (by rw [dg_t q]; exact z)]; omega, rs_s q]
          rfl
        · rw [uV_ne (by omega)]
          exact hr.1 y hy
        · rw [show 64 + r = 64 + 1 * r by omega, uV_at]
          by_cases e : j = n
          · rw [if_pos e, e, dg_t q]
          · rw [if_neg e, show 64 + 1 * r = 64 + r by omega]
            exact hr.2 j (by omega) hj2
      · replace z := of_decide_eq_false z
        refine Ev.blk 2 (B30_103 _ _ _ _ _ _ _ _ _ _ _ _) rfl ?_
        refine Ev.blk 4 (B30_108 _ _ _ _ _ _ _ _ _ _ _ _ _) rfl ?_
        refine Ev.kill [false, false, false, false, false, false, false, false, true] ?_
        dsimp only [mkl]
        refine Ev.val (ls' := [some (.inr (.inr 1)), some (.inl x1), some (.inl (r : Int)), some (.inl x3), some (.inl (w : Int)), some (.inl ((rs x w n : Nat) : Int)), some (.inl (bz (dg x w) 8 - bz (dg x w) n)), some (.inl ((n : Int) - 1)), none]) ?_ rfl (ih _ (by omega) ⟨fun y hy => ?_, fun j hj1 hj2 => ?_⟩)
        · rw [show bz (dg x w) 8 - bz (dg x w) n = bz (dg x w) 8 - bz (dg x w) (n + 1) + 1 by rw [bz_f (f := dg x w) (k := n) (by rw [dg_t q]; exact z)]; omega, rs_s q]
          rfl
        · rw [uV_ne (by omega)]
          exact hr.1 y hy
        · rw [show 64 + r = 64 + 1 * r by omega, uV_at]
          by_cases e : j = n
          · rw [if_pos e, e, dg_t q]
          · rw [if_neg e, show 64 + 1 * r = 64 + r by omega]
            exact hr.2 j (by omega) hj2
theorem cnR_lp {L d : Nat} {V : Mv} {b : Bool} {Q : Option AV → Mv → Bool → Prop} {r : Nat} {x1 x3 : Int} (hr : r < 4) (hv : ∀ j, j < 8 → 0 ≤ V 135 (8 * r + j) ∧ V 135 (8 * r + j) ≤ 4) (hQ : Q (some (.inl (bz (fun j => V 135 (8 * r + j)) 8))) V b) : ∀ n k : Nat, k + n = 8 → Ev L (d) 191 49 [some (.inr (.inr 120)), some (.inl x1), some (.inl (r : Int)), some (.inl x3), some (.inl (bz (fun j => V 135 (8 * r + j)) k)), some (.inl (k : Int))] [] V b Q
  | 0, k, h => by
    obtain rfl : k = 8 := by omega
    refine Ev.blk 3 (B191_49 _ _ _ _ _ _ _ _ (by first | assumption | omega | decide | exact cmpI_in _ _ | exact ⟨by omega, by omega⟩)) rfl ?_
    refine Ev.ite (fun q => ?_) (fun q => ?_)
    · replace q := of_decide_eq_true q
      exact Ev.blk 1 (B191_87 _ _ _ _ _ _ _ _) rfl (Ev.ret rfl rfl rfl rfl hQ)
    · replace q := of_decide_eq_false q
      exact absurd q (by omega)
  | n + 1, k, h => by
    have ih := cnR_lp (L := L) (d := d) (x1 := x1) (x3 := x3) hr hv hQ n (k + 1) (by omega)
    have e0 : (8 * (r : Int) + (k : Int)).toNat = 8 * r + k := by omega
    have h2 := hv k (by omega)
    refine Ev.blk 3 (B191_49 _ _ _ _ _ _ _ _ (by first | assumption | omega | decide | exact cmpI_in _ _ | exact ⟨by omega, by omega⟩)) rfl ?_
    refine Ev.ite (fun q => ?_) (fun q => ?_)
    · replace q := of_decide_eq_true q
      exact absurd q (by omega)
    · replace q := of_decide_eq_false q
      refine Ev.blk 10 (B191_56 _ _ _ _ _ _ _ _ (by first | omega | (rw [e0]; exact ⟨by omega, by omega⟩) | exact ⟨by omega, by omega⟩) (by first | omega | (rw [e0]; exact ⟨by omega, by omega⟩) | exact ⟨by omega, by omega⟩)) rfl ?_
      refine Ev.ite (fun q => ?_) (fun q => ?_)
      · replace q := of_decide_eq_true q
        rw [e0] at q
        refine Ev.blk 1 (B191_77 _ _ _ _ _ _ _ _ _) rfl ?_
        refine Ev.blk 4 (B191_78 _ _ _ _ _ _ _ _ _ _) rfl ?_
        refine Ev.val ?_ rfl ih
        first | rw [bz_t (f := fun j => V 135 (8 * r + j)) (show V 135 (8 * r + k) = 0 by omega), Int.add_zero] | rw [bz_f (f := fun j => V 135 (8 * r + j)) (show ¬ V 135 (8 * r + k) = 0 by omega)]
        rfl
      · replace q := of_decide_eq_false q
        rw [e0] at q
        refine Ev.blk 2 (B191_73 _ _ _ _ _ _ _ _ _) rfl ?_
        refine Ev.blk 4 (B191_78 _ _ _ _ _ _ _ _ _ _) rfl ?_
        refine Ev.val ?_ rfl ih
        first | rw [bz_t (f := fun j => V 135 (8 * r + j)) (show V 135 (8 * r + k) = 0 by omega), Int.add_zero] | rw [bz_f (f := fun j => V 135 (8 * r + j)) (show ¬ V 135 (8 * r + k) = 0 by omega)]
        rfl

theorem op_put (a0 a1 a2 : Int) (h0 : in32 a0) (h1 : in32 a1) (h2 : in32 a2) : OpI 30 191 [.inl a0, .inl a1, .inl a2] := by
  intro L N V b hL hN hI
  have hi := hI.1
  refine Ev.blk 1 (B30_0 _ _ _ _ _ _) rfl ?_
  refine Ev.call rfl rfl (rfl) (x_isMachineC (d := 28) h0) (by omega) ?_
  rintro v V' b' ⟨rfl, h_, g_⟩
  subst V' b'
  refine Ev.blk 1 (B30_4 _ _ _ _ _ _ _ (by first | assumption | omega | exact b01_in _ | exact cmpI_in _ _ | (rw [Int.toNat_natCast]; exact ⟨by omega, by omega⟩) | exact ⟨by omega, by omega⟩)) rfl ?_
  refine Ev.ite (fun q => ?_) (fun q => ?_)
  · replace q := of_decide_eq_true q
    replace q := b01_0 q
    refine Ev.blk 1 (B30_14 _ _ _ _ _ _) rfl ?_
    refine Ev.ret rfl rfl rfl rfl ⟨_, rfl, by decide, rfl, ?_⟩
    refine Ev.blk 1 (B191_0 _ _ _ _ _ _) rfl ?_
    refine Ev.call rfl rfl (rfl) (x_isMachineR (d := 27) h0) (by omega) ?_
    rintro v V' b' ⟨rfl, h_, g_⟩
    subst V' b'
    refine Ev.blk 1 (B191_4 _ _ _ _ _ _ _ (by first | assumption | omega | exact b01_in _ | exact ⟨by omega, by omega⟩)) rfl ?_
    refine Ev.ite (fun q => ?_) (fun q => ?_)
    · replace q := of_decide_eq_true q
      replace q := b01_0 q
      refine Ev.blk 1 (B191_14 _ _ _ _ _ _) rfl ?_
      refine Ev.ret rfl rfl rfl (by first | rfl | exact decide_eq_true (b01_or _)) ?_
      first | (exfalso; omega) | exact ⟨rfl, hi.more (Nat.le_succ N), hI.2⟩
    · replace q := of_decide_eq_false q
      replace q := b01_1 q
      refine Ev.blk 1 (B191_7 _ _ _ _ _ _) rfl ?_
      refine Ev.call rfl rfl (rfl) (x_isRuleR (d := 27) h1) (by omega) ?_
      rintro v V' b' ⟨rfl, h_, g_⟩
      subst V' b'
      refine Ev.blk 1 (B191_11 _ _ _ _ _ _ _ (by first | assumption | omega | exact b01_in _ | exact ⟨by omega, by omega⟩)) rfl ?_
      refine Ev.ite (fun q => ?_) (fun q => ?_)
      · replace q := nd_t q
        replace q := b01_1 q
        (exfalso; omega)
      · replace q := nd_f q
        replace q := b01_0 q
        refine Ev.blk 1 (B191_14 _ _ _ _ _ _) rfl ?_
        refine Ev.ret rfl rfl rfl (by first | rfl | exact decide_eq_true (b01_or _)) ?_
        first | (exfalso; omega) | exact ⟨rfl, hi.more (Nat.le_succ N), hI.2⟩
  · replace q := of_decide_eq_false q
    replace q := b01_1 q
    refine Ev.blk 1 (B30_7 _ _ _ _ _ _) rfl ?_
    refine Ev.call rfl rfl (rfl) (x_isRuleC (d := 28) h1) (by omega) ?_
    rintro v V' b' ⟨rfl, h_, g_⟩
    subst V' b'
    refine Ev.blk 1 (B30_11 _ _ _ _ _ _ _ (by first | assumption | omega | exact b01_in _ | exact cmpI_in _ _ | (rw [Int.toNat_natCast]; exact ⟨by omega, by omega⟩) | exact ⟨by omega, by omega⟩)) rfl ?_
    refine Ev.ite (fun q => ?_) (fun q => ?_)
    · replace q := nd_t q
      replace q := b01_1 q
      refine Ev.blk 8 (B30_16 _ _ _ _ _ _ (by first | assumption | omega | exact b01_in _ | exact cmpI_in _ _ | (rw [Int.toNat_natCast]; exact ⟨by omega, by omega⟩) | exact ⟨by omega, by omega⟩) (by first | assumption | omega | exact b01_in _ | exact cmpI_in _ _ | (rw [Int.toNat_natCast]; exact ⟨by omega, by omega⟩) | exact ⟨by omega, by omega⟩)) rfl ?_
      refine Ev.ite (fun q => ?_) (fun q => ?_)
      · replace q := of_decide_eq_true q
        have hkd := hi.kd a0.toNat (by omega)
        have hw2 := hkd.w2
        have hw8 := hkd.w8
        have hww := hkd.w
        obtain ⟨w, hw⟩ : ∃ w : Nat, V 121 a0.toNat = (w : Int) := ⟨(V 121 a0.toNat).toNat, by omega⟩
        have hp := pw5 (w := w) (by omega)
        refine Ev.blk 1 (B30_45 _ _ _ _ _ _ _) rfl ?_
        refine Ev.ret rfl rfl rfl (by first | rfl | exact decide_eq_true (b01_or _)) ?_
        refine ⟨_, rfl, by decide, rfl, ?_⟩
        have hc : a2 < 0 ∨ pw 5 w ≤ a2 := by omega
        refine Ev.blk 1 (B191_0 _ _ _ _ _ _) rfl ?_
        refine Ev.call rfl rfl (rfl) (x_isMachineR (d := 27) h0) (by omega) ?_
        rintro v V' b' ⟨rfl, rfl, rfl⟩
        refine Ev.blk 1 (B191_4 _ _ _ _ _ _ _ (by first | assumption | omega | exact b01_in _ | exact ⟨by omega, by omega⟩)) rfl ?_
        refine Ev.ite (fun q => ?_) (fun q => ?_)
        · replace q := of_decide_eq_true q
          replace q := b01_0 q
          refine Ev.blk 1 (B191_14 _ _ _ _ _ _) rfl ?_
          refine Ev.ret rfl rfl rfl (by first | rfl | exact decide_eq_true (b01_or _)) ?_
          (exfalso; omega)
        · replace q := of_decide_eq_false q
          replace q := b01_1 q
          refine Ev.blk 1 (B191_7 _ _ _ _ _ _) rfl ?_
          refine Ev.call rfl rfl (rfl) (x_isRuleR (d := 27) h1) (by omega) ?_
          rintro v V' b' ⟨rfl, rfl, rfl⟩
          refine Ev.blk 1 (B191_11 _ _ _ _ _ _ _ (by first | assumption | omega | exact b01_in _ | exact ⟨by omega, by omega⟩)) rfl ?_
          refine Ev.ite (fun q => ?_) (fun q => ?_)
          · replace q := nd_t q
            replace q := b01_1 q
            refine Ev.blk 5 (B191_16 _ _ _ _ _ _ h2) rfl ?_
            rw [show a0 = ((a0.toNat : Nat) : Int) by omega]
            refine Ev.call rfl rfl rfl (x_allNum (d := 28) (m := a0.toNat) (w := w) (by omega) hw (by omega)) (by omega) ?_
            rintro v V' b' ⟨rfl, rfl, rfl⟩
            refine Ev.blk 3 (B191_24 _ _ _ _ _ _ _ _ _ ⟨by omega, by omega⟩) rfl ?_
            refine Ev.call rfl rfl rfl (x_in (d := 28) ⟨by omega, by omega⟩ (by decide) ⟨by omega, by omega⟩) (by omega) ?_
            rintro v V' b' ⟨rfl, rfl, rfl⟩
            refine Ev.blk 1 (B191_30 _ _ _ _ _ _ _ (b01_in _)) rfl ?_
            refine Ev.ite (fun z => ?_) (fun _ => ?_)
            · have z := b01_1 (nd_t z)
              omega
            · refine Ev.blk 1 (B191_33 _ _ _ _ _ _) rfl ?_
              exact Ev.ret rfl rfl rfl rfl ⟨rfl, hi.more (Nat.le_succ N), hI.2⟩
          · replace q := nd_f q
            replace q := b01_0 q
            refine Ev.blk 1 (B191_14 _ _ _ _ _ _) rfl ?_
            refine Ev.ret rfl rfl rfl (by first | rfl | exact decide_eq_true (b01_or _)) ?_
            (exfalso; omega)
      · replace q := of_decide_eq_false q
        have hkd := hi.kd a0.toNat (by omega)
        have hw2 := hkd.w2
        have hw8 := hkd.w8
        have hww := hkd.w
        obtain ⟨w, hw⟩ : ∃ w : Nat, V 121 a0.toNat = (w : Int) := ⟨(V 121 a0.toNat).toNat, by omega⟩
        have hp := pw5 (w := w) (by omega)
        have hpow : Ex L 28 28 [.inr (.inl 5), .inl (V (14 + 15 * a0.toNat) 0)] V b (Ans (some (.inr (.inl (pw 5 w)))) V b) := by
          rw [hww, hw]
          exact x_power (by omega)
        refine Ev.blk 4 (B30_31 _ _ _ _ _ _ _ (by first | assumption | omega | exact b01_in _ | exact cmpI_in _ _ | (rw [Int.toNat_natCast]; exact ⟨by omega, by omega⟩) | exact ⟨by omega, by omega⟩)) rfl ?_
        refine Ev.call rfl rfl (rfl) (hpow) (by omega) ?_
        rintro v V' b' ⟨rfl, h_, g_⟩
        subst V' b'
        refine Ev.blk 2 (B30_41 _ _ _ _ _ _ _ _ _ (by first | assumption | omega | exact b01_in _ | exact cmpI_in _ _ | (rw [Int.toNat_natCast]; exact ⟨by omega, by omega⟩) | exact ⟨by omega, by omega⟩) (by first | assumption | omega | exact b01_in _ | exact cmpI_in _ _ | (rw [Int.toNat_natCast]; exact ⟨by omega, by omega⟩) | exact ⟨by omega, by omega⟩) (by first | assumption | omega | exact b01_in _ | exact cmpI_in _ _ | (rw [Int.toNat_natCast]; exact ⟨by omega, by omega⟩) | exact ⟨by omega, by omega⟩)) rfl ?_
        refine Ev.ite (fun q => ?_) (fun q => ?_)
        · replace q := of_decide_eq_true q
          simp only [cmpI_lt, cmpI_gt, cmpI_ge, cmpI_le, cmpI_eq] at q
          obtain ⟨i, rfl⟩ : ∃ k : Nat, a0 = (k : Int) := ⟨a0.toNat, by omega⟩
          obtain ⟨r, rfl⟩ : ∃ k : Nat, a1 = (k : Int) := ⟨a1.toNat, by omega⟩
          obtain ⟨x, rfl⟩ : ∃ k : Nat, a2 = (k : Int) := ⟨a2.toNat, by omega⟩
          rw [Int.toNat_natCast] at hw hkd hww hw2 hw8
          rw [Int.toNat_natCast, hww, hw]
          refine Ev.blk 6 (B30_48 _ _ _ _ _ _ _) rfl ?_
          have cC := putC_lp (L := L) (d := 29) (V := V) (b := b) (w := w) (r := r) (x := x) (x1 := (i : Int)) (x3 := (x : Int)) (Q := fun v V1 b1 => ∃ z : Int, v = some (.inl z) ∧ in32 z ∧ V1 0 = V 0 ∧ Ex L 29 191 [.inr (.inr 120), .inl (i : Int), .inl (r : Int), .inl (x : Int)] V1 b1 (fun v2 V2 _ => v2 = some (.inl z) ∧ Iv (N + 1) V2)) (by omega) (by omega) (by omega) (fun W hr => ?_) 8 V (Nat.le_refl _) ⟨fun _ _ => rfl, fun j h1 h2 => absurd h2 (by omega)⟩
          · rw [rs_0 (by omega), show bz (dg x w) 8 - bz (dg x w) 8 = 0 by omega] at cC
            exact cC
          · have hbz := bz_bd (dg x w)
            refine ⟨_, rfl, ⟨by omega, by omega⟩, hr.1 0 (by omega), ?_⟩
            have W121 : W 121 = V 121 := hr.1 121 (by omega)
            refine Ev.blk 1 (B191_0 _ _ _ _ _ _) rfl ?_
            refine Ev.call rfl rfl (rfl) (x_isMachineR (d := 27) h0) (by omega) ?_
            rintro v V' b' ⟨rfl, rfl, rfl⟩
            refine Ev.blk 1 (B191_4 _ _ _ _ _ _ _ (by first | assumption | omega | exact b01_in _ | exact ⟨by omega, by omega⟩)) rfl ?_
            refine Ev.ite (fun q => ?_) (fun q => ?_)
            · replace q := of_decide_eq_true q
              replace q := b01_0 q
              refine Ev.blk 1 (B191_14 _ _ _ _ _ _) rfl ?_
              refine Ev.ret rfl rfl rfl (by first | rfl | exact decide_eq_true (b01_or _)) ?_
              (exfalso; omega)
            · replace q := of_decide_eq_false q
              replace q := b01_1 q
              refine Ev.blk 1 (B191_7 _ _ _ _ _ _) rfl ?_
              refine Ev.call rfl rfl (rfl) (x_isRuleR (d := 27) h1) (by omega) ?_
              rintro v V' b' ⟨rfl, rfl, rfl⟩
              refine Ev.blk 1 (B191_11 _ _ _ _ _ _ _ (by first | assumption | omega | exact b01_in _ | exact ⟨by omega, by omega⟩)) rfl ?_
              refine Ev.ite (fun q => ?_) (fun q => ?_)
              · replace q := nd_t q
                replace q := b01_1 q
                refine Ev.blk 5 (B191_16 _ _ _ _ _ _ h2) rfl ?_
                refine Ev.call rfl rfl rfl (x_allNum (d := 28) (m := i) (w := w) (by omega) (by rw [W121]; exact hw) (by omega)) (by omega) ?_
                rintro v V' b' ⟨rfl, rfl, rfl⟩
                refine Ev.blk 3 (B191_24 _ _ _ _ _ _ _ _ _ ⟨by omega, by omega⟩) rfl ?_
                refine Ev.call rfl rfl rfl (x_in (d := 28) ⟨by omega, by omega⟩ (by decide) ⟨by omega, by omega⟩) (by omega) ?_
                rintro v V' b' ⟨rfl, rfl, rfl⟩
                refine Ev.blk 1 (B191_30 _ _ _ _ _ _ _ (b01_in _)) rfl ?_
                refine Ev.ite (fun _ => ?_) (fun z => absurd (show 0 ≤ (x : Int) ∧ (x : Int) ≤ pw 5 w - 1 by omega) (b01_0 (nd_f z)))
                refine Ev.blk 4 (B191_36 _ _ _ _ _ _) rfl ?_
                refine Ev.call rfl rfl rfl (x_tryN (d := 28) (m := i) (w := w) (r := r) (x := x) (by omega) (by rw [W121]; exact hw) (by omega) (by omega) (by omega)) (by omega) ?_
                rintro v U b' ⟨rfl, rfl, u1, u2, u3⟩
                refine Ev.blk 4 (B191_43 _ _ _ _ _ _) rfl ?_
                refine cnR_lp (r := r) (by omega) (fun j hj => by rw [u3 j hj]; exact dg_bd x w j) ?_ 8 0 rfl
                have U0 : ∀ y, y ≠ 135 → y ≠ 64 + r → U y = V y := fun y n1 n2 => by rw [u1 y n1, hr.1 y n2]
                refine ⟨by rw [bz_congr (n := 8) u3], (hi.more (Nat.le_succ N)).rule (fun y hy n1 n2 => U0 y n2 (by omega)) (by rw [U0 120 (by omega) (by omega)]) (by rw [U0 120 (by omega) (by omega)]) (fun r' a hr' ha => ?_), fun k => by rw [U0 0 (by omega) (by omega)]; exact hI.2 k⟩
                by_cases e : r' = r
                · rw [e, u3 a ha, u1 _ (by omega), hr.2 a (by omega) ha]
                  have := dg_bd x w a
                  omega
                · rw [U0 _ (by omega) (by omega), u2 _ (by omega), hr.1 135 (by omega)]
                  exact hi.ru r' a hr' ha
              · replace q := nd_f q
                replace q := b01_0 q
                refine Ev.blk 1 (B191_14 _ _ _ _ _ _) rfl ?_
                refine Ev.ret rfl rfl rfl (by first | rfl | exact decide_eq_true (b01_or _)) ?_
                (exfalso; omega)
        · replace q := of_decide_eq_false q
          simp only [cmpI_lt, cmpI_gt, cmpI_ge, cmpI_le, cmpI_eq] at q
          refine Ev.blk 1 (B30_45 _ _ _ _ _ _ _) rfl ?_
          refine Ev.ret rfl rfl rfl (by first | rfl | exact decide_eq_true (b01_or _)) ?_
          refine ⟨_, rfl, by decide, rfl, ?_⟩
          have hc : a2 < 0 ∨ pw 5 w ≤ a2 := by omega
          refine Ev.blk 1 (B191_0 _ _ _ _ _ _) rfl ?_
          refine Ev.call rfl rfl (rfl) (x_isMachineR (d := 27) h0) (by omega) ?_
          rintro v V' b' ⟨rfl, rfl, rfl⟩
          refine Ev.blk 1 (B191_4 _ _ _ _ _ _ _ (by first | assumption | omega | exact b01_in _ | exact ⟨by omega, by omega⟩)) rfl ?_
          refine Ev.ite (fun q => ?_) (fun q => ?_)
          · replace q := of_decide_eq_true q
            replace q := b01_0 q
            refine Ev.blk 1 (B191_14 _ _ _ _ _ _) rfl ?_
            refine Ev.ret rfl rfl rfl (by first | rfl | exact decide_eq_true (b01_or _)) ?_
            (exfalso; omega)
          · replace q := of_decide_eq_false q
            replace q := b01_1 q
            refine Ev.blk 1 (B191_7 _ _ _ _ _ _) rfl ?_
            refine Ev.call rfl rfl (rfl) (x_isRuleR (d := 27) h1) (by omega) ?_
            rintro v V' b' ⟨rfl, rfl, rfl⟩
            refine Ev.blk 1 (B191_11 _ _ _ _ _ _ _ (by first | assumption | omega | exact b01_in _ | exact ⟨by omega, by omega⟩)) rfl ?_
            refine Ev.ite (fun q => ?_) (fun q => ?_)
            · replace q := nd_t q
              replace q := b01_1 q
              refine Ev.blk 5 (B191_16 _ _ _ _ _ _ h2) rfl ?_
              rw [show a0 = ((a0.toNat : Nat) : Int) by omega]
              refine Ev.call rfl rfl rfl (x_allNum (d := 28) (m := a0.toNat) (w := w) (by omega) hw (by omega)) (by omega) ?_
              rintro v V' b' ⟨rfl, rfl, rfl⟩
              refine Ev.blk 3 (B191_24 _ _ _ _ _ _ _ _ _ ⟨by omega, by omega⟩) rfl ?_
              refine Ev.call rfl rfl rfl (x_in (d := 28) ⟨by omega, by omega⟩ (by decide) ⟨by omega, by omega⟩) (by omega) ?_
              rintro v V' b' ⟨rfl, rfl, rfl⟩
              refine Ev.blk 1 (B191_30 _ _ _ _ _ _ _ (b01_in _)) rfl ?_
              refine Ev.ite (fun z => ?_) (fun _ => ?_)
              · have z := b01_1 (nd_t z)
                omega
              · refine Ev.blk 1 (B191_33 _ _ _ _ _ _) rfl ?_
                exact Ev.ret rfl rfl rfl rfl ⟨rfl, hi.more (Nat.le_succ N), hI.2⟩
            · replace q := nd_f q
              replace q := b01_0 q
              refine Ev.blk 1 (B191_14 _ _ _ _ _ _) rfl ?_
              refine Ev.ret rfl rfl rfl (by first | rfl | exact decide_eq_true (b01_or _)) ?_
              (exfalso; omega)
    · replace q := nd_f q
      replace q := b01_0 q
      refine Ev.blk 1 (B30_14 _ _ _ _ _ _) rfl ?_
      refine Ev.ret rfl rfl rfl rfl ⟨_, rfl, by decide, rfl, ?_⟩
      refine Ev.blk 1 (B191_0 _ _ _ _ _ _) rfl ?_
      refine Ev.call rfl rfl (rfl) (x_isMachineR (d := 27) h0) (by omega) ?_
      rintro v V' b' ⟨rfl, h_, g_⟩
      subst V' b'
      refine Ev.blk 1 (B191_4 _ _ _ _ _ _ _ (by first | assumption | omega | exact b01_in _ | exact ⟨by omega, by omega⟩)) rfl ?_
      refine Ev.ite (fun q => ?_) (fun q => ?_)
      · replace q := of_decide_eq_true q
        replace q := b01_0 q
        refine Ev.blk 1 (B191_14 _ _ _ _ _ _) rfl ?_
        refine Ev.ret rfl rfl rfl (by first | rfl | exact decide_eq_true (b01_or _)) ?_
        first | (exfalso; omega) | exact ⟨rfl, hi.more (Nat.le_succ N), hI.2⟩
      · replace q := of_decide_eq_false q
        replace q := b01_1 q
        refine Ev.blk 1 (B191_7 _ _ _ _ _ _) rfl ?_
        refine Ev.call rfl rfl (rfl) (x_isRuleR (d := 27) h1) (by omega) ?_
        rintro v V' b' ⟨rfl, h_, g_⟩
        subst V' b'
        refine Ev.blk 1 (B191_11 _ _ _ _ _ _ _ (by first | assumption | omega | exact b01_in _ | exact ⟨by omega, by omega⟩)) rfl ?_
        refine Ev.ite (fun q => ?_) (fun q => ?_)
        · replace q := nd_t q
          replace q := b01_1 q
          (exfalso; omega)
        · replace q := nd_f q
          replace q := b01_0 q
          refine Ev.blk 1 (B191_14 _ _ _ _ _ _) rfl ?_
          refine Ev.ret rfl rfl rfl (by first | rfl | exact decide_eq_true (b01_or _)) ?_
          first | (exfalso; omega) | exact ⟨rfl, hi.more (Nat.le_succ N), hI.2⟩

