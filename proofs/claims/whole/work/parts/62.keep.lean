/-! the 38 calls: keep, again (specs21.py) -/
theorem Inv.slt {N : Nat} {V V' : Mv} (h : Inv N V) (hA : ∀ a, dI a → ¬ (72 ≤ a ∧ a ≤ 99) → ¬ (146 ≤ a ∧ a ≤ 150) → V' a = V a) (h1 : V' 120 10 = V 120 10) (h2 : V' 120 37 = V 120 37) (n_us : ∀ s : Nat, s < 2 → V' (72 + 14 * s) 0 = V' 146 s ∧ (V' 146 s = 0 ∨ V' 146 s = 1)) (n_sl : ∀ s : Nat, s < 2 → V' 146 s = 1 → Sl V' s) : Inv N V' := by
  unfold dI at hA
  apply Inv.mk
  · intro i hi
    exact (h.kd i hi).frame (fun j hj => hA _ (by omega) (by omega) (by omega)) (fun a _ _ => hA a (by omega) (by omega) (by omega))
  · intro i a hi ha
    rw [hA (22 + 15 * i) (by omega) (by omega) (by omega), hA 130 (by omega) (by omega) (by omega)]
    exact h.th i a hi ha
  · rw [hA 130 (by omega) (by omega) (by omega), hA 121 (by omega) (by omega) (by omega)]
    exact h.tv
  · intro r a hr ha
    rw [hA (64 + r) (by omega) (by omega) (by omega), hA 135 (by omega) (by omega) (by omega)]
    exact h.ru r a hr ha
  · rw [hA 2 (by omega) (by omega) (by omega), h1]
    exact h.tl
  · rw [hA 3 (by omega) (by omega) (by omega), hA 128 (by omega) (by omega) (by omega)]
    exact h.tb
  · rw [hA 69 (by omega) (by omega) (by omega), h2]
    exact h.ll
  · rw [hA 70 (by omega) (by omega) (by omega), hA 145 (by omega) (by omega) (by omega)]
    exact h.lr
  · rw [hA 62 (by omega) (by omega) (by omega), hA 129 (by omega) (by omega) (by omega)]
    exact h.md
  · exact n_us
  · exact n_sl
  · intro i hi
    exact (h.br i hi).row (hA (24 + 15 * i) (by omega) (by omega) (by omega)) (hA (25 + 15 * i) (by omega) (by omega) (by omega)) (fun a _ _ => hA a (by omega) (by omega) (by omega))
theorem Inv.tlg {N : Nat} {V V' : Mv} (h : Inv N V) (hA : ∀ a, dI a → a ≠ 22 → a ≠ 37 → a ≠ 52 → a ≠ 130 → a ≠ 69 → a ≠ 70 → a ≠ 145 → V' a = V a) (h1 : V' 120 10 = V 120 10) (n_th : ∀ i a : Nat, i < 3 → a < 8 → V' (22 + 15 * i) a = V' 130 (8 * i + a)) (n_tv : ∀ i : Nat, i < 3 → Wt (fun a => V' 130 (8 * i + a)) (V' 121 i)) (n_ll : V' 69 0 = V' 120 37 ∧ 0 ≤ V' 120 37 ∧ V' 120 37 ≤ 16) (n_lr : ∀ j : Nat, j < 16 → V' 70 j = V' 145 j ∧ 0 ≤ V' 145 j ∧ V' 145 j ≤ 5) : Inv N V' := by
  unfold dI at hA
  apply Inv.mk
  · intro i hi
    exact (h.kd i hi).frame (fun j hj => hA _ (by omega) (by omega) (by omega) (by omega) (by omega) (by omega) (by omega) (by omega)) (fun a _ _ => hA a (by omega) (by omega) (by omega) (by omega) (by omega) (by omega) (by omega) (by omega))
  · exact n_th
  · exact n_tv
  · intro r a hr ha
    rw [hA (64 + r) (by omega) (by omega) (by omega) (by omega) (by omega) (by omega) (by omega) (by omega), hA 135 (by omega) (by omega) (by omega) (by omega) (by omega) (by omega) (by omega) (by omega)]
    exact h.ru r a hr ha
  · rw [hA 2 (by omega) (by omega) (by omega) (by omega) (by omega) (by omega) (by omega) (by omega), h1]
    exact h.tl
  · rw [hA 3 (by omega) (by omega) (by omega) (by omega) (by omega) (by omega) (by omega) (by omega), hA 128 (by omega) (by omega) (by omega) (by omega) (by omega) (by omega) (by omega) (by omega)]
    exact h.tb
  · exact n_ll
  · exact n_lr
  · rw [hA 62 (by omega) (by omega) (by omega) (by omega) (by omega) (by omega) (by omega) (by omega), hA 129 (by omega) (by omega) (by omega) (by omega) (by omega) (by omega) (by omega) (by omega)]
    exact h.md
  · intro s hs
    rw [hA (72 + 14 * s) (by omega) (by omega) (by omega) (by omega) (by omega) (by omega) (by omega) (by omega), hA 146 (by omega) (by omega) (by omega) (by omega) (by omega) (by omega) (by omega) (by omega)]
    exact h.us s hs
  · intro s hs
    rw [hA 146 (by omega) (by omega) (by omega) (by omega) (by omega) (by omega) (by omega) (by omega)]
    exact fun q => (h.sl s hs q).frame hs (fun a ha => hA a (by omega) (by omega) (by omega) (by omega) (by omega) (by omega) (by omega) (by omega))
  · intro i hi
    exact (h.br i hi).row (hA (24 + 15 * i) (by omega) (by omega) (by omega) (by omega) (by omega) (by omega) (by omega) (by omega)) (hA (25 + 15 * i) (by omega) (by omega) (by omega) (by omega) (by omega) (by omega) (by omega) (by omega)) (fun a _ _ => hA a (by omega) (by omega) (by omega) (by omega) (by omega) (by omega) (by omega) (by omega))
theorem x_copyL {L d : Nat} {V : Mv} {b : Bool} {a c : Nat} (ha : isL4 a) (hc : isL4 c) (n1 : c + 1 ≠ a) : Ex L d 90 [.inr (.inr a), .inr (.inr c)] V b (Ans none (fil (uV V a 0 (V c 0)) (a + 1) 0 (V (c + 1)) 16) b) := by
  refine Ev.blk 12 (J90_0 _ _ _ _ _ hc ha) rfl ?_
  refine Ev.ret rfl rfl rfl rfl ⟨rfl, ?_, rfl⟩
  show cV (uV V a 0 (V c 0)) (c + 1) 0 (a + 1) 0 16 = _
  rw [cV_fil, uV_ne n1]
theorem sto_lp {L d : Nat} {V : Mv} {b : Bool} {Q : Option AV → Mv → Bool → Prop} {a : Nat} (ha : isS a) (hQ : ∀ W, ((∀ x, x ≠ a + 2 → x ≠ a + 6 → x ≠ a + 9 → x ≠ a + 12 → W x = V x) ∧ (∀ i j, i < 3 → j < 8 → W (a + 6 + 3 * i) j = V (22 + 15 * i) j) ∧ (∀ i, i < 3 → W (a + 2) i = V 62 i)) → Ev L (d + 1) 92 40 [some (.inr (.inr a)), some (.inr (.inr 12)), some (.inr (.inr 62)), some (.inr (.inr 69)), some (.inl (3 : Int))] [] W b Q) : ∀ (n k : Nat) (W : Mv), k + n = 3 → ((∀ x, x ≠ a + 2 → x ≠ a + 6 → x ≠ a + 9 → x ≠ a + 12 → W x = V x) ∧ (∀ i j, i < k → j < 8 → W (a + 6 + 3 * i) j = V (22 + 15 * i) j) ∧ (∀ i, i < k → W (a + 2) i = V 62 i)) → Ev L (d + 1) 92 3 [some (.inr (.inr a)), some (.inr (.inr 12)), some (.inr (.inr 62)), some (.inr (.inr 69)), some (.inl (k : Int))] [] W b Q
  | 0, k, W, h, hr => by
    obtain rfl : k = 3 := by omega
    refine Ev.blk 3 (B92_3 _ _ _ _ _ _ (by first | exact ha | omega | exact ⟨by omega, by omega⟩)) rfl ?_
    refine Ev.ite (fun q => ?_) (fun q => ?_)
    · replace q := of_decide_eq_true q
      exact hQ W hr
    · replace q := of_decide_eq_false q
      exact absurd q (by omega)
  | n + 1, k, W, h, hr => by
    have ih := sto_lp (L := L) (d := d) ha hQ n (k + 1)
    have ha72 : a = 72 ∨ a = 86 := ha
    have e1 : W (21 + 15 * k + 1) = V (22 + 15 * k) := by
      rw [show 21 + 15 * k + 1 = 22 + 15 * k by omega]
      exact hr.1 _ (by omega) (by omega) (by omega) (by omega)
    have e2 : a + 6 + 3 * k = a + 1 + 4 + 3 * k + 1 := by omega
    have hT : isT (a + 1 + 4 + 3 * k) := k_S (i := (k : Int)) ha (by omega)
    have hT2 : isT (21 + 15 * k) := k_12 (i := (k : Int)) (by omega)
    have e3 : (fil W (a + 1 + 4 + 3 * k + 1) 0 (W (21 + 15 * k + 1)) 8) 62 = V 62 := by
      rw [fil_ne (by omega)]
      exact hr.1 62 (by omega) (by omega) (by omega) (by omega)
    refine Ev.blk 3 (B92_3 _ _ _ _ _ _ (by first | exact ha | omega | exact ⟨by omega, by omega⟩)) rfl ?_
    refine Ev.ite (fun q => ?_) (fun q => ?_)
    · replace q := of_decide_eq_true q
      exact absurd q (by omega)
    · replace q := of_decide_eq_false q
      refine Ev.blk 7 (B92_9 _ _ _ _ _ _ (by first | exact ha | omega | exact ⟨by omega, by omega⟩) (by first | exact ha | omega | exact ⟨by omega, by omega⟩)) rfl ?_
      refine Ev.call rfl rfl (vg rfl rfl (isT_0 hT) (congrArg Prod.fst (isT_T hT)) rfl) (x_copyT (d := d) hT hT2) (by omega) ?_
      rintro v V' b' ⟨rfl, rfl, rfl⟩
      refine Ev.blk 9 (B92_23 _ _ _ _ _ _ (by first | exact ha | omega | exact ⟨by omega, by omega⟩) (by first | exact ha | omega | exact ⟨by omega, by omega⟩)) rfl ?_
      refine ih _ (by omega) ⟨fun x n1 n2 n3 n4 => ?_, fun i j hi hj => ?_, fun i hi => ?_⟩
      · rw [uV_ne n1, fil_ne (by omega)]
        exact hr.1 x n1 n2 n3 n4
      · rw [uV_ne (by omega)]
        by_cases e : i = k
        · rw [e, e2, Int.toNat_natCast, fil_z hj, e1]
        · rw [fil_ne (by omega)]
          exact hr.2.1 i j (by omega) hj
      · rw [uV_at, Int.toNat_natCast, e3]
        by_cases e : i = k
        · rw [if_pos e, e]
        · rw [if_neg e, fil_ne (by omega)]
          exact hr.2.2 i (by omega)

theorem x_store {L d : Nat} {V : Mv} {b : Bool} {a : Nat} (ha : isS a) (h0 : V a 0 = 0 ∨ V a 0 = 1) : Ex L (d + 1) 92 [.inr (.inr a), .inr (.inr 12), .inr (.inr 62), .inr (.inr 69)] V b (fun v V' b' => v = some (.inl (if V a 0 = 0 then 1 else 0)) ∧ b' = b ∧ (∀ x, ¬ (a ≤ x ∧ x ≤ a + 13) → V' x = V x) ∧ V' a 0 = 1 ∧ (∀ i j, i < 3 → j < 8 → V' (a + 6 + 3 * i) j = V (22 + 15 * i) j) ∧ (∀ i, i < 3 → V' (a + 2) i = V 62 i) ∧ V' (a + 3) 0 = V 69 0 ∧ (∀ j, j < 16 → V' (a + 4) j = V 70 j)) := by
  have ha72 : a = 72 ∨ a = 86 := ha
  have hL : isL4 (a + 3) := isS_C3 ha
  have hL2 : isL4 69 := by unfold isL4; decide
  refine Ev.blk 2 (B92_0 _ _ _ _ _) rfl ?_
  refine sto_lp ha (fun W hr => ?_) 3 0 V rfl ⟨fun x _ _ _ _ => rfl, fun i j hi _ => absurd hi (by omega), fun i hi => absurd hi (by omega)⟩
  refine Ev.blk 3 (B92_40 _ _ _ _ _ _ ha) rfl ?_
  refine Ev.call rfl rfl (vg rfl rfl (isL4_0 hL) (congrArg Prod.fst (isL4_T (L := L) hL)) rfl) (x_copyL (d := d) hL hL2 (by omega)) (by omega) ?_
  rintro v V1 b1 ⟨rfl, rfl, rfl⟩
  have w0 : ∀ x, ¬ (a ≤ x ∧ x ≤ a + 13) → fil (uV W (a + 3) 0 (W 69 0)) (a + 3 + 1) 0 (W (69 + 1)) 16 x = V x := fun x hx => by
    rw [fil_ne (by omega), uV_ne (by omega)]
    exact hr.1 x (by omega) (by omega) (by omega) (by omega)
  have wa : fil (uV W (a + 3) 0 (W 69 0)) (a + 3 + 1) 0 (W (69 + 1)) 16 a 0 = V a 0 := by
    rw [fil_ne (by omega), uV_ne (by omega), hr.1 a (by omega) (by omega) (by omega) (by omega)]
  have last : ∀ (z : Int), z = (if V a 0 = 0 then 1 else 0) → Ev L (d + 1) 92 60 [some (.inr (.inr a)), some (.inr (.inr 12)), some (.inr (.inr 62)), some (.inr (.inr 69)), some (.inl 3)] [.inl z] (fil (uV W (a + 3) 0 (W 69 0)) (a + 3 + 1) 0 (W (69 + 1)) 16) b1 (fun v V' b' => v = some (.inl (if V a 0 = 0 then 1 else 0)) ∧ b' = b1 ∧ (∀ x, ¬ (a ≤ x ∧ x ≤ a + 13) → V' x = V x) ∧ V' a 0 = 1 ∧ (∀ i j, i < 3 → j < 8 → V' (a + 6 + 3 * i) j = V (22 + 15 * i) j) ∧ (∀ i, i < 3 → V' (a + 2) i = V 62 i) ∧ V' (a + 3) 0 = V 69 0 ∧ (∀ j, j < 16 → V' (a + 4) j = V 70 j)) := by
    intro z hz
    refine Ev.blk 5 (B92_60 _ _ _ _ _ _ _ ha) rfl ?_
    refine Ev.ret rfl rfl rfl rfl ⟨by rw [hz], rfl, fun x hx => ?_, ?_, fun i j hi hj => ?_, fun i hi => ?_, ?_, fun j hj => ?_⟩
    · rw [uV_ne (by omega)]
      exact w0 x hx
    · rw [uV_at, if_pos rfl]
    · rw [uV_ne (by omega), fil_ne (by omega), uV_ne (by omega)]
      exact hr.2.1 i j hi hj
    · rw [uV_ne (by omega), fil_ne (by omega), uV_ne (by omega)]
      exact hr.2.2 i hi
    · rw [uV_ne (by omega), fil_ne (by omega), uV_at, if_pos rfl, hr.1 69 (by omega) (by omega) (by omega) (by omega)]
    · rw [uV_ne (by omega), show a + 4 = a + 3 + 1 by omega, fil_z hj, hr.1 (69 + 1) (by omega) (by omega) (by omega) (by omega)]
  refine Ev.blk 3 (B92_48 _ _ _ _ _ _ ha (by rw [wa]; exact ⟨by omega, by omega⟩)) rfl ?_
  rw [wa]
  refine Ev.ite (fun q => ?_) (fun q => ?_)
  · replace q := of_decide_eq_true q
    refine Ev.blk 1 (B92_59 _ _ _ _ _ _) rfl ?_
    exact last 1 (by rw [if_pos q])
  · replace q := of_decide_eq_false q
    refine Ev.blk 2 (B92_55 _ _ _ _ _ _) rfl ?_
    exact last 0 (by rw [if_neg q])
theorem kp1_lp {L d : Nat} {V : Mv} {b : Bool} {Q : Option AV → Mv → Bool → Prop} {s : Nat} {z : Int} (hs : s < 2) (hQ : Ev L d 227 65 [some (.inr (.inr 120)), some (.inl (s : Int)), some (.inl z), some (.inl (24 : Int))] [] (fil V 147 (24 * s) (V 130) 24) b Q) : ∀ n k : Nat, k + n = 24 → Ev L (d) 227 36 [some (.inr (.inr 120)), some (.inl (s : Int)), some (.inl z), some (.inl (k : Int))] [] (fil V 147 (24 * s) (V 130) k) b Q
  | 0, k, h => by
    obtain rfl : k = 24 := by omega
    refine Ev.blk 3 (B227_36 _ _ _ _ _ _ (by first | assumption | omega | decide | exact cmpI_in _ _ | exact ⟨by omega, by omega⟩)) rfl ?_
    refine Ev.ite (fun q => ?_) (fun q => ?_)
    · replace q := of_decide_eq_true q
      exact hQ
    · replace q := of_decide_eq_false q
      exact absurd q (by omega)
  | n + 1, k, h => by
    have ih := kp1_lp (L := L) (d := d) (z := z) hs hQ n (k + 1) (by omega)
    refine Ev.blk 3 (B227_36 _ _ _ _ _ _ (by first | assumption | omega | decide | exact cmpI_in _ _ | exact ⟨by omega, by omega⟩)) rfl ?_
    refine Ev.ite (fun q => ?_) (fun q => ?_)
    · replace q := of_decide_eq_true q
      exact absurd q (by omega)
    · replace q := of_decide_eq_false q
      refine Ev.blk 14 (B227_42 _ _ _ _ _ _ (by first | assumption | omega | decide | exact cmpI_in _ _ | exact ⟨by omega, by omega⟩) (by first | assumption | omega | decide | exact cmpI_in _ _ | exact ⟨by omega, by omega⟩)) rfl ?_
      exact Ev.mem (fil_st (by omega) (by rw [fil_ne (by omega), Int.toNat_natCast])) ih

theorem kp2_lp {L d : Nat} {V : Mv} {b : Bool} {Q : Option AV → Mv → Bool → Prop} {s : Nat} {z : Int} (hs : s < 2) (hQ : Ev L d 227 106 [some (.inr (.inr 120)), some (.inl (s : Int)), some (.inl z), some (.inl (16 : Int))] [] (fil V 149 (16 * s) (V 145) 16) b Q) : ∀ n k : Nat, k + n = 16 → Ev L (d) 227 77 [some (.inr (.inr 120)), some (.inl (s : Int)), some (.inl z), some (.inl (k : Int))] [] (fil V 149 (16 * s) (V 145) k) b Q
  | 0, k, h => by
    obtain rfl : k = 16 := by omega
    refine Ev.blk 3 (B227_77 _ _ _ _ _ _ (by first | assumption | omega | decide | exact cmpI_in _ _ | exact ⟨by omega, by omega⟩)) rfl ?_
    refine Ev.ite (fun q => ?_) (fun q => ?_)
    · replace q := of_decide_eq_true q
      exact hQ
    · replace q := of_decide_eq_false q
      exact absurd q (by omega)
  | n + 1, k, h => by
    have ih := kp2_lp (L := L) (d := d) (z := z) hs hQ n (k + 1) (by omega)
    refine Ev.blk 3 (B227_77 _ _ _ _ _ _ (by first | assumption | omega | decide | exact cmpI_in _ _ | exact ⟨by omega, by omega⟩)) rfl ?_
    refine Ev.ite (fun q => ?_) (fun q => ?_)
    · replace q := of_decide_eq_true q
      exact absurd q (by omega)
    · replace q := of_decide_eq_false q
      refine Ev.blk 14 (B227_83 _ _ _ _ _ _ (by first | assumption | omega | decide | exact cmpI_in _ _ | exact ⟨by omega, by omega⟩) (by first | assumption | omega | decide | exact cmpI_in _ _ | exact ⟨by omega, by omega⟩)) rfl ?_
      exact Ev.mem (fil_st (by omega) (by rw [fil_ne (by omega), Int.toNat_natCast])) ih

theorem kp3_lp {L d : Nat} {V : Mv} {b : Bool} {Q : Option AV → Mv → Bool → Prop} {s : Nat} {z : Int} (hs : s < 2) (hQ : Ev L d 227 135 [some (.inr (.inr 120)), some (.inl (s : Int)), some (.inl z), some (.inl (3 : Int))] [] (fil V 150 (3 * s) (V 129) 3) b Q) : ∀ n k : Nat, k + n = 3 → Ev L (d) 227 108 [some (.inr (.inr 120)), some (.inl (s : Int)), some (.inl z), some (.inl (k : Int))] [] (fil V 150 (3 * s) (V 129) k) b Q
  | 0, k, h => by
    obtain rfl : k = 3 := by omega
    refine Ev.blk 3 (B227_108 _ _ _ _ _ _ (by first | assumption | omega | decide | exact cmpI_in _ _ | exact ⟨by omega, by omega⟩)) rfl ?_
    refine Ev.ite (fun q => ?_) (fun q => ?_)
    · replace q := of_decide_eq_true q
      exact hQ
    · replace q := of_decide_eq_false q
      exact absurd q (by omega)
  | n + 1, k, h => by
    have ih := kp3_lp (L := L) (d := d) (z := z) hs hQ n (k + 1) (by omega)
    refine Ev.blk 3 (B227_108 _ _ _ _ _ _ (by first | assumption | omega | decide | exact cmpI_in _ _ | exact ⟨by omega, by omega⟩)) rfl ?_
    refine Ev.ite (fun q => ?_) (fun q => ?_)
    · replace q := of_decide_eq_true q
      exact absurd q (by omega)
    · replace q := of_decide_eq_false q
      refine Ev.blk 14 (B227_113 _ _ _ _ _ _ (by first | assumption | omega | decide | exact cmpI_in _ _ | exact ⟨by omega, by omega⟩) (by first | assumption | omega | decide | exact cmpI_in _ _ | exact ⟨by omega, by omega⟩)) rfl ?_
      exact Ev.mem (fil_st (by omega) (by rw [fil_ne (by omega), Int.toNat_natCast])) ih

theorem op_keep (a0 : Int) (h0 : in32 a0) : OpI 47 227 [.inl a0] := by
  intro L N V b hL hN hI
  have hi := hI.1
  refine Ev.blk 1 (B47_0 _ _ _ _) rfl ?_
  refine Ev.call rfl rfl rfl (x_isSlotC (d := 28) h0) (by omega) ?_
  rintro v V' b' ⟨rfl, rfl, rfl⟩
  refine Ev.blk 1 (B47_4 _ _ _ _ _ (b01_in _)) rfl ?_
  refine Ev.ite (fun q => ?_) (fun q => ?_)
  · replace q := b01_1 (nd_t q)
    obtain ⟨s, rfl⟩ : ∃ k : Nat, a0 = (k : Int) := ⟨a0.toNat, by omega⟩
    have hs : s < 2 := by omega
    have hS : isS (72 + 14 * s) := k_71 (i := (s : Int)) q
    have hu := hi.us s hs
    refine Ev.blk 10 (B47_9 _ _ _ _ q) rfl ?_
    rw [Int.toNat_natCast]
    refine Ev.call rfl rfl (vg rfl rfl (isS_0 hS) (congrArg Prod.fst (isS_T hS)) rfl) (x_store (d := 27) hS (by omega)) (by omega) ?_
    rintro v V1 b1 ⟨rfl, rfl, f0, f1, f2, f3, f4, f5⟩
    have e146 : V1 146 s = V' 146 s := by rw [f0 146 (by omega)]
    refine Ev.ret rfl rfl rfl rfl ⟨_, rfl, ?_, f0 0 (by omega), ?_⟩
    · split <;> decide
    refine Ev.blk 4 (B227_0 _ _ _ _ h0) rfl ?_
    refine Ev.call rfl rfl rfl (x_in (d := 28) ⟨by omega, by omega⟩ (by decide) (by decide)) (by omega) ?_
    rintro v V2 b2 ⟨rfl, rfl, rfl⟩
    refine Ev.blk 1 (B227_7 _ _ _ _ _ (b01_in _)) rfl ?_
    refine Ev.ite (fun _ => ?_) (fun z => absurd (show 0 ≤ (s : Int) ∧ (s : Int) ≤ 1 by omega) (b01_0 (nd_f z)))
    have last : ∀ z : Int, z = (if V' (72 + 14 * s) 0 = 0 then 1 else 0) → Ev L 29 227 26 [some (.inr (.inr 120)), some (.inl (s : Int)), none, none] [.inl z] V2 b2 (fun v2 V3 _ => v2 = some (.inl (if V' (72 + 14 * s) 0 = 0 then 1 else 0)) ∧ Iv (N + 1) V3) := by
      intro z hz
      refine Ev.blk 8 (B227_26 _ _ _ _ _ (by omega)) rfl ?_
      rw [Int.toNat_natCast]
      refine Ev.mem (fil_0 _ 147 (24 * s) (uV V2 146 s 1 130)).symm (kp1_lp hs ?_ 24 0 rfl)
      refine Ev.blk 8 (B227_65 _ _ _ _ _ _ (by omega)) rfl ?_
      rw [Int.toNat_natCast]
      refine Ev.mem (fil_0 _ 149 (16 * s) _).symm (kp2_lp hs ?_ 16 0 rfl)
      refine Ev.blk 2 (B227_106 _ _ _ _ _ _) rfl ?_
      refine Ev.mem (fil_0 _ 150 (3 * s) _).symm (kp3_lp hs ?_ 3 0 rfl)
      refine Ev.blk 1 (B227_135 _ _ _ _ _ _) rfl ?_
      obtain ⟨A, hA⟩ : ∃ A, A = uV V2 146 s 1 := ⟨_, rfl⟩
      rw [← hA]
      obtain ⟨B, hB⟩ : ∃ B, B = fil A 147 (24 * s) (A 130) 24 := ⟨_, rfl⟩
      rw [← hB]
      obtain ⟨C, hC⟩ : ∃ C, C = uV B 148 s (B 120 37) := ⟨_, rfl⟩
      rw [← hC]
      obtain ⟨D, hD⟩ : ∃ D, D = fil C 149 (16 * s) (C 145) 16 := ⟨_, rfl⟩
      rw [← hD]
      obtain ⟨E, hE⟩ : ∃ E, E = fil D 150 (3 * s) (D 129) 3 := ⟨_, rfl⟩
      rw [← hE]
      have A0 : ∀ x, x ≠ 146 → A x = V2 x := fun x n => by rw [hA, uV_ne n]
      have B0 : ∀ x, x ≠ 146 → x ≠ 147 → B x = V2 x := fun x n1 n2 => by rw [hB, fil_ne n2, A0 x n1]
      have C0 : ∀ x, x ≠ 146 → x ≠ 147 → x ≠ 148 → C x = V2 x := fun x n1 n2 n3 => by rw [hC, uV_ne n3, B0 x n1 n2]
      have D0 : ∀ x, x ≠ 146 → x ≠ 147 → x ≠ 148 → x ≠ 149 → D x = V2 x := fun x n1 n2 n3 n4 => by rw [hD, fil_ne n4, C0 x n1 n2 n3]
      have E0 : ∀ x, ¬ (146 ≤ x ∧ x ≤ 150) → E x = V2 x := fun x n => by rw [hE, fil_ne (by omega), D0 x (by omega) (by omega) (by omega) (by omega)]
      have E146 : ∀ k, E 146 k = if k = s then 1 else V2 146 k := fun k => by rw [hE, fil_ne (by omega), hD, fil_ne (by omega), hC, uV_ne (by omega), hB, fil_ne (by omega), hA, uV_at]
      have E147 : E 147 = fil A 147 (24 * s) (V2 130) 24 147 := by rw [hE, fil_ne (by omega), hD, fil_ne (by omega), hC, uV_ne (by omega), hB, A0 130 (by omega)]
      have E148 : ∀ k, E 148 k = if k = s then V2 120 37 else V2 148 k := fun k => by rw [hE, fil_ne (by omega), hD, fil_ne (by omega), hC, uV_at, B0 120 (by omega) (by omega), B0 148 (by omega) (by omega)]
      have E149 : E 149 = fil C 149 (16 * s) (V2 145) 16 149 := by rw [hE, fil_ne (by omega), hD, C0 145 (by omega) (by omega) (by omega)]
      have E150 : E 150 = fil D 150 (3 * s) (V2 129) 3 150 := by rw [hE, D0 129 (by omega) (by omega) (by omega) (by omega)]
      have G0 : ∀ x, ¬ (146 ≤ x ∧ x ≤ 150) → ¬ (72 + 14 * s ≤ x ∧ x ≤ 72 + 14 * s + 13) → E x = V' x := fun x n1 n2 => by rw [E0 x n1, f0 x n2]
      have o147 : ∀ s' k, s' < 2 → s' ≠ s → k < 24 → E 147 (24 * s' + k) = V' 147 (24 * s' + k) := fun s' k h1 h2 h3 => by
        rw [E147, fil_out (by omega), A0 147 (by omega), f0 147 (by omega)]
      have o149 : ∀ s' k, s' < 2 → s' ≠ s → k < 16 → E 149 (16 * s' + k) = V' 149 (16 * s' + k) := fun s' k h1 h2 h3 => by
        rw [E149, fil_out (by omega), C0 149 (by omega) (by omega) (by omega), f0 149 (by omega)]
      have o150 : ∀ s' k, s' < 2 → s' ≠ s → k < 3 → E 150 (3 * s' + k) = V' 150 (3 * s' + k) := fun s' k h1 h2 h3 => by
        rw [E150, fil_out (by omega), D0 150 (by omega) (by omega) (by omega) (by omega), f0 150 (by omega)]
      have e129 : E 129 = V' 129 := G0 129 (by omega) (by omega)
      have e121 : E 121 = V' 121 := G0 121 (by omega) (by omega)
      refine Ev.ret rfl rfl rfl rfl ⟨by rw [hz], (hi.more (Nat.le_succ N)).slt (fun x hx n1 n2 => G0 x n2 (by omega)) (by rw [G0 120 (by omega) (by omega)]) (by rw [G0 120 (by omega) (by omega)]) (fun s' hs' => ?_) (fun s' hs' hus => ?_), fun k => by rw [G0 0 (by omega) (by omega)]; exact hI.2 k⟩
      · rw [E146]
        by_cases e : s' = s
        · rw [if_pos e, e, E0 _ (by omega), f1]
          exact ⟨rfl, Or.inr rfl⟩
        · rw [if_neg e, G0 _ (by omega) (by omega), f0 146 (by omega)]
          exact hi.us s' hs'
      · by_cases e : s' = s
        · subst e
          refine Sl.mk (fun i a hi3 ha => ?_) (fun i hi3 => ?_) (fun i hi3 _ => ?_) ?_ (fun j hj => ?_)
          · rw [E0 _ (by omega), show 78 + 14 * s' + 3 * i = 72 + 14 * s' + 6 + 3 * i by omega, f2 i a hi3 ha, E147, show 24 * s' + 8 * i + a = 24 * s' + (8 * i + a) by omega, fil_at (by omega), f0 130 (by omega)]
            exact hi.th i a hi3 ha
          · rw [E0 _ (by omega), show 74 + 14 * s' = 72 + 14 * s' + 2 by omega, f3 i hi3, E150, fil_at (by omega), f0 129 (by omega), e129]
            have := hi.md i hi3
            omega
          · rw [e121]
            refine (hi.tv i hi3).congr (fun j hj => ?_)
            show E 147 (24 * s' + 8 * i + j) = _
            rw [E147, show 24 * s' + 8 * i + j = 24 * s' + (8 * i + j) by omega, fil_at (by omega), f0 130 (by omega)]
          · rw [E148, if_pos rfl, E0 _ (by omega), show 75 + 14 * s' = 72 + 14 * s' + 3 by omega, f4, f0 120 (by omega)]
            exact hi.ll
          · rw [E0 _ (by omega), show 76 + 14 * s' = 72 + 14 * s' + 4 by omega, f5 j hj, E149, fil_at hj, f0 145 (by omega)]
            exact hi.lr j hj
        · rw [E146, if_neg e, f0 146 (by omega)] at hus
          have hsl := hi.sl s' hs' hus
          refine Sl.mk (fun i a hi3 ha => ?_) (fun i hi3 => ?_) (fun i hi3 => ?_) ?_ (fun j hj => ?_)
          · rw [G0 _ (by omega) (by omega), show 24 * s' + 8 * i + a = 24 * s' + (8 * i + a) by omega, o147 s' _ hs' e (by omega), show 24 * s' + (8 * i + a) = 24 * s' + 8 * i + a by omega]
            exact hsl.th i a hi3 ha
          · rw [G0 _ (by omega) (by omega), o150 s' i hs' e hi3, e129]
            exact hsl.md i hi3
          · rw [o150 s' i hs' e hi3, e129, e121]
            intro h
            refine (hsl.ok i hi3 h).congr (fun j hj => ?_)
            show E 147 (24 * s' + 8 * i + j) = _
            rw [show 24 * s' + 8 * i + j = 24 * s' + (8 * i + j) by omega, o147 s' _ hs' e (by omega)]
          · rw [G0 _ (by omega) (by omega), E148, if_neg e, f0 148 (by omega)]
            exact hsl.ll
          · rw [G0 _ (by omega) (by omega), o149 s' j hs' e hj]
            exact hsl.lr j hj
    refine Ev.blk 5 (B227_12 _ _ _ _ (by omega) (by rw [Int.toNat_natCast]; exact ⟨by omega, by omega⟩)) rfl ?_
    rw [Int.toNat_natCast]
    refine Ev.ite (fun z => ?_) (fun z => ?_)
    · replace z := of_decide_eq_true z
      refine Ev.blk 1 (B227_25 _ _ _ _) rfl ?_
      exact last 1 (by rw [if_pos (by omega)])
    · replace z := of_decide_eq_false z
      refine Ev.blk 2 (B227_21 _ _ _ _) rfl ?_
      exact last 0 (by rw [if_neg (by omega)])
  · replace q := b01_0 (nd_f q)
    refine Ev.blk 1 (B47_7 _ _ _ _) rfl ?_
    refine Ev.ret rfl rfl rfl rfl ⟨_, rfl, by decide, rfl, ?_⟩
    refine Ev.blk 4 (B227_0 _ _ _ _ h0) rfl ?_
    refine Ev.call rfl rfl rfl (x_in (d := 28) ⟨by omega, by omega⟩ (by decide) (by decide)) (by omega) ?_
    rintro v V4 b4 ⟨rfl, rfl, rfl⟩
    refine Ev.blk 1 (B227_7 _ _ _ _ _ (b01_in _)) rfl ?_
    refine Ev.ite (fun z => ?_) (fun _ => ?_)
    · have z := b01_1 (nd_t z)
      omega
    · refine Ev.blk 1 (B227_10 _ _ _ _) rfl ?_
      exact Ev.ret rfl rfl rfl rfl ⟨rfl, hi.more (Nat.le_succ N), hI.2⟩
