/-! the 38 calls: again (specs22.py) -/
/-- how many of the first k agree -/
def cnE (f g : Nat → Int) (k : Nat) : Int := sumN (fun i => if f i = g i then 1 else 0) k
theorem cnE_t {f g : Nat → Int} {k : Nat} (h : f k = g k) : cnE f g (k + 1) = cnE f g k + 1 := by
  show cnE f g k + (if f k = g k then 1 else 0) = _
  rw [if_pos h]
theorem cnE_f {f g : Nat → Int} {k : Nat} (h : ¬ f k = g k) : cnE f g (k + 1) = cnE f g k := by
  show cnE f g k + (if f k = g k then 1 else 0) = _
  rw [if_neg h, Int.add_zero]
theorem cnE_bd (f g : Nat → Int) : 0 ≤ cnE f g 3 ∧ cnE f g 3 ≤ 3 := by
  unfold cnE
  have := sumN_bd (f := fun i => if f i = g i then 1 else 0) (B := 1) 3 (fun j hj => by
    show 0 ≤ (if f j = g j then (1 : Int) else 0) ∧ (if f j = g j then (1 : Int) else 0) ≤ 1
    split <;> omega)
  omega
theorem rst_lp {L d : Nat} {V : Mv} {b : Bool} {Q : Option AV → Mv → Bool → Prop} {a : Nat} (ha : isS a) (hb : ∀ i, i < 3 → in32 (V (a + 2) i) ∧ in32 (V 62 i)) (hQ : ∀ W, ((∀ x, x ≠ 22 → x ≠ 37 → x ≠ 52 → W x = V x) ∧ (∀ i j, i < 3 → j < 8 → W (22 + 15 * i) j = if i < 3 ∧ V (a + 2) i = V 62 i then V (a + 6 + 3 * i) j else V (22 + 15 * i) j)) → Ev L (d + 1) 93 49 [some (.inr (.inr a)), some (.inr (.inr 12)), some (.inr (.inr 62)), some (.inr (.inr 69)), some (.inl (cnE (V (a + 2)) (V 62) 3)), some (.inl (3 : Int))] [] W b Q) : ∀ (n k : Nat) (W : Mv), k + n = 3 → ((∀ x, x ≠ 22 → x ≠ 37 → x ≠ 52 → W x = V x) ∧ (∀ i j, i < 3 → j < 8 → W (22 + 15 * i) j = if i < k ∧ V (a + 2) i = V 62 i then V (a + 6 + 3 * i) j else V (22 + 15 * i) j)) → Ev L (d + 1) 93 6 [some (.inr (.inr a)), some (.inr (.inr 12)), some (.inr (.inr 62)), some (.inr (.inr 69)), some (.inl (cnE (V (a + 2)) (V 62) k)), some (.inl (k : Int))] [] W b Q
  | 0, k, W, h, hr => by
    obtain rfl : k = 3 := by omega
    refine Ev.blk 3 (B93_6 _ _ _ _ _ _ _ (by decide)) rfl ?_
    refine Ev.ite (fun _ => ?_) (fun h => absurd h (by decide))
    exact hQ W hr
  | n + 1, k, W, h, hr => by
    have ih := rst_lp (L := L) (d := d) ha hb hQ n (k + 1)
    have ha72 : a = 72 ∨ a = 86 := ha
    have hT : isT (a + 1 + 4 + 3 * k) := k_S (i := (k : Int)) ha (by omega)
    have hT2 : isT (21 + 15 * k) := k_12 (i := (k : Int)) (by omega)
    have e2 : W (a + 2) = V (a + 2) := hr.1 _ (by omega) (by omega) (by omega)
    have e62 : W 62 = V 62 := hr.1 _ (by omega) (by omega) (by omega)
    have e6 : W (a + 1 + 4 + 3 * k + 1) = V (a + 6 + 3 * k) := by
      rw [show a + 1 + 4 + 3 * k + 1 = a + 6 + 3 * k by omega]
      exact hr.1 _ (by omega) (by omega) (by omega)
    refine Ev.blk 3 (B93_6 _ _ _ _ _ _ _ ⟨by omega, by omega⟩) rfl ?_
    refine Ev.ite (fun q => absurd (of_decide_eq_true q) (by omega)) (fun _ => ?_)
    refine Ev.blk 8 (B93_12 _ _ _ _ _ _ _ ha (by omega) (by rw [e2]; exact (hb k (by omega)).1) (by rw [e62]; exact (hb k (by omega)).2)) rfl ?_
    rw [e2, e62, Int.toNat_natCast]
    refine Ev.ite (fun q => ?_) (fun q => ?_)
    · have q2 := nd_t q
      rw [cnE_f q2] at ih
      refine Ev.blk 2 (B93_43 _ _ _ _ _ _ _) rfl ?_
      refine ih _ (by omega) ⟨hr.1, fun i j hi hj => ?_⟩
      rw [hr.2 i j hi hj]
      by_cases e : i = k
      · rw [if_neg (by omega), if_neg (by rw [e]; exact fun z => q2 z.2)]
      · by_cases e3 : i < k ∧ V (a + 2) i = V 62 i
        · rw [if_pos e3, if_pos ⟨by omega, e3.2⟩]
        · rw [if_neg e3, if_neg (fun z => e3 ⟨by omega, z.2⟩)]
    · have q2 := nd_f q
      rw [cnE_t q2] at ih
      refine Ev.blk 7 (B93_26 _ _ _ _ _ _ _ (by omega) ha) rfl ?_
      rw [Int.toNat_natCast]
      refine Ev.call rfl rfl (vg rfl rfl (isT_0 hT2) (congrArg Prod.fst (isT_T (L := L) hT2)) rfl) (x_copyT (d := d) hT2 hT) (by omega) ?_
      rintro v V' b' ⟨rfl, rfl, rfl⟩
      refine Ev.blk 1 (B93_40 _ _ _ _ _ _ _) rfl ?_
      refine Ev.blk 2 (B93_43 _ _ _ _ _ _ _) rfl ?_
      refine ih _ (by omega) ⟨fun x n1 n2 n3 => ?_, fun i j hi hj => ?_⟩
      · rw [fil_ne (by omega)]
        exact hr.1 x n1 n2 n3
      · by_cases e : i = k
        · rw [e, if_pos ⟨by omega, q2⟩, show 22 + 15 * k = 21 + 15 * k + 1 by omega, fil_z hj, e6]
        · rw [fil_ne (by omega), hr.2 i j hi hj]
          by_cases e3 : i < k ∧ V (a + 2) i = V 62 i
          · rw [if_pos e3, if_pos ⟨by omega, e3.2⟩]
          · rw [if_neg e3, if_neg (fun z => e3 ⟨by omega, z.2⟩)]
theorem x_restore {L d : Nat} {V : Mv} {b : Bool} {a : Nat} (ha : isS a) (hb : ∀ i, i < 3 → in32 (V (a + 2) i) ∧ in32 (V 62 i)) : Ex L (d + 1) 93 [.inr (.inr a), .inr (.inr 12), .inr (.inr 62), .inr (.inr 69)] V b (fun v V' b' => v = some (.inl (cnE (V (a + 2)) (V 62) 3)) ∧ b' = b ∧ (∀ x, x ≠ 22 → x ≠ 37 → x ≠ 52 → x ≠ 69 → x ≠ 70 → V' x = V x) ∧ (∀ i j, i < 3 → j < 8 → V' (22 + 15 * i) j = if V (a + 2) i = V 62 i then V (a + 6 + 3 * i) j else V (22 + 15 * i) j) ∧ V' 69 0 = V (a + 3) 0 ∧ (∀ j, j < 16 → V' 70 j = V (a + 4) j)) := by
  have ha72 : a = 72 ∨ a = 86 := ha
  have hL : isL4 (a + 3) := isS_C3 ha
  have hL2 : isL4 69 := by unfold isL4; decide
  refine Ev.blk 4 (B93_0 _ _ _ _ _) rfl ?_
  refine rst_lp ha hb (fun W hr => ?_) 3 0 V rfl ⟨fun x _ _ _ => rfl, fun i j hi _ => by rw [if_neg (by omega)]⟩
  refine Ev.blk 3 (B93_49 _ _ _ _ _ _ _ ha) rfl ?_
  refine Ev.call rfl rfl rfl (x_copyL (d := d) hL2 hL (by omega)) (by omega) ?_
  rintro v V1 b1 ⟨rfl, rfl, rfl⟩
  refine Ev.blk 1 (B93_57 _ _ _ _ _ _ _) rfl ?_
  refine Ev.ret rfl rfl rfl rfl ⟨rfl, rfl, fun x n1 n2 n3 n4 n5 => ?_, fun i j hi hj => ?_, ?_, fun j hj => ?_⟩
  · rw [fil_ne (by omega), uV_ne n4]
    exact hr.1 x n1 n2 n3
  · rw [fil_ne (by omega), uV_ne (by omega), hr.2 i j hi hj]
    by_cases e3 : V (a + 2) i = V 62 i
    · rw [if_pos e3, if_pos ⟨hi, e3⟩]
    · rw [if_neg e3, if_neg (fun z => e3 z.2)]
  · rw [fil_ne (by omega), uV_at, if_pos rfl, hr.1 _ (by omega) (by omega) (by omega)]
  · rw [show (70 : Nat) = 69 + 1 from rfl, fil_z hj, hr.1 _ (by omega) (by omega) (by omega)]
theorem ag1_lp {L d : Nat} {V : Mv} {b : Bool} {Q : Option AV → Mv → Bool → Prop} {s : Nat} (hs : s < 2) (hQ : Ev L d 228 65 [some (.inr (.inr 120)), some (.inl (s : Int)), some (.inl 16), none, none] [] (fil V 145 0 (fun j => V 149 (16 * s + j)) 16) b Q) : ∀ n k : Nat, k + n = 16 → Ev L (d) 228 36 [some (.inr (.inr 120)), some (.inl (s : Int)), some (.inl (k : Int)), none, none] [] (fil V 145 0 (fun j => V 149 (16 * s + j)) k) b Q
  | 0, k, h => by
    obtain rfl : k = 16 := by omega
    refine Ev.blk 3 (B228_36 _ _ _ _ _ (by first | assumption | omega | decide | exact cmpI_in _ _ | exact ⟨by omega, by omega⟩)) rfl ?_
    refine Ev.ite (fun q => ?_) (fun q => ?_)
    · replace q := of_decide_eq_true q
      exact hQ
    · replace q := of_decide_eq_false q
      exact absurd q (by omega)
  | n + 1, k, h => by
    have ih := ag1_lp (L := L) (d := d) hs hQ n (k + 1) (by omega)
    refine Ev.blk 3 (B228_36 _ _ _ _ _ (by first | assumption | omega | decide | exact cmpI_in _ _ | exact ⟨by omega, by omega⟩)) rfl ?_
    refine Ev.ite (fun q => ?_) (fun q => ?_)
    · replace q := of_decide_eq_true q
      exact absurd q (by omega)
    · replace q := of_decide_eq_false q
      refine Ev.blk 14 (B228_42 _ _ _ _ _ (by first | assumption | omega | decide | exact cmpI_in _ _ | exact ⟨by omega, by omega⟩) (by first | assumption | omega | decide | exact cmpI_in _ _ | exact ⟨by omega, by omega⟩)) rfl ?_
      exact Ev.mem (fil_st (by omega) (by rw [fil_ne (by omega), show (16 * (s : Int) + (k : Int)).toNat = 16 * s + k by omega])) ih

theorem ag2_lp {L d : Nat} {V : Mv} {b : Bool} {Q : Option AV → Mv → Bool → Prop} {s m : Nat} {z : Int} (hs : s < 2) (hm : m < 3) (hQ : Ev L d 228 136 [some (.inr (.inr 120)), some (.inl (s : Int)), some (.inl z), some (.inl (m : Int)), some (.inl ((8 * m + 8 : Nat) : Int))] [] (fil V 130 (8 * m) (fun j => V 147 (24 * s + 8 * m + j)) 8) b Q) : ∀ n k : Nat, k + n = 8 → Ev L (d) 228 99 [some (.inr (.inr 120)), some (.inl (s : Int)), some (.inl z), some (.inl (m : Int)), some (.inl ((8 * m + k : Nat) : Int))] [] (fil V 130 (8 * m) (fun j => V 147 (24 * s + 8 * m + j)) k) b Q
  | 0, k, h => by
    obtain rfl : k = 8 := by omega
    refine Ev.blk 7 (B228_99 _ _ _ _ _ _ _ (by first | assumption | omega | decide | exact cmpI_in _ _ | exact ⟨by omega, by omega⟩) (by first | assumption | omega | decide | exact cmpI_in _ _ | exact ⟨by omega, by omega⟩)) rfl ?_
    refine Ev.ite (fun q => ?_) (fun q => ?_)
    · replace q := of_decide_eq_true q
      exact hQ
    · replace q := of_decide_eq_false q
      exact absurd q (by omega)
  | n + 1, k, h => by
    have ih := ag2_lp (L := L) (d := d) (z := z) hs hm hQ n (k + 1) (by omega)
    refine Ev.blk 7 (B228_99 _ _ _ _ _ _ _ (by first | assumption | omega | decide | exact cmpI_in _ _ | exact ⟨by omega, by omega⟩) (by first | assumption | omega | decide | exact cmpI_in _ _ | exact ⟨by omega, by omega⟩)) rfl ?_
    refine Ev.ite (fun q => ?_) (fun q => ?_)
    · replace q := of_decide_eq_true q
      exact absurd q (by omega)
    · replace q := of_decide_eq_false q
      refine Ev.blk 14 (B228_111 _ _ _ _ _ _ _ (by first | assumption | omega | decide | exact cmpI_in _ _ | exact ⟨by omega, by omega⟩) (by first | assumption | omega | decide | exact cmpI_in _ _ | exact ⟨by omega, by omega⟩)) rfl ?_
      exact Ev.mem (fil_st (by omega) (by rw [fil_ne (by omega), show (24 * (s : Int) + ((8 * m + k : Nat) : Int)).toNat = 24 * s + 8 * m + k by omega])) ih

theorem ag3_lp {L d : Nat} {V : Mv} {b : Bool} {Q : Option AV → Mv → Bool → Prop} {s : Nat} (hs : s < 2) (hb : ∀ i, i < 3 → in32 (V 150 (3 * s + i)) ∧ in32 (V 129 i)) (hQ : ∀ W, ((∀ x, x ≠ 130 → W x = V x) ∧ (∀ i j, i < 3 → j < 8 → W 130 (8 * i + j) = if i < 3 ∧ V 150 (3 * s + i) = V 129 i then V 147 (24 * s + 8 * i + j) else V 130 (8 * i + j))) → Ev L d 228 145 [some (.inr (.inr 120)), some (.inl (s : Int)), some (.inl (cnE (fun i => V 150 (3 * s + i)) (V 129) 3)), some (.inl (3 : Int)), none] [] W b Q) : ∀ (n k : Nat) (W : Mv), k + n = 3 → ((∀ x, x ≠ 130 → W x = V x) ∧ (∀ i j, i < 3 → j < 8 → W 130 (8 * i + j) = if i < k ∧ V 150 (3 * s + i) = V 129 i then V 147 (24 * s + 8 * i + j) else V 130 (8 * i + j))) → Ev L d 228 69 [some (.inr (.inr 120)), some (.inl (s : Int)), some (.inl (cnE (fun i => V 150 (3 * s + i)) (V 129) k)), some (.inl (k : Int)), none] [] W b Q
  | 0, k, W, h, hr => by
    obtain rfl : k = 3 := by omega
    refine Ev.blk 3 (B228_69 _ _ _ _ _ _ (by decide)) rfl ?_
    refine Ev.ite (fun _ => ?_) (fun h => absurd h (by decide))
    exact hQ W hr
  | n + 1, k, W, h, hr => by
    have ih := ag3_lp (L := L) (d := d) hs hb hQ n (k + 1)
    have e0 : (3 * (s : Int) + (k : Int)).toNat = 3 * s + k := by omega
    have e2 : W 150 = V 150 := hr.1 _ (by omega)
    have e62 : W 129 = V 129 := hr.1 _ (by omega)
    have e6 : W 147 = V 147 := hr.1 _ (by omega)
    refine Ev.blk 3 (B228_69 _ _ _ _ _ _ ⟨by omega, by omega⟩) rfl ?_
    refine Ev.ite (fun q => absurd (of_decide_eq_true q) (by omega)) (fun _ => ?_)
    refine Ev.blk 13 (B228_74 _ _ _ _ _ _ (by omega) (by omega) (by rw [e0, e2]; exact (hb k (by omega)).1) (by rw [e62]; exact (hb k (by omega)).2)) rfl ?_
    rw [e0, e2, e62, Int.toNat_natCast]
    refine Ev.ite (fun q => ?_) (fun q => ?_)
    · have q2 := nd_t q
      rw [cnE_f (f := fun i => V 150 (3 * s + i)) q2] at ih
      refine Ev.blk 2 (B228_139 _ _ _ _ _ _) rfl ?_
      refine ih _ (by omega) ⟨hr.1, fun i j hi hj => ?_⟩
      rw [hr.2 i j hi hj]
      by_cases e : i = k
      · rw [if_neg (by omega), if_neg (by rw [e]; exact fun z => q2 z.2)]
      · by_cases e3 : i < k ∧ V 150 (3 * s + i) = V 129 i
        · rw [if_pos e3, if_pos ⟨by omega, e3.2⟩]
        · rw [if_neg e3, if_neg (fun z => e3 ⟨by omega, z.2⟩)]
    · have q2 := nd_f q
      rw [cnE_t (f := fun i => V 150 (3 * s + i)) q2] at ih
      refine Ev.blk 4 (B228_93 _ _ _ _ _ _) rfl ?_
      refine Ev.mem (fil_0 _ 130 (8 * k) (fun j => W 147 (24 * s + 8 * k + j))).symm (ag2_lp (m := k) hs (by omega) ?_ 8 0 rfl)
      refine Ev.blk 1 (B228_136 _ _ _ _ _ _ _) rfl ?_
      refine Ev.kill [false, false, false, false, true] ?_
      dsimp only [mkl]
      refine Ev.blk 2 (B228_139 _ _ _ _ _ _) rfl ?_
      refine ih _ (by omega) ⟨fun x n1 => ?_, fun i j hi hj => ?_⟩
      · rw [fil_ne n1]
        exact hr.1 x n1
      · by_cases e : i = k
        · rw [e, if_pos ⟨by omega, q2⟩, fil_at hj, e6]
        · rw [fil_out (by omega), hr.2 i j hi hj]
          by_cases e3 : i < k ∧ V 150 (3 * s + i) = V 129 i
          · rw [if_pos e3, if_pos ⟨by omega, e3.2⟩]
          · rw [if_neg e3, if_neg (fun z => e3 ⟨by omega, z.2⟩)]
theorem op_again (a0 : Int) (h0 : in32 a0) : OpI 49 228 [.inl a0] := by
  intro L N V b hL hN hI
  have hi := hI.1
  refine Ev.blk 1 (B49_0 _ _ _ _) rfl ?_
  refine Ev.call rfl rfl rfl (x_isSlotC (d := 28) h0) (by omega) ?_
  rintro v V' b' ⟨rfl, rfl, rfl⟩
  refine Ev.blk 1 (B49_4 _ _ _ _ _ (b01_in _)) rfl ?_
  refine Ev.ite (fun q => ?_) (fun q => ?_)
  · replace q := b01_1 (nd_t q)
    obtain ⟨s, rfl⟩ : ∃ k : Nat, a0 = (k : Int) := ⟨a0.toNat, by omega⟩
    have hs : s < 2 := by omega
    have hS : isS (72 + 14 * s) := k_71 (i := (s : Int)) q
    have hu := hi.us s hs
    refine Ev.blk 6 (B49_9 _ _ _ _ q (by rw [Int.toNat_natCast]; exact ⟨by omega, by omega⟩)) rfl ?_
    rw [Int.toNat_natCast]
    refine Ev.ite (fun z => ?_) (fun z => ?_)
    · replace z := nd_t z
      have hsl := hi.sl s hs (by omega)
      have hb : ∀ i, i < 3 → in32 (V' (72 + 14 * s + 2) i) ∧ in32 (V' 62 i) := fun i hi3 => by
        have h1 := hsl.md i hi3
        have h2 := hi.md i hi3
        rw [show 72 + 14 * s + 2 = 74 + 14 * s by omega]
        exact ⟨⟨by omega, by omega⟩, by omega, by omega⟩
      refine Ev.blk 10 (B49_24 _ _ _ _ q) rfl ?_
      rw [Int.toNat_natCast]
      refine Ev.call rfl rfl (vg rfl rfl (isS_0 hS) (congrArg Prod.fst (isS_T hS)) rfl) (x_restore (d := 27) hS hb) (by omega) ?_
      rintro v V1 b1 ⟨rfl, rfl, f0, f1, f2, f3⟩
      have hc := cnE_bd (V' (72 + 14 * s + 2)) (V' 62)
      refine Ev.ret rfl rfl rfl rfl ⟨_, rfl, ⟨by omega, by omega⟩, f0 0 (by omega) (by omega) (by omega) (by omega) (by omega), ?_⟩
      have g0 : ∀ x, 100 ≤ x → V1 x = V' x := fun x hx => f0 x (by omega) (by omega) (by omega) (by omega) (by omega)
      refine Ev.blk 4 (B228_0 _ _ _ _ h0) rfl ?_
      refine Ev.call rfl rfl rfl (x_in (d := 28) ⟨by omega, by omega⟩ (by decide) (by decide)) (by omega) ?_
      rintro v V2 b2 ⟨rfl, rfl, rfl⟩
      refine Ev.blk 1 (B228_7 _ _ _ _ _ (b01_in _)) rfl ?_
      refine Ev.ite (fun _ => ?_) (fun z => absurd (show 0 ≤ (s : Int) ∧ (s : Int) ≤ 1 by omega) (b01_0 (nd_f z)))
      refine Ev.blk 5 (B228_12 _ _ _ _ (by omega) (by rw [Int.toNat_natCast, g0 146 (by omega)]; exact ⟨by omega, by omega⟩)) rfl ?_
      rw [Int.toNat_natCast, g0 146 (by omega)]
      refine Ev.ite (fun _ => ?_) (fun z => absurd (nd_f z) (by omega))
      refine Ev.blk 8 (B228_24 _ _ _ _ (by omega)) rfl ?_
      rw [Int.toNat_natCast]
      refine Ev.mem (fil_0 _ 145 0 (fun j => uV V2 120 37 (V2 148 s) 149 (16 * s + j))).symm (ag1_lp hs ?_ 16 0 rfl)
      refine Ev.blk 4 (B228_65 _ _ _ _ _) rfl ?_
      obtain ⟨A, hA⟩ : ∃ A, A = fil (uV V2 120 37 (V2 148 s)) 145 0 (fun j => uV V2 120 37 (V2 148 s) 149 (16 * s + j)) 16 := ⟨_, rfl⟩
      rw [← hA]
      have A0 : ∀ x, x ≠ 120 → x ≠ 145 → A x = V2 x := fun x n1 n2 => by rw [hA, fil_ne n2, uV_ne n1]
      have A120 : ∀ k, A 120 k = if k = 37 then V' 148 s else V' 120 k := fun k => by rw [hA, fil_ne (by omega), uV_at, g0 148 (by omega), g0 120 (by omega)]
      have A145 : ∀ j, j < 16 → A 145 j = V' 149 (16 * s + j) := fun j hj => by rw [hA, fil_z hj, uV_ne (by omega), g0 149 (by omega)]
      have A1 : ∀ x, 100 ≤ x → x ≠ 120 → x ≠ 145 → A x = V' x := fun x n0 n1 n2 => by rw [A0 x n1 n2, g0 x n0]
      have cE : ∀ i, i < 3 → (V' (72 + 14 * s + 2) i = V' 62 i ↔ V' 150 (3 * s + i) = V' 129 i) := fun i hi3 => by
        have h1 := hsl.md i hi3
        have h2 := hi.md i hi3
        rw [show 72 + 14 * s + 2 = 74 + 14 * s by omega, h1.1, h2.1]
      have cN : cnE (fun i => A 150 (3 * s + i)) (A 129) 3 = cnE (V' (72 + 14 * s + 2)) (V' 62) 3 := by
        unfold cnE
        refine sumN_congr 3 (fun i hi3 => ?_)
        show (if A 150 (3 * s + i) = A 129 i then (1 : Int) else 0) = if V' (72 + 14 * s + 2) i = V' 62 i then 1 else 0
        rw [A1 150 (by omega) (by omega) (by omega), A1 129 (by omega) (by omega) (by omega)]
        by_cases e : V' (72 + 14 * s + 2) i = V' 62 i
        · rw [if_pos e, if_pos ((cE i hi3).mp e)]
        · rw [if_neg e, if_neg (fun z => e ((cE i hi3).mpr z))]
      refine ag3_lp (V := A) hs (fun i hi3 => ?_) (fun W hr => ?_) 3 0 A rfl ⟨fun x _ => rfl, fun i j hi _ => by rw [if_neg (by omega)]⟩
      · have h1 := hsl.md i hi3
        have h2 := hi.md i hi3
        rw [A1 150 (by omega) (by omega) (by omega), A1 129 (by omega) (by omega) (by omega)]
        exact ⟨⟨by omega, by omega⟩, by omega, by omega⟩
      · refine Ev.blk 1 (B228_145 _ _ _ _ _ _) rfl ?_
        rw [cN]
        have W130 : ∀ i j, i < 3 → j < 8 → W 130 (8 * i + j) = if V' 150 (3 * s + i) = V' 129 i then V' 147 (24 * s + 8 * i + j) else V' 130 (8 * i + j) := fun i j hi3 hj => by
          rw [hr.2 i j hi3 hj, A1 150 (by omega) (by omega) (by omega), A1 129 (by omega) (by omega) (by omega), A1 147 (by omega) (by omega) (by omega), A1 130 (by omega) (by omega) (by omega)]
          by_cases e3 : V' 150 (3 * s + i) = V' 129 i
          · rw [if_pos e3, if_pos ⟨hi3, e3⟩]
          · rw [if_neg e3, if_neg (fun z => e3 z.2)]
        have W0 : ∀ x, x ≠ 130 → x ≠ 120 → x ≠ 145 → x ≠ 22 → x ≠ 37 → x ≠ 52 → x ≠ 69 → x ≠ 70 → W x = V' x := fun x n1 n2 n3 n4 n5 n6 n7 n8 => by
          rw [hr.1 x n1, A0 x n2 n3, f0 x n4 n5 n6 n7 n8]
        refine Ev.ret rfl rfl rfl rfl ⟨rfl, (hi.more (Nat.le_succ N)).tlg (fun x hx n4 n5 n6 n1 n7 n8 n3 => ?_) ?_ (fun i j hi3 hj => ?_) (fun i hi3 => ?_) ?_ (fun j hj => ?_), fun k => ?_⟩
        · unfold dI at hx
          exact W0 x n1 (by omega) n3 n4 n5 n6 n7 n8
        · rw [hr.1 120 (by omega), A120, if_neg (by omega)]
        · rw [W130 i j hi3 hj, hr.1 _ (by omega), A0 _ (by omega) (by omega), f1 i j hi3 hj]
          by_cases e : V' (72 + 14 * s + 2) i = V' 62 i
          · rw [if_pos e, if_pos ((cE i hi3).mp e), show 72 + 14 * s + 6 + 3 * i = 78 + 14 * s + 3 * i by omega]
            exact hsl.th i j hi3 hj
          · rw [if_neg e, if_neg (fun z => e ((cE i hi3).mpr z))]
            exact hi.th i j hi3 hj
        · rw [W0 121 (by omega) (by omega) (by omega) (by omega) (by omega) (by omega) (by omega) (by omega)]
          by_cases e : V' 150 (3 * s + i) = V' 129 i
          · refine (hsl.ok i hi3 e).congr (fun j hj => ?_)
            show W 130 (8 * i + j) = _
            rw [W130 i j hi3 hj, if_pos e]
          · refine (hi.tv i hi3).congr (fun j hj => ?_)
            show W 130 (8 * i + j) = _
            rw [W130 i j hi3 hj, if_neg e]
        · rw [hr.1 69 (by omega), A0 69 (by omega) (by omega), f2, hr.1 120 (by omega), A120, if_pos rfl, show 72 + 14 * s + 3 = 75 + 14 * s by omega]
          exact hsl.ll
        · rw [hr.1 70 (by omega), A0 70 (by omega) (by omega), f3 j hj, hr.1 145 (by omega), A145 j hj, show 72 + 14 * s + 4 = 76 + 14 * s by omega]
          exact hsl.lr j hj
        · rw [W0 0 (by omega) (by omega) (by omega) (by omega) (by omega) (by omega) (by omega) (by omega)]
          exact hI.2 k
    · replace z := nd_f z
      refine Ev.blk 1 (B49_21 _ _ _ _) rfl ?_
      refine Ev.ret rfl rfl rfl rfl ⟨_, rfl, by decide, rfl, ?_⟩
      refine Ev.blk 4 (B228_0 _ _ _ _ h0) rfl ?_
      refine Ev.call rfl rfl rfl (x_in (d := 28) ⟨by omega, by omega⟩ (by decide) (by decide)) (by omega) ?_
      rintro v V2 b2 ⟨rfl, rfl, rfl⟩
      refine Ev.blk 1 (B228_7 _ _ _ _ _ (b01_in _)) rfl ?_
      refine Ev.ite (fun _ => ?_) (fun z => absurd (show 0 ≤ (s : Int) ∧ (s : Int) ≤ 1 by omega) (b01_0 (nd_f z)))
      refine Ev.blk 5 (B228_12 _ _ _ _ (by omega) (by rw [Int.toNat_natCast]; exact ⟨by omega, by omega⟩)) rfl ?_
      rw [Int.toNat_natCast]
      refine Ev.ite (fun z => absurd (nd_t z) (by omega)) (fun _ => ?_)
      refine Ev.blk 1 (B228_21 _ _ _ _) rfl ?_
      exact Ev.ret rfl rfl rfl rfl ⟨rfl, hi.more (Nat.le_succ N), hI.2⟩
  · replace q := b01_0 (nd_f q)
    refine Ev.blk 1 (B49_7 _ _ _ _) rfl ?_
    refine Ev.ret rfl rfl rfl rfl ⟨_, rfl, by decide, rfl, ?_⟩
    refine Ev.blk 4 (B228_0 _ _ _ _ h0) rfl ?_
    refine Ev.call rfl rfl rfl (x_in (d := 28) ⟨by omega, by omega⟩ (by decide) (by decide)) (by omega) ?_
    rintro v V4 b4 ⟨rfl, rfl, rfl⟩
    refine Ev.blk 1 (B228_7 _ _ _ _ _ (b01_in _)) rfl ?_
    refine Ev.ite (fun z => ?_) (fun _ => ?_)
    · have z := b01_1 (nd_t z)
      omega
    · refine Ev.blk 1 (B228_10 _ _ _ _) rfl ?_
      exact Ev.ret rfl rfl rfl rfl ⟨rfl, hi.more (Nat.le_succ N), hI.2⟩
