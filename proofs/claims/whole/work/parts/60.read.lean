/-! the 38 calls: read, late (specs19.py) -/
theorem x_copyT {L d : Nat} {V : Mv} {b : Bool} {a c : Nat} (ha : isT a) (hc : isT c) : Ex L d 87 [.inr (.inr a), .inr (.inr c)] V b (Ans none (fil V (a + 1) 0 (V (c + 1)) 8) b) := by
  refine Ev.blk 8 (J87_0 _ _ _ _ _ hc ha) rfl ?_
  exact Ev.ret rfl rfl rfl rfl ⟨rfl, cV_fil _ _ _ _, rfl⟩
/-- one row in the class, over a memory that is V0 but for the trial row -/
theorem folC {L d N i : Nat} {V0 V : Mv} {b : Bool} {w : Nat → Int} {k : Nat} (hI : Iv N V0) (hi3 : i < 3) (hk : k < 16) (hS : ∀ x, x ≠ 60 → x ≠ 61 → V x = V0 x) (hv : ∀ j, j < 8 → V 60 j = w j) (hw : Wt w (V0 121 i)) : Ex L (d + 3) 86 [.inr (.inr 59), .inr (.inr (14 + 15 * i)), .inl (V 70 k)] V b (fun v V' b' => v = some (.inl (rwA (fun a c => rGo V0 (i : Int) (a : Int) (c : Int)) (fun j => V0 125 (8 * i + j)) (fun j => V0 126 (4 * i + j)) (V0 145 k) w)) ∧ b' = b ∧ (∀ x, x ≠ 60 → x ≠ 61 → V' x = V0 x) ∧ (rwA (fun a c => rGo V0 (i : Int) (a : Int) (c : Int)) (fun j => V0 125 (8 * i + j)) (fun j => V0 126 (4 * i + j)) (V0 145 k) w = 1 → ∀ j, j < 8 → V' 60 j = rwW (fun a c => rGo V0 (i : Int) (a : Int) (c : Int)) (fun j => V0 125 (8 * i + j)) (fun j => V0 126 (4 * i + j)) (V0 145 k) w j)) := by
  have hi := hI.1
  have hk2 := hi.kd i hi3
  have hl := hi.lr k hk
  have e : V 70 k = V0 145 k := by rw [hS 70 (by omega) (by omega)]; exact hl.1
  rw [e]
  refine Ev.weaken (x_follow (a := 59) (n := V0 121 i) (by unfold isT; decide) (k_11 (i := (i : Int)) (by omega)) hk2.mk2 hl.2 (fun a c ha hc => ?_) (fun j hj => ?_) (fun j hj => ?_) hv hw) ?_
  · rw [hS _ (by omega) (by omega)]
    exact hk2.go a c ha hc
  · rw [hS _ (by omega) (by omega)]
    exact (hk2.kn j hj).1
  · rw [hS _ (by omega) (by omega)]
    exact (hk2.mw j hj).1
  · rintro v V' b' ⟨h1, h2, h3, h4⟩
    exact ⟨h1, h2, fun x n1 n2 => by rw [h3 x n1 n2, hS x n1 n2], h4⟩
/-- one row in the reference, over a memory that is V0 but for rows of no matter -/
theorem rowR {L d N i : Nat} {V0 U : Mv} {b : Bool} {w : Nat → Int} {k : Nat} (hI : Iv N V0) (hi3 : i < 3) (hk : k < 16) (hS : ∀ x, x = 121 ∨ x = 123 ∨ x = 125 ∨ x = 126 ∨ x = 145 → U x = V0 x) (hv : ∀ j, j < 8 → U 131 j = w j) (hw : Wt w (V0 121 i)) : Ex L (d + 4) 225 [.inr (.inr 120), .inl (i : Int), .inl (k : Int)] U b (fun v V' b' => v = some (.inl (rwA (fun a c => rGo V0 (i : Int) (a : Int) (c : Int)) (fun j => V0 125 (8 * i + j)) (fun j => V0 126 (4 * i + j)) (V0 145 k) w)) ∧ b' = b ∧ (∀ x, x ≠ 131 → x ≠ 132 → V' x = U x) ∧ (rwA (fun a c => rGo V0 (i : Int) (a : Int) (c : Int)) (fun j => V0 125 (8 * i + j)) (fun j => V0 126 (4 * i + j)) (V0 145 k) w = 1 → ∀ j, j < 8 → V' 131 j = rwW (fun a c => rGo V0 (i : Int) (a : Int) (c : Int)) (fun j => V0 125 (8 * i + j)) (fun j => V0 126 (4 * i + j)) (V0 145 k) w j)) := by
  have hi := hI.1
  have hk2 := hi.kd i hi3
  have hl := hi.lr k hk
  have hB : BdR U := by
    have := hi.bdR
    unfold BdR at this ⊢
    rw [hS 121 (by omega), hS 126 (by omega)]
    exact this
  refine x_tryRow (n := V0 121 i) hi3 hk hB hk2.mk2 (by rw [hS 121 (by omega)]) (by rw [hS 145 (by omega)]) hl.2 (fun a c ha hc => ?_) (fun j hj => ?_) (fun j hj => ?_) hv hw
  · exact rGo_congr (hS 123 (by omega)) _ _ _
  · rw [hS 125 (by omega)]
  · rw [hS 126 (by omega)]
theorem read_lp {L N i : Nat} {V0 : Mv} {b : Bool} (hI : Iv N V0) (hi3 : i < 3) : ∀ (n k : Nat) (V : Mv) (w : Nat → Int), ((k + n : Nat) : Int) = V0 69 0 → (∀ x, x ≠ 60 → x ≠ 61 → V x = V0 x) → (∀ j, j < 8 → V 60 j = w j) → Wt w (V0 121 i) → Ev L 29 45 19 [some (.inr (.inr 1)), some (.inl (i : Int)), some (.inl (k : Int)), none] [] V b (fun v V1 b1 => ∃ z : Int, v = some (.inl z) ∧ in32 z ∧ (∀ x, x ≠ 60 → x ≠ 61 → x ≠ 22 + 15 * i → V1 x = V0 x) ∧ ∀ U b2, (∀ x, x ≠ 131 → x ≠ 132 → U x = V1 x) → (∀ j, j < 8 → U 131 j = w j) → Ev L 29 224 16 [some (.inr (.inr 120)), some (.inl (i : Int)), some (.inl (k : Int)), none] [] U b2 (fun v2 V2 _ => v2 = some (.inl z) ∧ Iv (N + 1) V2))
  | 0, k, V, w, h, hS, hv, hw => by
    have hi := hI.1
    have hl := hi.ll
    have e69 : V 69 0 = V0 69 0 := by rw [hS 69 (by omega) (by omega)]
    have hT : isT (21 + 15 * i) := k_12 (i := (i : Int)) (by omega)
    have hT2 : isT 59 := by unfold isT; decide
    refine Ev.blk 5 (B45_19 _ _ _ _ _ ⟨by omega, by omega⟩ ⟨by omega, by omega⟩) rfl ?_
    refine Ev.ite (fun _ => ?_) (fun z => absurd (of_decide_eq_false z) (by omega))
    refine Ev.blk 6 (B45_65 _ _ _ _ _ (by omega)) rfl ?_
    rw [Int.toNat_natCast]
    refine Ev.call rfl rfl (vg rfl rfl (isT_0 hT) (congrArg Prod.fst (isT_T hT)) rfl) (x_copyT (d := 28) hT hT2) (by omega) ?_
    rintro v V1 b1 ⟨rfl, rfl, rfl⟩
    refine Ev.blk 3 (B45_78 _ _ _ _ _) rfl ?_
    have f1 : ∀ x, x ≠ 60 → x ≠ 61 → x ≠ 22 + 15 * i → fil V (21 + 15 * i + 1) 0 (V (59 + 1)) 8 x = V0 x := fun x n1 n2 n3 => by
      rw [fil_ne (by omega), hS x n1 n2]
    rw [f1 69 (by omega) (by omega) (by omega)]
    refine Ev.ret rfl rfl rfl rfl ⟨_, rfl, ⟨by omega, by omega⟩, f1, fun U b2 u1 u2 => ?_⟩
    have u3 : ∀ x, x ≠ 131 → x ≠ 132 → x ≠ 60 → x ≠ 61 → x ≠ 22 + 15 * i → U x = V0 x := fun x n1 n2 n3 n4 n5 => by rw [u1 x n1 n2, f1 x n3 n4 n5]
    have e37 : U 120 37 = V0 120 37 := by rw [u3 120 (by omega) (by omega) (by omega) (by omega) (by omega)]
    refine Ev.blk 4 (B224_16 _ _ _ _ _ ⟨by omega, by omega⟩ ⟨by omega, by omega⟩) rfl ?_
    refine Ev.ite (fun _ => ?_) (fun z => absurd (of_decide_eq_false z) (by omega))
    refine Ev.blk 2 (B224_43 _ _ _ _ _) rfl ?_
    refine Ev.call rfl rfl rfl (x_putT (d := 28) (m := i) hi3) (by omega) ?_
    rintro v V2 b2 ⟨rfl, rfl, rfl⟩
    refine Ev.blk 2 (B224_48 _ _ _ _ _) rfl ?_
    refine Ev.ret rfl rfl rfl rfl ⟨?_, ?_, fun k => ?_⟩
    · show some (Sum.inl (fil U 130 (8 * i) (U 131) 8 120 37)) = _
      rw [fil_ne (by omega), e37, hl.1]
    · refine (hi.more (Nat.le_succ N)).think (i := i) (g := w) hi3 (fun a ha n1 n2 => ?_) ?_ ?_ (fun j hj => ?_) (fun j hj => ?_) (fun k hk => ?_) hw
      · unfold dI at ha
        rw [fil_ne n2, u3 a (by omega) (by omega) (by omega) (by omega) n1]
      · rw [fil_ne (by omega), u3 120 (by omega) (by omega) (by omega) (by omega) (by omega)]
      · rw [fil_ne (by omega), u3 120 (by omega) (by omega) (by omega) (by omega) (by omega)]
      · rw [fil_ne (by omega), u1 _ (by omega) (by omega), show 22 + 15 * i = 21 + 15 * i + 1 by omega, fil_z hj]
        exact hv j hj
      · rw [fil_at hj, u2 j hj]
      · rw [fil_out hk, u3 130 (by omega) (by omega) (by omega) (by omega) (by omega)]
    · rw [fil_ne (by omega), u3 0 (by omega) (by omega) (by omega) (by omega) (by omega)]
      exact hI.2 k
  | n + 1, k, V, w, h, hS, hv, hw => by
    have hi := hI.1
    have hl := hi.ll
    have hlk := hi.lr k (by omega)
    have e69 : V 69 0 = V0 69 0 := by rw [hS 69 (by omega) (by omega)]
    have hT2 : isT 59 := by unfold isT; decide
    refine Ev.blk 5 (B45_19 _ _ _ _ _ ⟨by omega, by omega⟩ ⟨by omega, by omega⟩) rfl ?_
    refine Ev.ite (fun z => absurd (of_decide_eq_true z) (by omega)) (fun _ => ?_)
    refine Ev.blk 11 (B45_30 _ _ _ _ _ (by omega) ⟨by omega, by omega⟩) rfl ?_
    rw [Int.toNat_natCast, Int.toNat_natCast]
    refine Ev.call rfl rfl rfl (folC (d := 25) (k := k) hI hi3 (by omega) hS hv hw) (by omega) ?_
    rintro v V1 b1 ⟨rfl, rfl, f1, f2⟩
    obtain ⟨A, hA⟩ : ∃ A, A = rwA (fun a c => rGo V0 (i : Int) (a : Int) (c : Int)) (fun j => V0 125 (8 * i + j)) (fun j => V0 126 (4 * i + j)) (V0 145 k) w := ⟨_, rfl⟩
    have hc := rw_c (fun a c => rGo V0 (i : Int) (a : Int) (c : Int)) (fun j => V0 125 (8 * i + j)) (fun j => V0 126 (4 * i + j)) (V0 145 k) w
    rw [← hA] at f2 hc ⊢
    refine Ev.blk 3 (B45_52 _ _ _ _ _ _ ⟨by omega, by omega⟩) rfl ?_
    refine Ev.ite (fun z => ?_) (fun z => ?_)
    · have z : A = 1 := by have := of_decide_eq_true z; omega
      refine Ev.blk 2 (B45_59 _ _ _ _ _ _) rfl ?_
      refine Ev.kill [false, false, false, true] ?_
      dsimp only [mkl]
      refine Ev.weaken (read_lp hI hi3 n (k + 1) V1 _ (by omega) f1 (f2 z) (rw_wt (hi.kd i hi3).mk2 hw hlk.2 (by rw [← hA]; exact z))) ?_
      rintro v V2 b2 ⟨z0, rfl, hz, g1, g2⟩
      refine ⟨z0, rfl, hz, g1, fun U b2 u1 u2 => ?_⟩
      have u3 : ∀ x, x ≠ 131 → x ≠ 132 → x ≠ 60 → x ≠ 61 → x ≠ 22 + 15 * i → U x = V0 x := fun x n1 n2 n3 n4 n5 => by rw [u1 x n1 n2, g1 x n3 n4 n5]
      have e37 : U 120 37 = V0 120 37 := by rw [u3 120 (by omega) (by omega) (by omega) (by omega) (by omega)]
      refine Ev.blk 4 (B224_16 _ _ _ _ _ ⟨by omega, by omega⟩ ⟨by omega, by omega⟩) rfl ?_
      refine Ev.ite (fun z => absurd (of_decide_eq_true z) (by omega)) (fun _ => ?_)
      refine Ev.blk 3 (B224_24 _ _ _ _ _) rfl ?_
      refine Ev.call rfl rfl rfl (rowR (d := 24) (k := k) hI hi3 (by omega) (fun x hx => u3 x (by omega) (by omega) (by omega) (by omega) (by omega)) u2 hw) (by omega) ?_
      rintro v V3 b3 ⟨rfl, rfl, k1, k2⟩
      rw [← hA] at k2 ⊢
      refine Ev.blk 3 (B224_30 _ _ _ _ _ _ ⟨by omega, by omega⟩) rfl ?_
      refine Ev.ite (fun _ => ?_) (fun z => absurd (of_decide_eq_false z) (by omega))
      refine Ev.blk 2 (B224_37 _ _ _ _ _ _) rfl ?_
      refine Ev.kill [false, false, false, true] ?_
      dsimp only [mkl]
      exact g2 V3 _ (fun x n1 n2 => by rw [k1 x n1 n2, u1 x n1 n2]) (k2 z)
    · have z : ¬ A = 1 := by have := of_decide_eq_false z; omega
      refine Ev.blk 1 (B45_57 _ _ _ _ _ _) rfl ?_
      refine Ev.ret rfl rfl rfl rfl ⟨_, rfl, ⟨by omega, by omega⟩, fun x n1 n2 _ => f1 x n1 n2, fun U b2 u1 u2 => ?_⟩
      have u3 : ∀ x, x ≠ 131 → x ≠ 132 → x ≠ 60 → x ≠ 61 → U x = V0 x := fun x n1 n2 n3 n4 => by rw [u1 x n1 n2, f1 x n3 n4]
      have e37 : U 120 37 = V0 120 37 := by rw [u3 120 (by omega) (by omega) (by omega) (by omega)]
      refine Ev.blk 4 (B224_16 _ _ _ _ _ ⟨by omega, by omega⟩ ⟨by omega, by omega⟩) rfl ?_
      refine Ev.ite (fun z => absurd (of_decide_eq_true z) (by omega)) (fun _ => ?_)
      refine Ev.blk 3 (B224_24 _ _ _ _ _) rfl ?_
      refine Ev.call rfl rfl rfl (rowR (d := 24) (k := k) hI hi3 (by omega) (fun x hx => u3 x (by omega) (by omega) (by omega) (by omega)) u2 hw) (by omega) ?_
      rintro v V3 b3 ⟨rfl, rfl, k1, k2⟩
      rw [← hA]
      refine Ev.blk 3 (B224_30 _ _ _ _ _ _ ⟨by omega, by omega⟩) rfl ?_
      refine Ev.ite (fun z2 => absurd (of_decide_eq_true z2) (by omega)) (fun _ => ?_)
      refine Ev.blk 1 (B224_35 _ _ _ _ _ _) rfl ?_
      refine Ev.ret rfl rfl rfl rfl ⟨rfl, ?_, fun k => ?_⟩
      · refine (hi.more (Nat.le_succ N)).frame (fun a ha => ?_) ?_ ?_
        · unfold dI at ha
          rw [k1 a (by omega) (by omega), u3 a (by omega) (by omega) (by omega) (by omega)]
        · rw [k1 120 (by omega) (by omega), u3 120 (by omega) (by omega) (by omega) (by omega)]
        · rw [k1 120 (by omega) (by omega), u3 120 (by omega) (by omega) (by omega) (by omega)]
      · rw [k1 0 (by omega) (by omega), u3 0 (by omega) (by omega) (by omega) (by omega)]
        exact hI.2 k
theorem op_read (a0 : Int) (h0 : in32 a0) : OpI 45 224 [.inl a0] := by
  intro L N V b hL hN hI
  have hi := hI.1
  refine Ev.blk 1 (B45_0 _ _ _ _) rfl ?_
  refine Ev.call rfl rfl rfl (x_isMachineC (d := 28) h0) (by omega) ?_
  rintro v V' b' ⟨rfl, rfl, rfl⟩
  refine Ev.blk 1 (B45_4 _ _ _ _ _ (b01_in _)) rfl ?_
  refine Ev.ite (fun q => ?_) (fun q => ?_)
  · replace q := b01_1 (nd_t q)
    obtain ⟨i, rfl⟩ : ∃ k : Nat, a0 = (k : Int) := ⟨a0.toNat, by omega⟩
    have hi3 : i < 3 := by omega
    have hw2 := (hi.kd i hi3).w2
    have hl := hi.ll
    have hT2 : isT 59 := by unfold isT; decide
    have hw0 : Wt (one1 ((0 : Nat) : Int)) (V' 121 i) := one1_wt (by omega) (by omega)
    refine Ev.blk 3 (B45_9 _ _ _ _) rfl ?_
    refine Ev.call rfl rfl rfl (x_settleC (d := 28) (a := 59) (w := 0) hT2 (by decide)) (by omega) ?_
    rintro v V1 b1 ⟨rfl, rfl, rfl⟩
    refine Ev.blk 2 (B45_17 _ _ _ _) rfl ?_
    obtain ⟨len, hlen⟩ : ∃ n : Nat, V' 69 0 = (n : Int) := ⟨(V' 69 0).toNat, by omega⟩
    refine Ev.weaken (read_lp (V0 := V') hI hi3 len 0 (fil V' (59 + 1) 0 (one1 0) 8) (one1 ((0 : Nat) : Int)) (by omega) (fun x n1 n2 => fil_ne n1) (fun j hj => fil_z hj) hw0) ?_
    rintro v V2 b2 ⟨z, rfl, hz, g1, g2⟩
    refine ⟨z, rfl, hz, g1 0 (by omega) (by omega) (by omega), ?_⟩
    refine Ev.blk 1 (B224_0 _ _ _ _) rfl ?_
    refine Ev.call rfl rfl rfl (x_isMachineR (d := 27) h0) (by omega) ?_
    rintro v V3 b3 ⟨rfl, rfl, rfl⟩
    refine Ev.blk 1 (B224_4 _ _ _ _ _ (b01_in _)) rfl ?_
    refine Ev.ite (fun _ => ?_) (fun z => absurd (show 0 ≤ (i : Int) ∧ (i : Int) ≤ 2 by omega) (b01_0 (nd_f z)))
    refine Ev.blk 2 (B224_9 _ _ _ _) rfl ?_
    refine Ev.call rfl rfl rfl (x_seen (d := 28) (w := 0) (by decide)) (by omega) ?_
    rintro v V4 b4 ⟨rfl, rfl, rfl⟩
    refine Ev.blk 2 (B224_14 _ _ _ _) rfl ?_
    exact g2 _ _ (fun x n1 n2 => fil_ne n1) (fun j hj => fil_z hj)
  · replace q := b01_0 (nd_f q)
    refine Ev.blk 1 (B45_7 _ _ _ _) rfl ?_
    refine Ev.ret rfl rfl rfl rfl ⟨_, rfl, by decide, rfl, ?_⟩
    refine Ev.blk 1 (B224_0 _ _ _ _) rfl ?_
    refine Ev.call rfl rfl rfl (x_isMachineR (d := 27) h0) (by omega) ?_
    rintro v V4 b4 ⟨rfl, rfl, rfl⟩
    refine Ev.blk 1 (B224_4 _ _ _ _ _ (b01_in _)) rfl ?_
    refine Ev.ite (fun z => ?_) (fun _ => ?_)
    · have z := b01_1 (nd_t z)
      omega
    · refine Ev.blk 1 (B224_7 _ _ _ _) rfl ?_
      exact Ev.ret rfl rfl rfl rfl ⟨rfl, hi.more (Nat.le_succ N), hI.2⟩
