/-! the 38 calls, 9: knock (specs11.py) -/
theorem prod_bd {f g : Int} (hf : 0 ≤ f ∧ f ≤ 1000000000000000) (hg : 0 ≤ g ∧ g ≤ 9) : 0 ≤ f * g ∧ f * g ≤ 9000000000000000 := by
  have : g = 0 ∨ g = 1 ∨ g = 2 ∨ g = 3 ∨ g = 4 ∨ g = 5 ∨ g = 6 ∨ g = 7 ∨ g = 8 ∨ g = 9 := by omega
  rcases this with h | h | h | h | h | h | h | h | h | h
  all_goals (rw [h]; omega)
theorem kw_bd {h : Nat → Int} (hb : ∀ j, j < 8 → 0 ≤ h j ∧ h j ≤ 9000000000000000) : 0 ≤ sumN h 8 ∧ sumN h 8 ≤ 72000000000000000 := by
  have b0 := hb 0 (by omega)
  have b1 := hb 1 (by omega)
  have b2 := hb 2 (by omega)
  have b3 := hb 3 (by omega)
  have b4 := hb 4 (by omega)
  have b5 := hb 5 (by omega)
  have b6 := hb 6 (by omega)
  have b7 := hb 7 (by omega)
  show 0 ≤ 0 + h 0 + h 1 + h 2 + h 3 + h 4 + h 5 + h 6 + h 7 ∧ 0 + h 0 + h 1 + h 2 + h 3 + h 4 + h 5 + h 6 + h 7 ≤ 72000000000000000
  omega
theorem kwC_lp {L d : Nat} {V : Mv} {b : Bool} {a c : Nat} {Q : Option AV → Mv → Bool → Prop} (ha : isT a) (hc : isK c) (hk : ∀ j, j < 8 → in32 (V (c + 4) j)) (hQ : Q (some (.inr (.inl (sumN (fun j => V (a + 1) j * V (c + 4) j) 8)))) V b) : ∀ n k : Nat, k + n = 8 → Ev L d 84 5 [some (.inr (.inr a)), some (.inr (.inr c)), some (.inr (.inl (sumN (fun j => V (a + 1) j * V (c + 4) j) k))), none, some (.inl (k : Int))] [] V b Q
  | 0, k, h => by
    obtain rfl : k = 8 := by omega
    refine Ev.blk 3 (B84_5 _ _ _ _ _ _ _ (by decide)) rfl ?_
    refine Ev.ite (fun _ => ?_) (fun h => absurd h (by decide))
    refine Ev.blk 1 (B84_37 _ _ _ _ _ _ _) rfl ?_
    exact Ev.ret rfl rfl rfl rfl hQ
  | n + 1, k, h => by
    have ih := kwC_lp (L := L) (d := d) ha hc hk hQ n (k + 1) (by omega)
    refine Ev.blk 3 (B84_5 _ _ _ _ _ _ _ ⟨by omega, by omega⟩) rfl ?_
    refine Ev.ite (fun q => ?_) (fun _ => ?_)
    · have := of_decide_eq_true q
      omega
    · refine Ev.blk 15 (B84_12 _ _ _ _ _ _ _ ha ⟨by omega, by omega⟩ hc (hk k (by omega))) rfl ?_
      exact ih
theorem x_kwC {L d : Nat} {V : Mv} {b : Bool} {a c : Nat} (ha : isT a) (hc : isK c) (hk : ∀ j, j < 8 → in32 (V (c + 4) j)) : Ex L d 84 [.inr (.inr a), .inr (.inr c)] V b (Ans (some (.inr (.inl (sumN (fun j => V (a + 1) j * V (c + 4) j) 8)))) V b) := by
  refine Ev.blk 4 (B84_0 _ _ _ _ _) rfl ?_
  exact kwC_lp ha hc hk ⟨rfl, rfl, rfl⟩ 8 0 rfl
theorem kwR_lp {L d : Nat} {V : Mv} {b : Bool} {m : Nat} {u : Int} {Q : Option AV → Mv → Bool → Prop} (hm : m < 3) (hk : ∀ j, j < 8 → in32 (V 125 (8 * m + j))) (hQ : Ev L d 169 58 [some (.inr (.inr 120)), some (.inl (m : Int)), some (.inl u), some (.inr (.inl (sumN (fun j => V 130 (8 * m + j) * V 125 (8 * m + j)) 8))), none, some (.inl 8)] [] V b Q) : ∀ n k : Nat, k + n = 8 → Ev L d 169 16 [some (.inr (.inr 120)), some (.inl (m : Int)), some (.inl u), some (.inr (.inl (sumN (fun j => V 130 (8 * m + j) * V 125 (8 * m + j)) k))), none, some (.inl (k : Int))] [] V b Q
  | 0, k, h => by
    obtain rfl : k = 8 := by omega
    refine Ev.blk 3 (B169_16 _ _ _ _ _ _ _ (by decide)) rfl ?_
    exact Ev.ite (fun _ => hQ) (fun h => absurd h (by decide))
  | n + 1, k, h => by
    have ih := kwR_lp (u := u) hm hk hQ n (k + 1) (by omega)
    have e : (8 * (m : Int) + (k : Int)).toNat = 8 * m + k := by omega
    refine Ev.blk 3 (B169_16 _ _ _ _ _ _ _ ⟨by omega, by omega⟩) rfl ?_
    refine Ev.ite (fun q => ?_) (fun _ => ?_)
    · have := of_decide_eq_true q
      omega
    · refine Ev.blk 23 (B169_23 _ _ _ _ _ _ _ ⟨by omega, by omega⟩ ⟨by omega, by omega⟩ (by rw [e]; exact hk k (by omega))) rfl ?_
      rw [e]
      exact ih
theorem op_knock (a0 a1 : Int) (h0 : in32 a0) (h2 : a1 = 0 ∨ a1 = 1) : OpJ 20 169 [.inl a0, .inl a1] := by
  intro L N V b hL hN hI
  have hi := hI.1
  refine Ev.blk 1 (B20_0 _ _ _ _ _) rfl ?_
  refine Ev.call rfl rfl rfl (x_isMachineC (d := 28) h0) (by omega) ?_
  rintro v V' b' ⟨rfl, rfl, rfl⟩
  refine Ev.blk 1 (B20_4 _ _ _ _ _ _ (b01_in _)) rfl ?_
  refine Ev.ite (fun q => ?_) (fun q => ?_)
  · replace q := b01_1 (nd_t q)
    obtain ⟨i, rfl⟩ : ∃ k : Nat, a0 = (k : Int) := ⟨a0.toNat, by omega⟩
    have hk := hi.kd i (by omega)
    have hT : isT (21 + 15 * i) := k_12 (i := (i : Int)) q
    have hK : isK (14 + 15 * i) := k_11 (i := (i : Int)) q
    have hv := hi.tv i (by omega)
    have hs := hv.sum
    have hk1 : ∀ j, j < 8 → in32 (V' (14 + 15 * i + 4) j) := by
      intro j hj
      have := hk.kn j hj
      exact ⟨by omega, by omega⟩
    have hk2 : ∀ j, j < 8 → in32 (V' 125 (8 * i + j)) := by
      intro j hj
      have := hk.kn j hj
      exact ⟨by omega, by omega⟩
    have hS : sumN (V' (21 + 15 * i + 1)) 8 = sumN (fun j => V' 130 (8 * i + j)) 8 := by
      rw [show 21 + 15 * i + 1 = 22 + 15 * i by omega]
      exact sumN_congr 8 (fun j hj => hi.th i j (by omega) hj)
    have hW : sumN (fun j => V' (21 + 15 * i + 1) j * V' (14 + 15 * i + 4) j) 8 = sumN (fun j => V' 130 (8 * i + j) * V' 125 (8 * i + j)) 8 := by
      rw [show 21 + 15 * i + 1 = 22 + 15 * i by omega]
      exact sumN_congr 8 (fun j hj => by rw [hi.th i j (by omega) hj, (hk.kn j hj).1])
    have hw := kw_bd (h := fun j => V' 130 (8 * i + j) * V' 125 (8 * i + j)) (fun j hj => prod_bd (hv.b j hj) (hk.kn j hj).2)
    obtain ⟨x, hx⟩ : ∃ x : Nat, sumN (fun j => V' 130 (8 * i + j) * V' 125 (8 * i + j)) 8 = (x : Int) := ⟨(sumN (fun j => V' 130 (8 * i + j) * V' 125 (8 * i + j)) 8).toNat, by omega⟩
    obtain ⟨y, hy⟩ : ∃ y : Nat, 10 * sumN (fun j => V' 130 (8 * i + j)) 8 = (y : Int) := ⟨(10 * sumN (fun j => V' 130 (8 * i + j)) 8).toNat, by omega⟩
    rw [hx] at hw hW
    refine Ev.blk 12 (B20_11 _ _ _ _ _ q) rfl ?_
    rw [Int.toNat_natCast]
    refine Ev.call rfl rfl (vg rfl rfl (isT_0 hT) (congrArg Prod.fst (isT_T hT)) rfl) (x_kwC (d := 28) hT hK hk1) (by omega) ?_
    rintro v V1 b1 ⟨rfl, rfl, rfl⟩
    rw [hW]
    refine Ev.blk 3 (B20_32 _ _ _ _ _ _ _ _) rfl ?_
    refine Ev.call rfl rfl (vg rfl rfl (isT_0 hT) (congrArg Prod.fst (isT_T hT)) rfl) (x_sumC (d := 28) hT) (by omega) ?_
    rintro v V1 b1 ⟨rfl, rfl, rfl⟩
    refine Ev.blk 1 (B20_40 _ _ _ _ _ _ _ _ _ _) rfl ?_
    rw [hS, hy]
    have hF : isF 107 := by unfold isF; decide
    refine Ev.call rfl rfl rfl (x_become (d := 27) (a := 107) (x := x) (y := y) hF (by omega) (by omega) (by omega)) (by omega) ?_
    rintro v V2 b2 ⟨rfl, rfl, rfl⟩
    refine Ev.blk 3 (B20_44 _ _ _ _ _ _) rfl ?_
    refine Ev.call rfl rfl rfl (x_toldC (d := 28) hF h2) (by omega) ?_
    rintro v V3 b3 ⟨rfl, rfl, rfl⟩
    have hi2 := hi.f107 ((x / Nat.gcd x y : Nat) : Int) ((y / Nat.gcd x y : Nat) : Int)
    have d1 := Nat.div_le_self x (Nat.gcd x y)
    have d2 := Nat.div_le_self y (Nat.gcd x y)
    refine Ev.ret rfl rfl rfl rfl ⟨(if a1 = 0 then ((y / Nat.gcd x y : Nat) : Int) else ((x / Nat.gcd x y : Nat) : Int)), rfl, ?_, rfl, ?_⟩
    · have nn : ∀ p : Nat, p ≤ 80000000000000000 → in64 (p : Int) := fun p hp => ⟨by omega, by omega⟩
      split
      · exact nn _ (Nat.le_trans d2 (by omega))
      · exact nn _ (Nat.le_trans d1 (by omega))
    refine Ev.blk 1 (B169_0 _ _ _ _ _) rfl ?_
    refine Ev.call rfl rfl rfl (x_isMachineR (d := 27) h0) (by omega) ?_
    rintro v V4 b4 ⟨rfl, rfl, rfl⟩
    refine Ev.blk 1 (B169_4 _ _ _ _ _ _ (b01_in _)) rfl ?_
    refine Ev.ite (fun _ => ?_) (fun z => absurd (show 0 ≤ (i : Int) ∧ (i : Int) ≤ 2 by omega) (b01_0 (nd_f z)))
    refine Ev.blk 4 (B169_11 _ _ _ _ _) rfl ?_
    refine kwR_lp (V := uV (uV V1 107 0 ((x / Nat.gcd x y : Nat) : Int)) 107 1 ((y / Nat.gcd x y : Nat) : Int)) (m := i) (by omega) (fun j hj => hk2 j hj) ?_ 8 0 rfl
    have k1 : uV (uV V1 107 0 ((x / Nat.gcd x y : Nat) : Int)) 107 1 ((y / Nat.gcd x y : Nat) : Int) 130 = V1 130 := by rw [uV_ne (by omega), uV_ne (by omega)]
    have k2 : uV (uV V1 107 0 ((x / Nat.gcd x y : Nat) : Int)) 107 1 ((y / Nat.gcd x y : Nat) : Int) 125 = V1 125 := by rw [uV_ne (by omega), uV_ne (by omega)]
    rw [k1, k2, hx]
    refine Ev.blk 4 (B169_58 _ _ _ _ _ _ _) rfl ?_
    refine Ev.call rfl rfl rfl (x_sumR (d := 28) (m := i) (by omega)) (by omega) ?_
    rintro v V5 b5 ⟨rfl, rfl, rfl⟩
    refine Ev.blk 2 (B169_67 _ _ _ _ _ _ _ _ _ _) rfl ?_
    rw [k1, hy]
    refine Ev.call rfl rfl rfl (x_toldR (d := 27) (x := x) (y := y) (by omega) (by omega) (by omega) h2) (by omega) ?_
    rintro v V6 b6 ⟨rfl, rfl, rfl⟩
    exact Ev.ret rfl rfl rfl rfl ⟨rfl, hi2.more (Nat.le_succ N), hI.2⟩
  · replace q := b01_0 (nd_f q)
    refine Ev.blk 1 (B20_7 _ _ _ _ _) rfl ?_
    refine Ev.ret rfl rfl rfl rfl ⟨_, rfl, by decide, rfl, ?_⟩
    refine Ev.blk 1 (B169_0 _ _ _ _ _) rfl ?_
    refine Ev.call rfl rfl rfl (x_isMachineR (d := 27) h0) (by omega) ?_
    rintro v V4 b4 ⟨rfl, rfl, rfl⟩
    refine Ev.blk 1 (B169_4 _ _ _ _ _ _ (b01_in _)) rfl ?_
    refine Ev.ite (fun z => ?_) (fun _ => ?_)
    · have z := b01_1 (nd_t z)
      omega
    · refine Ev.blk 1 (B169_7 _ _ _ _ _) rfl ?_
      exact Ev.ret rfl rfl rfl rfl ⟨rfl, hi.more (Nat.le_succ N), hI.2⟩
