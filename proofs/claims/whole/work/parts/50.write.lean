/-! the 38 calls: write -/
theorem oAnd255 (z : Int) : oAnd z 255 = z % 256 := by
  show (BitVec.ofInt 32 z &&& 255#32).toInt = _
  have h1 : (BitVec.ofInt 32 z &&& 255#32).toNat = (BitVec.ofInt 32 z).toNat % 256 := by
    rw [BitVec.toNat_and]
    exact Nat.and_two_pow_sub_one_eq_mod _ 8
  rw [BitVec.toInt_eq_toNat_of_lt (by omega), h1, BitVec.toNat_ofInt]
  omega
theorem oLand255 (z : Int) : oLand z 255 = z % 256 := by
  show (BitVec.ofInt 64 z &&& 255#64).toInt = _
  have h1 : (BitVec.ofInt 64 z &&& 255#64).toNat = (BitVec.ofInt 64 z).toNat % 256 := by
    rw [BitVec.toNat_and]
    exact Nat.and_two_pow_sub_one_eq_mod _ 8
  rw [BitVec.toInt_eq_toNat_of_lt (by omega), h1, BitVec.toNat_ofInt]
  omega
theorem oLshr_v (x : Int) (hx : -9223372036854775808 ≤ x ∧ x < 9223372036854775808) (s : Int) (n : Nat) (h : ((Int32.ofInt s).toInt64 &&& 63).toBitVec.smod 64 = BitVec.ofNat 64 n) (hn : n < 64) : oLshr x s = x / (2 ^ n : Nat) := by
  show ((BitVec.ofInt 64 x).sshiftRight' (((Int32.ofInt s).toInt64 &&& 63).toBitVec.smod 64)).toInt = _
  rw [h, BitVec.sshiftRight_eq', BitVec.toInt_sshiftRight, BitVec.toNat_ofNat, Nat.mod_eq_of_lt (by omega), Int.shiftRight_eq_div_pow, BitVec.toInt_ofInt]
  rw [Int.bmod_eq_of_le (by omega) (by omega)]
theorem oLushr_v (x : Int) (s : Int) (n : Nat) (h : ((Int32.ofInt s).toInt64.toUInt64 &&& Int64.toUInt64 63).toBitVec % 64 = BitVec.ofNat 64 n) (hn : n < 64) : oLushr x s % 256 = ((x % 18446744073709551616) / (2 ^ n : Nat)) % 256 := by
  show ((BitVec.ofInt 64 x) >>> (((Int32.ofInt s).toInt64.toUInt64 &&& Int64.toUInt64 63).toBitVec % 64)).toInt % 256 = _
  rw [h]
  have h1 : ((BitVec.ofInt 64 x) >>> (BitVec.ofNat 64 n)).toNat = (x % 18446744073709551616).toNat / 2 ^ n := by
    show ((BitVec.ofInt 64 x) >>> (BitVec.ofNat 64 n).toNat).toNat = _
    rw [BitVec.toNat_ushiftRight, BitVec.toNat_ofNat, Nat.mod_eq_of_lt (by omega), Nat.shiftRight_eq_div_pow, BitVec.toNat_ofInt]
    rfl
  rw [BitVec.toInt_eq_toNat_bmod, h1]
  have h2 : (((x % 18446744073709551616).toNat / 2 ^ n : Nat) : Int) = (x % 18446744073709551616) / (2 ^ n : Nat) := by
    rw [Int.natCast_ediv, Int.toNat_of_nonneg (by omega)]
  rw [h2]
  rw [Int.bmod_def]
  split <;> omega
theorem byte_eq (x : Int) (hx : -9223372036854775808 ≤ x ∧ x < 9223372036854775808) (k : Nat) (hk : k < 8) : oAnd (oLushr x (8 * (k : Int))) 255 = oLand (oLshr x (8 * (k : Int))) 255 ∧ 0 ≤ oLand (oLshr x (8 * (k : Int))) 255 ∧ oLand (oLshr x (8 * (k : Int))) 255 ≤ 255 := by
  rw [oAnd255, oLand255]
  have hc : k = 0 ∨ k = 1 ∨ k = 2 ∨ k = 3 ∨ k = 4 ∨ k = 5 ∨ k = 6 ∨ k = 7 := by omega
  rcases hc with rfl | rfl | rfl | rfl | rfl | rfl | rfl | rfl
  · rw [oLushr_v x _ 0 (by decide) (by omega), oLshr_v x hx _ 0 (by decide) (by omega)]; omega
  · rw [oLushr_v x _ 8 (by decide) (by omega), oLshr_v x hx _ 8 (by decide) (by omega)]; omega
  · rw [oLushr_v x _ 16 (by decide) (by omega), oLshr_v x hx _ 16 (by decide) (by omega)]; omega
  · rw [oLushr_v x _ 24 (by decide) (by omega), oLshr_v x hx _ 24 (by decide) (by omega)]; omega
  · rw [oLushr_v x _ 32 (by decide) (by omega), oLshr_v x hx _ 32 (by decide) (by omega)]; omega
  · rw [oLushr_v x _ 40 (by decide) (by omega), oLshr_v x hx _ 40 (by decide) (by omega)]; omega
  · rw [oLushr_v x _ 48 (by decide) (by omega), oLshr_v x hx _ 48 (by decide) (by omega)]; omega
  · rw [oLushr_v x _ 56 (by decide) (by omega), oLshr_v x hx _ 56 (by decide) (by omega)]; omega
/-- a cell of a row set -/
def upd (f : Nat → Int) (l : Nat) (z : Int) : Nat → Int := fun j => if j = l then z else f j
theorem uV_upd (V : Mv) (a l : Nat) (z : Int) : uV V a l z a = upd (V a) l z := funext (fun j => uV_at V a l z j)
/-- bytes laid one behind the other, the highest first -/
def wrt (f : Nat → Int) (l : Nat) (g : Nat → Int) : Nat → (Nat → Int)
  | 0 => f
  | n + 1 => wrt (upd f l (g n)) (l + 1) g n
theorem wrt_eq {c r : Nat → Int} (hb : ∀ k, k < 8 → c k = r k ∧ 0 ≤ r k ∧ r k ≤ 255) : ∀ (n : Nat) (f g : Nat → Int) (l : Nat), n ≤ 8 → (∀ j, j < 64 → f j = g j ∧ 0 ≤ g j ∧ g j ≤ 255) → ∀ j, j < 64 → wrt f l c n j = wrt g l r n j ∧ 0 ≤ wrt g l r n j ∧ wrt g l r n j ≤ 255
  | 0, _, _, _, _, h => h
  | n + 1, f, g, l, hn, h => by
    refine wrt_eq hb n (upd f l (c n)) (upd g l (r n)) (l + 1) (by omega) (fun j hj => ?_)
    have h1 := h j hj
    have h2 := hb n (by omega)
    unfold upd
    split <;> assumption
theorem wrC_lp {L d : Nat} {x1 x2 : Int} {b : Bool} {Q : Option AV → Mv → Bool → Prop} : ∀ (n : Nat) (V : Mv) (l : Nat), n ≤ 8 → V 2 0 = (l : Int) → l + n ≤ 64 → (∀ V', V' 2 0 = ((l + n : Nat) : Int) → V' 3 = wrt (V 3) l (fun k => oAnd (oLushr x2 (8 * (k : Int))) 255) n → (∀ a, a ≠ 2 → a ≠ 3 → V' a = V a) → Q (some (.inl ((l + n : Nat) : Int))) V' b) → Ev L d 53 19 [some (.inr (.inr 2)), some (.inl x1), some (.inr (.inl x2)), none, some (.inl ((n : Int) - 1))] [] V b Q
  | 0, V, l, hn, h1, h2, hQ => by
    refine Ev.blk 2 (B53_19 _ _ _ _ _ _ (by decide)) rfl ?_
    refine Ev.ite (fun _ => ?_) (fun h => absurd h (by decide))
    refine Ev.blk 2 (B53_61 _ _ _ _ _ _) rfl ?_
    refine Ev.ret rfl rfl rfl rfl ?_
    rw [h1]
    exact hQ V h1 rfl (fun a _ _ => rfl)
  | n + 1, V, l, hn, h1, h2, hQ => by
    refine Ev.blk 2 (B53_19 _ _ _ _ _ _ ⟨by omega, by omega⟩) rfl ?_
    refine Ev.ite (fun h => absurd (of_decide_eq_true h) (by omega)) (fun _ => ?_)
    refine Ev.blk 21 (B53_24 _ _ _ _ _ _ ⟨by omega, by omega⟩) rfl ?_
    rw [show (((n + 1 : Nat) : Int) - 1) = (n : Int) by omega, h1, Int.toNat_natCast]
    refine wrC_lp n _ (l + 1) (by omega) ?_ (by omega) (fun V' e1 e2 e3 => ?_)
    · rw [uV_at, if_pos rfl, uV_ne (by omega), h1]
      rfl
    · rw [show l + (n + 1) = l + 1 + n by omega] at hQ ⊢
      refine hQ V' e1 ?_ (fun a ha hb => ?_)
      · rw [e2, uV_ne (by omega), uV_upd]
        rfl
      · rw [e3 a ha hb, uV_ne ha, uV_ne hb]
theorem wrR_lp {L d : Nat} {x1 x2 : Int} {b : Bool} {Q : Option AV → Mv → Bool → Prop} : ∀ (n : Nat) (V : Mv) (l : Nat), n ≤ 8 → V 120 10 = (l : Int) → l + n ≤ 64 → (∀ V', V' 120 10 = ((l + n : Nat) : Int) → V' 128 = wrt (V 128) l (fun k => oLand (oLshr x2 (8 * (k : Int))) 255) n → (∀ a, a ≠ 120 → a ≠ 128 → V' a = V a) → (∀ k, k ≠ 10 → V' 120 k = V 120 k) → Q (some (.inl ((l + n : Nat) : Int))) V' b) → Ev L d 131 34 [some (.inr (.inr 120)), some (.inl x1), some (.inr (.inl x2)), none, some (.inl ((n : Int) - 1))] [] V b Q
  | 0, V, l, hn, h1, h2, hQ => by
    refine Ev.blk 2 (B131_34 _ _ _ _ _ _ (by decide)) rfl ?_
    refine Ev.ite (fun _ => ?_) (fun h => absurd h (by decide))
    refine Ev.blk 2 (B131_76 _ _ _ _ _ _) rfl ?_
    refine Ev.ret rfl rfl rfl rfl ?_
    rw [h1]
    exact hQ V h1 rfl (fun a _ _ => rfl) (fun k _ => rfl)
  | n + 1, V, l, hn, h1, h2, hQ => by
    refine Ev.blk 2 (B131_34 _ _ _ _ _ _ ⟨by omega, by omega⟩) rfl ?_
    refine Ev.ite (fun h => absurd (of_decide_eq_true h) (by omega)) (fun _ => ?_)
    refine Ev.blk 21 (B131_39 _ _ _ _ _ _ ⟨by omega, by omega⟩) rfl ?_
    rw [show (((n + 1 : Nat) : Int) - 1) = (n : Int) by omega, h1, Int.toNat_natCast]
    refine wrR_lp n _ (l + 1) (by omega) ?_ (by omega) (fun V' e1 e2 e3 e4 => ?_)
    · rw [uV_at, if_pos rfl, uV_ne (by omega), h1]
      rfl
    · rw [show l + (n + 1) = l + 1 + n by omega] at hQ ⊢
      refine hQ V' e1 ?_ (fun a ha hb => ?_) (fun k hk => ?_)
      · rw [e2, uV_ne (by omega), uV_upd]
        rfl
      · rw [e3 a ha hb, uV_ne ha, uV_ne hb]
      · rw [e4 k hk, uV_at, if_neg hk, uV_ne (by omega)]
theorem op_write (a0 a1 : Int) (h0 : in32 a0) (h1 : in64 a1) : OpI 2 131 [.inl a0, .inr (.inl a1)] := by
  intro L N V b hL hN hI
  have hi := hI.1
  have hl := hi.tl
  by_cases q : 1 ≤ a0 ∧ a0 ≤ 8
  · obtain ⟨n, rfl⟩ : ∃ k : Nat, a0 = (k : Int) := ⟨a0.toNat, by omega⟩
    obtain ⟨l, hl2⟩ : ∃ k : Nat, V 120 10 = (k : Int) := ⟨(V 120 10).toNat, by omega⟩
    refine Ev.blk 3 (B2_0 _ _ _ _ _ h0) rfl ?_
    refine Ev.ite (fun z => absurd (of_decide_eq_true z) (by omega)) (fun _ => ?_)
    refine Ev.blk 3 (B2_5 _ _ _ _ _ h0) rfl ?_
    refine Ev.ite (fun _ => ?_) (fun z => absurd (of_decide_eq_false z) (by omega))
    refine Ev.blk 4 (B2_14 _ _ _ _ _) rfl ?_
    by_cases q2 : l + n ≤ 64
    · have cC : Ex L 28 53 [.inr (.inr 2), .inl (n : Int), .inr (.inl a1)] V b (fun v V' b' => v = some (.inl ((l + n : Nat) : Int)) ∧ b' = b ∧ V' 2 0 = ((l + n : Nat) : Int) ∧ V' 3 = wrt (V 3) l (fun k => oAnd (oLushr a1 (8 * (k : Int))) 255) n ∧ (∀ a, a ≠ 2 → a ≠ 3 → V' a = V a)) := by
        refine Ev.blk 6 (B53_0 _ _ _ _ _ ⟨by omega, by omega⟩) rfl ?_
        refine Ev.ite (fun _ => ?_) (fun z => absurd (of_decide_eq_false z) (by omega))
        refine Ev.blk 4 (B53_14 _ _ _ _ _) rfl ?_
        exact wrC_lp n V l (by omega) (by omega) q2 (fun V' e1 e2 e3 => ⟨rfl, rfl, e1, e2, e3⟩)
      refine Ev.call rfl rfl rfl cC (by omega) ?_
      rintro v V1 b1 ⟨rfl, rfl, e1, e2, e3⟩
      refine Ev.ret rfl rfl rfl rfl ⟨_, rfl, ⟨by omega, by omega⟩, e3 0 (by omega) (by omega), ?_⟩
      refine Ev.blk 4 (B131_0 _ _ _ _ _ h0) rfl ?_
      refine Ev.call rfl rfl rfl (x_in (d := 28) ⟨by omega, by omega⟩ (by decide) (by decide)) (by omega) ?_
      rintro v V' b' ⟨rfl, rfl, rfl⟩
      refine Ev.blk 1 (B131_9 _ _ _ _ _ _ (b01_in _)) rfl ?_
      refine Ev.ite (fun _ => ?_) (fun z => absurd q (b01_0 (nd_f z)))
      have e4 : V' 120 10 = (l : Int) := by rw [e3 120 (by omega) (by omega)]; exact hl2
      refine Ev.blk 6 (B131_15 _ _ _ _ _ ⟨by omega, by omega⟩) rfl ?_
      refine Ev.ite (fun _ => ?_) (fun z => absurd (of_decide_eq_false z) (by omega))
      refine Ev.blk 4 (B131_29 _ _ _ _ _) rfl ?_
      refine wrR_lp n V' l (by omega) e4 q2 (fun V2 f1 f2 f3 f4 => ?_)
      refine ⟨rfl, ?_, ?_⟩
      · refine (hi.more (Nat.le_succ N)).text (fun a ha n1 n2 n3 => ?_) ?_ ?_ ?_
        · unfold dI at ha
          rw [f3 a (by omega) n3, e3 a n1 n2]
        · rw [f4 37 (by omega), e3 120 (by omega) (by omega)]
        · rw [f1, f3 2 (by omega) (by omega), e1]
          omega
        · rw [f2, f3 3 (by omega) (by omega), e2, e3 128 (by omega) (by omega)]
          exact wrt_eq (fun k hk => byte_eq a1 h1 k hk) n _ _ l (by omega) hi.tb
      · intro k
        rw [f3 0 (by omega) (by omega), e3 0 (by omega) (by omega)]
        exact hI.2 k
    · have cC : Ex L 28 53 [.inr (.inr 2), .inl (n : Int), .inr (.inl a1)] V b (Ans (some (.inl (-4))) V b) := by
        refine Ev.blk 6 (B53_0 _ _ _ _ _ ⟨by omega, by omega⟩) rfl ?_
        refine Ev.ite (fun z => absurd (of_decide_eq_true z) (by omega)) (fun _ => ?_)
        refine Ev.blk 1 (B53_11 _ _ _ _ _) rfl ?_
        exact Ev.ret rfl rfl rfl rfl ⟨rfl, rfl, rfl⟩
      refine Ev.call rfl rfl rfl cC (by omega) ?_
      rintro v V1 b1 ⟨rfl, rfl, rfl⟩
      refine Ev.ret rfl rfl rfl rfl ⟨_, rfl, by decide, rfl, ?_⟩
      refine Ev.blk 4 (B131_0 _ _ _ _ _ h0) rfl ?_
      refine Ev.call rfl rfl rfl (x_in (d := 28) ⟨by omega, by omega⟩ (by decide) (by decide)) (by omega) ?_
      rintro v V' b' ⟨rfl, rfl, rfl⟩
      refine Ev.blk 1 (B131_9 _ _ _ _ _ _ (b01_in _)) rfl ?_
      refine Ev.ite (fun _ => ?_) (fun z => absurd q (b01_0 (nd_f z)))
      refine Ev.blk 6 (B131_15 _ _ _ _ _ ⟨by omega, by omega⟩) rfl ?_
      refine Ev.ite (fun z => absurd (of_decide_eq_true z) (by omega)) (fun _ => ?_)
      refine Ev.blk 1 (B131_26 _ _ _ _ _) rfl ?_
      exact Ev.ret rfl rfl rfl rfl ⟨rfl, hi.more (Nat.le_succ N), hI.2⟩
  · have rest : ∀ V1 b1, V1 = V → Ex L 29 131 [.inr (.inr 120), .inl a0, .inr (.inl a1)] V1 b1 (fun v2 V2 _ => v2 = some (.inl (-2)) ∧ Iv (N + 1) V2) := by
      rintro V1 b1 rfl
      refine Ev.blk 4 (B131_0 _ _ _ _ _ h0) rfl ?_
      refine Ev.call rfl rfl rfl (x_in (d := 28) ⟨by omega, by omega⟩ (by decide) (by decide)) (by omega) ?_
      rintro v V' b' ⟨rfl, rfl, rfl⟩
      refine Ev.blk 1 (B131_9 _ _ _ _ _ _ (b01_in _)) rfl ?_
      refine Ev.ite (fun z => absurd (b01_1 (nd_t z)) q) (fun _ => ?_)
      refine Ev.blk 1 (B131_12 _ _ _ _ _) rfl ?_
      exact Ev.ret rfl rfl rfl rfl ⟨rfl, hi.more (Nat.le_succ N), hI.2⟩
    refine Ev.blk 3 (B2_0 _ _ _ _ _ h0) rfl ?_
    refine Ev.ite (fun _ => ?_) (fun z => ?_)
    · refine Ev.blk 1 (B2_11 _ _ _ _ _) rfl ?_
      exact Ev.ret rfl rfl rfl rfl ⟨_, rfl, by decide, rfl, rest _ _ rfl⟩
    · replace z := of_decide_eq_false z
      refine Ev.blk 3 (B2_5 _ _ _ _ _ h0) rfl ?_
      refine Ev.ite (fun z => absurd (of_decide_eq_true z) (by omega)) (fun _ => ?_)
      refine Ev.blk 1 (B2_11 _ _ _ _ _) rfl ?_
      exact Ev.ret rfl rfl rfl rfl ⟨_, rfl, by decide, rfl, rest _ _ rfl⟩
