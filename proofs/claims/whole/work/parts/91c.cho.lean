/-! choices, numbers, idle rules, in the class (specs73.py) -/
theorem isKB {c x i j : Nat} (hc : isK c) (hx : isB x) (hi : i ≤ 6) (hj : j ≤ 4) : c + i ≠ x + j := by
  unfold isK at hc
  unfold isB at hx
  omega
theorem nat32 {k : Nat} (h : k < 2147483648) : in32 (k : Int) := ⟨by omega, by omega⟩
theorem isB_b {x : Nat} (hx : isB x) : 24 ≤ x ∧ x ≤ 54 := by
  unfold isB at hx
  omega
theorem pw_pow (b : Nat) : ∀ n, pw (b : Int) n = ((b ^ n : Nat) : Int)
  | 0 => rfl
  | n + 1 => by
    show pw (b : Int) n * (b : Int) = _
    rw [pw_pow b n, Nat.pow_succ, Int.natCast_mul]
theorem x_ruleC {L d : Nat} {V : Mv} {b : Bool} {c n : Nat} {mw : Nat → Int} (hc : isK c) (h0 : V c 0 = (n : Int)) (h8 : n ≤ 8) (hw : ∀ j, j < 4 → V (c + 6) j = mw j) (hb : ∀ j, j < 4 → in32 (mw j)) : Ex L (d + 2) 77 [.inr (.inr c)] V b (Ans (some (.inr (.inl ((bsN mw ^ n : Nat) : Int)))) V b) := by
  have pi := pcm_in mw
  refine Ev.blk 1 (B77_0 _ _ _ _) rfl ?_
  refine Ev.call rfl rfl (vg rfl rfl (isK_0 hc) (congrArg Prod.fst (isK_T hc)) rfl) (x_bitsC (d := d) hc (fun j hj => by
    obtain ⟨i, rfl⟩ : ∃ i : Nat, j = (i : Int) := ⟨j.toNat, by omega⟩
    rw [Int.toNat_natCast, hw i (by omega)]
    exact hb i (by omega))) (by omega) ?_
  rintro v V' b' ⟨rfl, h_, g_⟩
  subst V' b'
  refine Ev.call rfl rfl rfl (x_bc (d := d) _) (by omega) ?_
  rintro v V' b' ⟨rfl, h_, g_⟩
  subst V' b'
  rw [pcm_congr (g := mw) hw]
  refine Ev.blk 5 (B77_7 _ _ _ _ _ ⟨by omega, by omega⟩ hc) rfl ?_
  rw [h0]
  refine Ev.call rfl rfl rfl (x_power (d := d) h8) (by omega) ?_
  rintro v V' b' ⟨rfl, h_, g_⟩
  subst V' b'
  refine Ev.ret rfl rfl rfl rfl ⟨?_, rfl, rfl⟩
  rw [← bsN_pcm, pw_pow]
theorem lch_lp {L d : Nat} {V : Mv} {b : Bool} {Q : Option AV → Mv → Bool → Prop} {x c : Nat} {mw : Nat → Int} (hx : isB x) (hc : isK c) (hw : ∀ j, j < 4 → V (c + 6) j = mw j) (hb : ∀ j, j < 4 → in32 (mw j)) (hQ : ∀ W, (∀ y, y ≠ x → y ≠ x + 4 → W y = V y) → (∀ k, k ≠ 5 → W x k = V x k) → W x 5 = (bsN mw : Int) → (∀ w, w < 5 → pB mw w = true → W (x + 4) (cn (pB mw) w) = (w : Int)) → Q none W b) : ∀ (g i : Nat) (W : Mv), i + g = 4 → (∀ y, y ≠ x → y ≠ x + 4 → W y = V y) → (∀ k, k ≠ 5 → W x k = V x k) → W x 5 = (cn (pB mw) (i + 1) : Int) → (∀ w, w < i + 1 → pB mw w = true → W (x + 4) (cn (pB mw) w) = (w : Int)) → Ev L (d + 1) 107 14 [some (.inr (.inr x)), some (.inr (.inr c)), some (.inl (i : Int))] [] W b Q
  | 0, i, W, h, w1, w2, w3, w4 => by
    obtain rfl : i = 4 := by omega
    refine Ev.blk 3 (B107_14 _ _ _ _ _ _ (by decide)) rfl ?_
    refine Ev.ite (fun _ => ?_) (fun z => absurd z (by decide))
    exact Ev.ret rfl rfl rfl rfl (hQ W w1 w2 w3 w4)
  | g + 1, i, W, h, w1, w2, w3, w4 => by
    have eM : W (c + 6) = V (c + 6) := w1 _ (isKB (j := 0) hc hx (by omega) (by omega)) (isKB hc hx (by omega) (by omega))
    have hk := cn_n (pB mw) (i + 1)
    have pt := pB_t (mw := mw) (d := i + 1)
    rw [show i + 1 - 1 = i by omega] at pt
    refine Ev.blk 3 (B107_14 _ _ _ _ _ _ ⟨by omega, by omega⟩) rfl ?_
    refine Ev.ite (fun z => absurd (of_decide_eq_true z) (by omega)) (fun _ => ?_)
    refine Ev.blk 2 (B107_19 _ _ _ _ _ _) rfl ?_
    refine Ev.call rfl rfl (vg rfl rfl (isK_0 hc) (congrArg Prod.fst (isK_T hc)) rfl) (x_hasMending (d := d) hc (j := (i : Int)) ⟨by omega, by omega⟩ (fun j hj => ?_)) (by omega) ?_
    · obtain ⟨k, rfl⟩ : ∃ k : Nat, j = (k : Int) := ⟨j.toNat, by omega⟩
      rw [Int.toNat_natCast, eM, hw k (by omega)]
      exact hb k (by omega)
    rintro v V' b' ⟨rfl, h_, g_⟩
    subst V' b'
    rw [Int.toNat_natCast, eM, hw i (by omega)]
    refine Ev.blk 1 (B107_24 _ _ _ _ _ _ _ (b01_in _)) rfl ?_
    refine Ev.ite (fun z => ?_) (fun z => ?_)
    · replace z := b01_0 (of_decide_eq_true z)
      have p : ¬ pB mw (i + 1) = true := fun y => by
        rcases pt.mp y with q | q
        · omega
        · exact z ⟨by omega, by omega, q⟩
      refine Ev.blk 2 (B107_49 _ _ _ _ _ _) rfl ?_
      refine lch_lp (L := L) (d := d) hx hc hw hb hQ g (i + 1) W (by omega) w1 w2 (by rw [cn_f p]; exact w3) (fun w hw2 hp => ?_)
      by_cases e : w = i + 1
      · rw [e] at hp
        exact absurd hp p
      · exact w4 w (by omega) hp
    · replace z := b01_1 (of_decide_eq_false z)
      have p := pt.mpr (Or.inr z.2.2)
      refine Ev.blk 14 (B107_27 _ _ _ _ _ _ hx (by rw [w3]; omega)) rfl ?_
      refine Ev.blk 2 (B107_49 _ _ _ _ _ _) rfl ?_
      refine lch_lp (L := L) (d := d) hx hc hw hb hQ g (i + 1) _ (by omega) (fun y h1 h2 => by rw [uV_ne h1, uV_ne h2]; exact w1 y h1 h2) (fun k hk2 => by rw [uV_at, if_neg hk2, uV_ne (by omega)]; exact w2 k hk2) ?_ (fun w hw2 hp => ?_)
      · rw [uV_at, if_pos rfl, uV_ne (by omega), w3, cn_t p]
        omega
      · rw [uV_ne (by omega), uV_at, w3, Int.toNat_natCast]
        by_cases e : w = i + 1
        · rw [e, if_pos rfl]
          omega
        · have := cn_lt_of (P := pB mw) (n := i + 1) (w := w) (by omega) hp
          rw [if_neg (by omega)]
          exact w4 w (by omega) hp
theorem x_listC {L d : Nat} {V : Mv} {b : Bool} {x c : Nat} {mw : Nat → Int} (hx : isB x) (hc : isK c) (hw : ∀ j, j < 4 → V (c + 6) j = mw j) (hb : ∀ j, j < 4 → in32 (mw j)) : Ex L (d + 1) 107 [.inr (.inr x), .inr (.inr c)] V b (fun v W b' => v = none ∧ b' = b ∧ (∀ y, y ≠ x → y ≠ x + 4 → W y = V y) ∧ (∀ k, k ≠ 5 → W x k = V x k) ∧ W x 5 = (bsN mw : Int) ∧ ∀ j, j < bsN mw → W (x + 4) j = (chN mw j : Int)) := by
  have e1 : cn (pB mw) 1 = 1 := cn_t (P := pB mw) (n := 0) rfl
  refine Ev.blk 10 (B107_0 _ _ _ _ _ hx) rfl ?_
  refine lch_lp (V := V) hx hc hw hb (fun W w1 w2 w3 w4 => ⟨rfl, rfl, w1, w2, w3, fun j hj => ?_⟩) 4 0 _ (by omega) (fun y h1 h2 => by rw [uV_ne h2, uV_ne h1]) (fun k hk => by rw [uV_ne (by omega), uV_at, if_neg hk]) ?_ (fun w hw2 hp => ?_)
  · rw [uV_ne (by omega), uV_at, if_pos rfl, e1]
    rfl
  · obtain rfl : w = 0 := by omega
    show uV _ (x + 4) 0 0 (x + 4) 0 = _
    rw [uV_at, if_pos rfl]
    rfl
  · have a := ch_at hj
    have := w4 _ a.1 a.2.1
    rw [a.2.2] at this
    exact this
def lwN (mw : Nat → Int) (i : Nat) : Nat → Nat
  | 0 => 0
  | k + 1 => lwN mw i k + chN mw (i / bsN mw ^ k % bsN mw) * 5 ^ k
theorem nmb_lw (mw : Nat → Int) (i : Nat) : ∀ k m, nmb mw (m + k) i = nmb mw m (i / bsN mw ^ k) * 5 ^ k + lwN mw i k
  | 0, m => by
    show nmb mw m i = nmb mw m (i / bsN mw ^ 0) * 5 ^ 0 + 0
    rw [Nat.pow_zero, Nat.pow_zero, Nat.div_one, Nat.mul_one]
    rfl
  | k + 1, m => by
    rw [show m + (k + 1) = m + 1 + k by omega, nmb_lw mw i k (m + 1), nmb_s, Nat.div_div_eq_div_mul, ← Nat.pow_succ]
    show _ = nmb mw m (i / bsN mw ^ (k + 1)) * 5 ^ (k + 1) + (lwN mw i k + chN mw (i / bsN mw ^ k % bsN mw) * 5 ^ k)
    rw [Nat.add_mul, Nat.mul_assoc, Nat.mul_comm 5, ← Nat.pow_succ]
    simp only [Nat.succ_eq_add_one]
    omega
theorem nmb_lw0 (mw : Nat → Int) (n i : Nat) : nmb mw n i = lwN mw i n := by
  have := nmb_lw mw i n 0
  rw [Nat.zero_add] at this
  rw [this]
  show 0 * _ + _ = _
  rw [Nat.zero_mul, Nat.zero_add]
theorem dg_nmb (mw : Nat → Int) : ∀ n i k, k < n → dg (nmb mw n i) n (n - 1 - k) = (chN mw (i / bsN mw ^ k % bsN mw) : Int)
  | 0, _, _, h => absurd h (by omega)
  | n + 1, i, k, h => by
    have c1 := nmb_ch mw i
    by_cases e : k = 0
    · subst e
      rw [show n + 1 - 1 - 0 = n by omega, dg_la, nmb_s, show (nmb mw n (i / bsN mw) * 5 + chN mw (i % bsN mw)) % 5 = chN mw (i % bsN mw) by omega, Nat.pow_zero, Nat.div_one]
    · obtain ⟨j, rfl⟩ : ∃ j, k = j + 1 := ⟨k - 1, by omega⟩
      rw [show n + 1 - 1 - (j + 1) = n - 1 - j by omega, dg_up (by omega), nmb_s, show (nmb mw n (i / bsN mw) * 5 + chN mw (i % bsN mw)) / 5 = nmb mw n (i / bsN mw) by omega, dg_nmb mw n _ j (by omega), Nat.div_div_eq_div_mul, Nat.mul_comm, ← Nat.pow_succ]
theorem no_lp {L d : Nat} {V : Mv} {b : Bool} {Q : Option AV → Mv → Bool → Prop} {x c n i : Nat} {mw : Nat → Int} (hx : isB x) (h8 : n ≤ 8) (hi : i < 2147483648) (h5 : V x 5 = (bsN mw : Int)) (h4 : ∀ j, j < bsN mw → V (x + 4) j = (chN mw j : Int)) (hQ : ∀ W, (∀ y, y ≠ x + 3 → W y = V y) → (∀ a, a < n → W (x + 3) a = dg (nmb mw n i) n a) → Q (some (.inl (nmb mw n i : Int))) W b) : ∀ (p : Nat) (W : Mv), p ≤ n → (∀ y, y ≠ x + 3 → W y = V y) → (∀ a, p ≤ a → a < n → W (x + 3) a = dg (nmb mw n i) n a) → Ev L d 108 16 [some (.inr (.inr x)), some (.inr (.inr c)), some (.inl (i : Int)), some (.inl ((i / bsN mw ^ (n - p) : Nat) : Int)), some (.inl ((5 ^ (n - p) : Nat) : Int)), some (.inl (lwN mw i (n - p) : Int)), some (.inl ((p : Int) - 1))] [] W b Q
  | 0, W, hp, w1, w2 => by
    refine Ev.blk 2 (B108_16 _ _ _ _ _ _ _ _ _ _ ⟨by omega, by omega⟩) rfl ?_
    refine Ev.ite (fun _ => ?_) (fun z => absurd (of_decide_eq_false z) (by omega))
    refine Ev.blk 1 (B108_80 _ _ _ _ _ _ _ _ _ _) rfl ?_
    rw [show n - 0 = n by omega, ← nmb_lw0]
    exact Ev.ret rfl rfl rfl rfl (hQ W w1 (fun a ha => w2 a (by omega) ha))
  | p + 1, W, hp, w1, w2 => by
    have bp := bs_pos mw
    have b5 := bs_5 mw
    have xb := isB_b hx
    have e5 : W x 5 = (bsN mw : Int) := by rw [w1 x (by omega)]; exact h5
    have rl : i / bsN mw ^ (n - (p + 1)) ≤ i := Nat.div_le_self _ _
    have ml := Nat.mod_lt (i / bsN mw ^ (n - (p + 1))) bp
    have et : Int.tmod ((i / bsN mw ^ (n - (p + 1)) : Nat) : Int) (W x 5) = ((i / bsN mw ^ (n - (p + 1)) % bsN mw : Nat) : Int) := by rw [e5]; rfl
    have e4 : W (x + 4) (i / bsN mw ^ (n - (p + 1)) % bsN mw) = (chN mw (i / bsN mw ^ (n - (p + 1)) % bsN mw) : Int) := by rw [w1 (x + 4) (by omega)]; exact h4 _ ml
    rw [show (((p + 1 : Nat) : Int) - 1) = (p : Int) by omega]
    refine Ev.blk 2 (B108_16 _ _ _ _ _ _ _ _ _ _ ⟨by omega, by omega⟩) rfl ?_
    refine Ev.ite (fun z => absurd (of_decide_eq_true z) (by omega)) (fun _ => ?_)
    refine Ev.blk 3 (B108_21 _ _ _ _ _ _ _ _ _ _ hx (by rw [e5]; exact ⟨by omega, by omega⟩)) rfl ?_
    rw [e5]
    refine Ev.ite (fun z => absurd (of_decide_eq_true z) (by omega)) (fun _ => ?_)
    refine Ev.blk 31 (B108_28 _ _ _ _ _ _ _ _ _ _ hx (nat32 (Nat.lt_of_le_of_lt rl hi)) (by rw [e5]; exact ⟨by omega, by omega⟩) (by rw [e5]; omega) (by rw [et]; exact ⟨by omega, by omega⟩) ⟨by omega, by omega⟩ (by rw [uV_ne (by omega), e5]; exact ⟨by omega, by omega⟩) (by rw [uV_ne (by omega), e5]; omega)) rfl ?_
    rw [et, Int.toNat_natCast, Int.toNat_natCast, e4, uV_ne (a' := x) (by omega), e5, uV_at, if_pos rfl]
    have s1 : n - p = n - (p + 1) + 1 := by omega
    have eD : Int.tdiv ((i / bsN mw ^ (n - (p + 1)) : Nat) : Int) (bsN mw : Int) = ((i / bsN mw ^ (n - p) : Nat) : Int) := by
      rw [s1, Nat.pow_succ, ← Nat.div_div_eq_div_mul]
      rfl
    have eP : ((5 ^ (n - (p + 1)) : Nat) : Int) * 5 = ((5 ^ (n - p) : Nat) : Int) := by
      rw [s1, Nat.pow_succ, Int.natCast_mul]
      rfl
    have eL : (lwN mw i (n - (p + 1)) : Int) + (chN mw (i / bsN mw ^ (n - (p + 1)) % bsN mw) : Int) * ((5 ^ (n - (p + 1)) : Nat) : Int) = (lwN mw i (n - p) : Int) := by
      rw [s1, ← Int.natCast_mul, ← Int.natCast_add]
      rfl
    rw [eD, eP, eL]
    refine no_lp (L := L) (d := d) hx h8 hi h5 h4 hQ p _ (by omega) (fun y hy => by rw [uV_ne hy]; exact w1 y hy) (fun a h1 h2 => ?_)
    rw [uV_at]
    by_cases e : a = p
    · rw [if_pos e, e]
      have := dg_nmb mw n i (n - (p + 1)) (by omega)
      rw [show n - 1 - (n - (p + 1)) = p by omega] at this
      exact this.symm
    · rw [if_neg e]
      exact w2 a (by omega) h2
theorem x_numOf {L d : Nat} {V : Mv} {b : Bool} {x c n i : Nat} {mw : Nat → Int} (hx : isB x) (hc : isK c) (h0 : V c 0 = (n : Int)) (h8 : n ≤ 8) (hi : i < 2147483648) (h5 : V x 5 = (bsN mw : Int)) (h4 : ∀ j, j < bsN mw → V (x + 4) j = (chN mw j : Int)) : Ex L d 108 [.inr (.inr x), .inr (.inr c), .inl (i : Int)] V b (fun v W b' => v = some (.inl (nmb mw n i : Int)) ∧ b' = b ∧ (∀ y, y ≠ x + 3 → W y = V y) ∧ ∀ a, a < n → W (x + 3) a = dg (nmb mw n i) n a) := by
  refine Ev.blk 11 (B108_0 _ _ _ _ _ _ hc) rfl ?_
  rw [h0]
  have := no_lp (L := L) (d := d) (V := V) (b := b) (c := c) (Q := fun v W b' => v = some (.inl (nmb mw n i : Int)) ∧ b' = b ∧ (∀ y, y ≠ x + 3 → W y = V y) ∧ ∀ a, a < n → W (x + 3) a = dg (nmb mw n i) n a) hx h8 hi h5 h4 (fun W w1 w2 => ⟨rfl, rfl, w1, w2⟩) n V (by omega) (fun _ _ => rfl) (fun a h1 h2 => absurd h1 (by omega))
  rw [show n - n = 0 by omega, Nat.pow_zero, Nat.pow_zero, Nat.div_one] at this
  exact this
theorem idle_lp {L d : Nat} {V : Mv} {b : Bool} {Q : Option AV → Mv → Bool → Prop} {x c n : Nat} {mo : Int} {G : Nat → Nat → Int} {mw act : Nat → Int} (hx : isB x) (hc : isK c) (h0 : V c 0 = (n : Int)) (h8 : n ≤ 8) (hA : ∀ a, a < n → V (x + 3) a = act a) (hb : ∀ a, a < n → 0 ≤ act a ∧ act a ≤ 4) (hm : setb mo (mrB (qA G act mw) n)) (hQ1 : idl n G mw act → Q (some (.inl 1)) V b) (hQ0 : ¬ idl n G mw act → Q (some (.inl 0)) V b) : ∀ (g k : Nat), k + g = n → (∀ a, a < k → ¬ (¬ act a = 0 ∧ ¬ mor (qA G act mw) n a)) → Ev L d 109 2 [some (.inr (.inr x)), some (.inr (.inr c)), some (.inl mo), some (.inl (k : Int))] [] V b Q
  | 0, k, h, w => by
    obtain rfl : k = n := by omega
    refine Ev.blk 4 (B109_2 _ _ _ _ _ _ _ hc ⟨by omega, by omega⟩ (by rw [h0]; exact ⟨by omega, by omega⟩)) rfl ?_
    rw [h0]
    refine Ev.ite (fun _ => ?_) (fun z => absurd (of_decide_eq_false z) (by omega))
    refine Ev.blk 1 (B109_35 _ _ _ _ _ _ _) rfl ?_
    exact Ev.ret rfl rfl rfl rfl (hQ0 (fun ⟨a, ha, h1, h2⟩ => w a ha ⟨h1, h2⟩))
  | g + 1, k, h, w => by
    have eA : V (x + 3) ((k : Int)).toNat = act k := by rw [Int.toNat_natCast]; exact hA k (by omega)
    have bk := hb k (by omega)
    have ht := setb_t hm (v := k) (by omega)
    rw [mrB_t] at ht
    have nxt : ¬ (¬ act k = 0 ∧ ¬ mor (qA G act mw) n k) → Ev L d 109 29 [some (.inr (.inr x)), some (.inr (.inr c)), some (.inl mo), some (.inl (k : Int))] [] V b Q := fun z => by
      refine Ev.blk 2 (B109_29 _ _ _ _ _ _ _) rfl ?_
      refine idle_lp (L := L) (d := d) hx hc h0 h8 hA hb hm hQ1 hQ0 g (k + 1) (by omega) (fun a ha => ?_)
      by_cases e : a = k
      · rw [e]
        exact z
      · exact w a (by omega)
    refine Ev.blk 4 (B109_2 _ _ _ _ _ _ _ hc ⟨by omega, by omega⟩ (by rw [h0]; exact ⟨by omega, by omega⟩)) rfl ?_
    rw [h0]
    refine Ev.ite (fun z => absurd (of_decide_eq_true z) (by omega)) (fun _ => ?_)
    refine Ev.blk 5 (B109_10 _ _ _ _ _ _ _ hx ⟨by omega, by omega⟩ (by rw [eA]; exact ⟨by omega, by omega⟩)) rfl ?_
    rw [eA]
    refine Ev.ite (fun z => ?_) (fun z => ?_)
    · replace z := of_decide_eq_true z
      exact nxt (fun y => y.1 z)
    · replace z := of_decide_eq_false z
      refine Ev.blk 6 (B109_19 _ _ _ _ _ _ _ (oAnd_in _ _)) rfl ?_
      refine Ev.ite (fun y => ?_) (fun y => ?_)
      · replace y := ht.mp (nd_t y)
        exact nxt (fun q => q.2 y)
      · replace y := nd_f y
        refine Ev.blk 1 (B109_27 _ _ _ _ _ _ _) rfl ?_
        exact Ev.ret rfl rfl rfl rfl (hQ1 ⟨k, by omega, z, fun q => ht.mpr q y⟩)
theorem x_isIdle {L d : Nat} {V : Mv} {b : Bool} {x c n : Nat} {mo : Int} {G : Nat → Nat → Int} {mw act : Nat → Int} (hx : isB x) (hc : isK c) (h0 : V c 0 = (n : Int)) (h8 : n ≤ 8) (hA : ∀ a, a < n → V (x + 3) a = act a) (hb : ∀ a, a < n → 0 ≤ act a ∧ act a ≤ 4) (hm : setb mo (mrB (qA G act mw) n)) : Ex L d 109 [.inr (.inr x), .inr (.inr c), .inl mo] V b (fun v W b' => b' = b ∧ W = V ∧ ((idl n G mw act ∧ v = some (.inl 1)) ∨ (¬ idl n G mw act ∧ v = some (.inl 0)))) := by
  refine Ev.blk 2 (B109_0 _ _ _ _ _ _) rfl ?_
  exact idle_lp hx hc h0 h8 hA hb hm (fun z => ⟨rfl, rfl, Or.inl ⟨z, rfl⟩⟩) (fun z => ⟨rfl, rfl, Or.inr ⟨z, rfl⟩⟩) n 0 (by omega) (fun a ha => absurd ha (by omega))
