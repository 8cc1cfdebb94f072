/-! dividing that comes out even, in the class, 2 (specs61.py) -/
theorem xs_b {a : Nat → Nat → Int} {k : Nat} (h : IRR a k) (hk : k ≤ 8) {i : Nat} (hi : i < k) : 0 < xs a k i ∧ xs a k i ≤ 10000000 := by
  have e := share_eq h i hi
  refine ⟨e.2, ?_⟩
  rw [e.1]
  exact (bdb (msw_irr h (i := i) (k - 1 - i) (by omega)).lj hk (by omega)).2
theorem xs_l {a : Nat → Nat → Int} {s : Nat} (h : IRR a (s + 1)) : xs a (s + 1) s = bd a s := by
  have e := (share_eq h s (by omega)).1
  rw [show s + 1 - 1 - s = 0 by omega] at e
  exact e
def fsA (a : Nat → Nat → Int) (s t : Nat) (W : Mv) : Prop := (∀ i j, i < t → i < s → i ≤ j → j ≤ s → W 105 (8 * i + j) = gvl a s i i j) ∧ (∀ i j, t ≤ i → i < s → t ≤ j → j ≤ s → W 105 (8 * i + j) = gvl a s t i j)
theorem fs2_lp {L d : Nat} {V : Mv} {b : Bool} {Q : Option AV → Mv → Bool → Prop} {a : Nat → Nat → Int} {s t c : Nat} (hl : LJ a (s + 1) 0) (hk8 : s < 8) (ht : t < s) (hV : fsA a s t V) (hQ : ∀ W, (∀ y, y ≠ 105 → W y = V y) → fsA a s (t + 1) W → Ev L (d + 1) 101 76 [some (.inr (.inr 100)), some (.inr (.inr c)), some (.inl (s : Int)), some (.inr (.inl (bd a t))), none, some (.inl (t : Int)), some (.inr (.inl (bm a t t t))), none, some (.inl (s : Int))] [] W b Q) : ∀ (m x : Nat) (W : Mv), x + m = s → t < x → (∀ y, y ≠ 105 → W y = V y) → (∀ i j, i ≤ t → i ≤ j → j ≤ s → W 105 (8 * i + j) = gvl a s i i j) → (∀ i j, t < i → i < x → t < j → j ≤ s → W 105 (8 * i + j) = gvl a s (t + 1) i j) → (∀ i j, x ≤ i → i < s → t ≤ j → j ≤ s → W 105 (8 * i + j) = gvl a s t i j) → Ev L (d + 1) 101 54 [some (.inr (.inr 100)), some (.inr (.inr c)), some (.inl (s : Int)), some (.inr (.inl (bd a t))), none, some (.inl (t : Int)), some (.inr (.inl (bm a t t t))), none, some (.inl (x : Int))] [] W b Q
  | 0, x, W, h, hx, w1, w2, w3, w4 => by
    obtain rfl : x = s := by omega
    refine Ev.blk 3 (B101_54 _ _ _ _ _ _ _ _ _ ⟨by omega, by omega⟩ ⟨by omega, by omega⟩) rfl ?_
    refine Ev.ite (fun _ => ?_) (fun z => absurd (of_decide_eq_false z) (by omega))
    exact hQ W w1 ⟨fun i j h1 h2 h3 h4 => w2 i j (by omega) h3 h4, fun i j h1 h2 h3 h4 => w3 i j (by omega) (by omega) (by omega) h4⟩
  | m + 1, x, W, h, hx, w1, w2, w3, w4 => by
    refine Ev.blk 3 (B101_54 _ _ _ _ _ _ _ _ _ ⟨by omega, by omega⟩ ⟨by omega, by omega⟩) rfl ?_
    refine Ev.ite (fun z => absurd (of_decide_eq_true z) (by omega)) (fun _ => ?_)
    refine Ev.blk 5 (B101_60 _ _ _ _ _ _ _ _ _) rfl ?_
    refine Ev.call rfl rfl rfl (x_clearRow (d := d) hl (by omega) rfl hx (by omega) (fun j h1 h2 => w4 x j (by omega) (by omega) h1 h2) (fun j h1 h2 => w2 t j (by omega) h1 h2)) (by omega) ?_
    rintro v W2 b2 ⟨rfl, rfl, v1, v2, v3⟩
    refine Ev.blk 2 (B101_70 _ _ _ _ _ _ _ _ _) rfl ?_
    refine fs2_lp (L := L) (d := d) hl hk8 ht hV hQ m (x + 1) W2 (by omega) (by omega) (fun y hy => by rw [v1 y hy]; exact w1 y hy) (fun i j h1 h2 h3 => ?_) (fun i j h1 h2 h3 h4 => ?_) (fun i j h1 h2 h3 h4 => ?_)
    · rw [v3 _ (by omega)]
      exact w2 i j h1 h2 h3
    · by_cases e : i = x
      · rw [e]
        exact v2 j h3 h4
      · rw [v3 _ (by omega)]
        exact w3 i j h1 (by omega) h3 h4
    · rw [v3 _ (by omega)]
      exact w4 i j (by omega) h2 h3 h4
theorem fs1_lp {L d : Nat} {V : Mv} {b : Bool} {Q : Option AV → Mv → Bool → Prop} {a : Nat → Nat → Int} {s c : Nat} (hl : LJ a (s + 1) 0) (hk8 : s < 8) (hQ : ∀ W, (∀ y, y ≠ 105 → W y = V y) → fsA a s s W → Ev L (d + 1) 101 85 [some (.inr (.inr 100)), some (.inr (.inr c)), some (.inl (s : Int)), some (.inr (.inl (bd a s))), none, some (.inl (s : Int)), none, none, none] [] W b Q) : ∀ (m t : Nat) (W : Mv), t + m = s → (∀ y, y ≠ 105 → W y = V y) → fsA a s t W → Ev L (d + 1) 101 18 [some (.inr (.inr 100)), some (.inr (.inr c)), some (.inl (s : Int)), some (.inr (.inl (bd a t))), none, some (.inl (t : Int)), none, none, none] [] W b Q
  | 0, t, W, h, w1, w2 => by
    obtain rfl : t = s := by omega
    refine Ev.blk 3 (B101_18 _ _ _ _ _ _ _ ⟨by omega, by omega⟩ ⟨by omega, by omega⟩) rfl ?_
    refine Ev.ite (fun _ => ?_) (fun z => absurd (of_decide_eq_false z) (by omega))
    exact hQ W w1 w2
  | m + 1, t, W, h, w1, w2 => by
    have pv := bdb (t := t + 1) hl (by omega) (by omega)
    rw [bd_s] at pv
    have e1 : W 105 ((t : Int) * 8 + (t : Int)).toNat = bm a t t t := by
      rw [show ((t : Int) * 8 + (t : Int)).toNat = 8 * t + t by omega, w2.2 t t (by omega) (by omega) (by omega) (by omega), gvl_n (by omega)]
    refine Ev.blk 3 (B101_18 _ _ _ _ _ _ _ ⟨by omega, by omega⟩ ⟨by omega, by omega⟩) rfl ?_
    refine Ev.ite (fun z => absurd (of_decide_eq_true z) (by omega)) (fun _ => ?_)
    refine Ev.blk 13 (B101_24 _ _ _ _ _ _ _ ⟨by omega, by omega⟩ (by rw [e1]; exact ⟨by omega, by omega⟩) (cmpI_in _ _)) rfl ?_
    rw [e1]
    refine Ev.ite (fun _ => ?_) (fun z => absurd ((cmpI_eq _ _).mp (nd_f z)) (by omega))
    refine Ev.blk 4 (B101_48 _ _ _ _ _ _ _ _) rfl ?_
    refine fs2_lp (V := W) (t := t) hl hk8 (by omega) w2 (fun W2 v1 v2 => ?_) (s - t - 1) (t + 1) W (by omega) (by omega) (fun _ _ => rfl) (fun i j h1 h2 h3 => ?_) (fun i j h1 h2 => absurd h1 (by omega)) (fun i j h1 h2 h3 h4 => w2.2 i j (by omega) h2 h3 h4)
    · refine Ev.blk 4 (B101_76 _ _ _ _ _ _ _ _ _) rfl ?_
      refine Ev.kill [false, false, false, false, false, false, true, false, true] ?_
      dsimp only [mkl]
      rw [← bd_s]
      exact fs1_lp (L := L) (d := d) hl hk8 hQ m (t + 1) W2 (by omega) (fun y hy => by rw [v1 y hy]; exact w1 y hy) v2
    · by_cases e : i = t
      · rw [e] at h2 ⊢
        exact w2.2 t j (by omega) (by omega) h2 h3
      · exact w2.1 i j (by omega) (by omega) h2 h3
def fsF (a : Nat → Nat → Int) (k i l : Nat) : Int := xs a k l * bm a i l i
theorem fsF_1 (a : Nat → Nat → Int) (k i : Nat) : sumN (fsF a k i) (i + 1) = fsF a k i i := by
  show sumN (fsF a k i) i + fsF a k i i = _
  rw [sumN_00 _ i (fun l hl => by show xs a k l * bm a i l i = 0; rw [bm_2 i hl, Int.mul_zero])]
  omega
theorem fs4_lp {L d : Nat} {W : Mv} {b : Bool} {Q : Option AV → Mv → Bool → Prop} {a : Nat → Nat → Int} {s c i : Nat} (hk8 : s < 8) (hi : i < s) (hA : fsA a s s W) (hX : ∀ j, i < j → j ≤ s → W 106 j = xs a (s + 1) j) (hQ : Ev L d 101 162 [some (.inr (.inr 100)), some (.inr (.inr c)), some (.inl (s : Int)), some (.inr (.inl (bd a s))), none, some (.inl (i : Int)), some (.inr (.inl (fsF a (s + 1) i i - fsF a (s + 1) i s - sumN (fsF a (s + 1) i) s))), none, some (.inl (s : Int))] [] W b Q) : ∀ (m x : Nat), x + m = s → i < x → Ev L d 101 124 [some (.inr (.inr 100)), some (.inr (.inr c)), some (.inl (s : Int)), some (.inr (.inl (bd a s))), none, some (.inl (i : Int)), some (.inr (.inl (fsF a (s + 1) i i - fsF a (s + 1) i s - sumN (fsF a (s + 1) i) x))), none, some (.inl (x : Int))] [] W b Q
  | 0, x, h, hx => by
    obtain rfl : x = s := by omega
    refine Ev.blk 3 (B101_124 _ _ _ _ _ _ _ _ _ ⟨by omega, by omega⟩ ⟨by omega, by omega⟩) rfl ?_
    refine Ev.ite (fun _ => ?_) (fun z => absurd (of_decide_eq_false z) (by omega))
    exact hQ
  | m + 1, x, h, hx => by
    have e1 : W 105 ((i : Int) * 8 + (x : Int)).toNat = bm a i x i := by
      rw [show ((i : Int) * 8 + (x : Int)).toNat = 8 * i + x by omega, hA.1 i x (by omega) (by omega) (by omega) (by omega), gvl_n (by omega)]
    have e2 : W 106 ((x : Int)).toNat = xs a (s + 1) x := by
      rw [Int.toNat_natCast]
      exact hX x hx (by omega)
    have ih := fs4_lp (L := L) (d := d) (c := c) hk8 hi hA hX hQ m (x + 1) (by omega) (by omega)
    refine Ev.blk 3 (B101_124 _ _ _ _ _ _ _ _ _ ⟨by omega, by omega⟩ ⟨by omega, by omega⟩) rfl ?_
    refine Ev.ite (fun z => absurd (of_decide_eq_true z) (by omega)) (fun _ => ?_)
    refine Ev.blk 18 (B101_130 _ _ _ _ _ _ _ _ _ ⟨by omega, by omega⟩ ⟨by omega, by omega⟩) rfl ?_
    rw [e1, e2]
    have e3 : fsF a (s + 1) i i - fsF a (s + 1) i s - sumN (fsF a (s + 1) i) x - bm a i x i * xs a (s + 1) x = fsF a (s + 1) i i - fsF a (s + 1) i s - sumN (fsF a (s + 1) i) (x + 1) := by
      show _ = fsF a (s + 1) i i - fsF a (s + 1) i s - (sumN (fsF a (s + 1) i) x + xs a (s + 1) x * bm a i x i)
      rw [Int.mul_comm (xs a (s + 1) x)]
      omega
    rw [e3]
    exact ih
theorem fs3_lp {L d : Nat} {V : Mv} {b : Bool} {Q : Option AV → Mv → Bool → Prop} {a : Nat → Nat → Int} {s c : Nat} (h : IRR a (s + 1)) (hk8 : s < 8) (hA : fsA a s s V) (hQ : ∀ W, (∀ y, y ≠ 106 → W y = V y) → (∀ j, j ≤ s → W 106 j = xs a (s + 1) j) → Q (some (.inl 1)) W b) : ∀ (n : Nat) (W : Mv), n ≤ s → (∀ y, y ≠ 106 → W y = V y) → (∀ j, n ≤ j → j ≤ s → W 106 j = xs a (s + 1) j) → Ev L d 101 97 [some (.inr (.inr 100)), some (.inr (.inr c)), some (.inl (s : Int)), some (.inr (.inl (bd a s))), none, some (.inl ((n : Int) - 1)), none, none, none] [] W b Q
  | 0, W, hn, w1, w2 => by
    refine Ev.blk 2 (B101_97 _ _ _ _ _ _ _ ⟨by omega, by omega⟩) rfl ?_
    refine Ev.ite (fun _ => ?_) (fun z => absurd (of_decide_eq_false z) (by omega))
    refine Ev.blk 1 (B101_191 _ _ _ _ _ _ _) rfl ?_
    exact Ev.ret rfl rfl rfl rfl (hQ W w1 (fun j hj => w2 j (by omega) hj))
  | i + 1, W, hn, w1, w2 => by
    have hl := h.lj
    have A2 : fsA a s s W := by
      unfold fsA
      rw [w1 105 (by omega)]
      exact hA
    have e1 : W 105 ((i : Int) * 8 + (s : Int)).toNat = - bm a i s i := by
      rw [show ((i : Int) * 8 + (s : Int)).toNat = 8 * i + s by omega, A2.1 i s (by omega) (by omega) (by omega) (by omega), gvl_s]
    have e2 : W 105 ((i : Int) * 8 + (i : Int)).toNat = bm a i i i := by
      rw [show ((i : Int) * 8 + (i : Int)).toNat = 8 * i + i by omega, A2.1 i i (by omega) (by omega) (by omega) (by omega), gvl_n (by omega)]
    have pv := bdb (t := i + 1) hl (by omega) (by omega)
    rw [bd_s] at pv
    have xb := xs_b h (by omega) (i := i) (by omega)
    have xl := xs_l h
    have an := ANN.bmm (xs_ann (a := a) (k := s + 1) (by omega) h.2.1) hl i (by omega) i (by omega)
    have an2 : sumN (fsF a (s + 1) i) s + fsF a (s + 1) i s = 0 := an
    have e3 : - bm a i s i * bd a s = fsF a (s + 1) i i - fsF a (s + 1) i s - sumN (fsF a (s + 1) i) (i + 1) := by
      rw [fsF_1]
      show _ = _ - xs a (s + 1) s * bm a i s i - _
      rw [xl, Int.neg_mul, Int.mul_comm (bd a s)]
      omega
    have e4 : fsF a (s + 1) i i - fsF a (s + 1) i s - sumN (fsF a (s + 1) i) s = xs a (s + 1) i * bm a i i i := by
      show xs a (s + 1) i * bm a i i i - _ - _ = _
      omega
    have mb := mulb (x := xs a (s + 1) i) (y := bm a i i i) (A := 10000000) (B := 10000000) ⟨by omega, xb.2⟩ ⟨by omega, pv.2⟩
    rw [show (((i + 1 : Nat) : Int) - 1) = (i : Int) by omega]
    refine Ev.blk 2 (B101_97 _ _ _ _ _ _ _ ⟨by omega, by omega⟩) rfl ?_
    refine Ev.ite (fun z => absurd (of_decide_eq_true z) (by omega)) (fun _ => ?_)
    refine Ev.blk 15 (B101_102 _ _ _ _ _ _ _ ⟨by omega, by omega⟩) rfl ?_
    rw [e1, e3]
    refine fs4_lp (W := W) hk8 (by omega) A2 (fun j h1 h2 => w2 j (by omega) h2) ?_ (s - i - 1) (i + 1) (by omega) (by omega)
    rw [e4]
    refine Ev.blk 16 (B101_162 _ _ _ _ _ _ _ _ _ ⟨by omega, by omega⟩ ⟨by omega, by omega⟩ (by rw [e2]; exact ⟨by omega, by omega⟩) (by rw [e2]; omega) ⟨by omega, by omega⟩) rfl ?_
    rw [e2, Int.mul_tdiv_cancel _ (show bm a i i i ≠ 0 by omega), Int.toNat_natCast]
    refine Ev.kill [false, false, false, false, false, false, true, false, true] ?_
    dsimp only [mkl]
    refine fs3_lp (L := L) (d := d) h hk8 hA hQ i _ (by omega) (fun y hy => by rw [uV_ne hy]; exact w1 y hy) (fun j h1 h2 => ?_)
    rw [uV_at]
    by_cases e : j = i
    · rw [if_pos e, e]
    · rw [if_neg e]
      exact w2 j (by omega) h2
theorem x_shares {L d : Nat} {V : Mv} {b : Bool} {c n s : Nat} {G q : Nat → Nat → Int} {mem st : Nat → Nat} (hc : isK c) (h8 : n ≤ 8) (hk8 : s < 8) (hG : ∀ i j, i < 8 → j < 8 → V (c + 1) (8 * i + j) = G i j) (hst : ∀ a, a < n → st a < n) (hmem : ∀ i, i ≤ s → mem i < n) (hV1 : ∀ a, a < n → V 101 a = (st a : Int)) (hV4 : ∀ i, i ≤ s → V 104 i = (mem i : Int)) (hq : ∀ x y, x < n → y < n → q x y = G (st x) y) (hqb : ∀ x y, x < n → y < n → 0 ≤ q x y ∧ q x y ≤ 10) (h : IRR (lam q mem) (s + 1)) (h6 : V 100 6 = (s : Int) + 1) : Ex L (d + 1) 101 [.inr (.inr 100), .inr (.inr c)] V b (fun v W b' => v = some (.inl 1) ∧ b' = b ∧ (∀ y, y ≠ 105 → y ≠ 106 → W y = V y) ∧ ∀ j, j ≤ s → W 106 j = xs (lam q mem) (s + 1) j) := by
  refine Ev.blk 8 (B101_0 _ _ _ _) rfl ?_
  rw [h6, show (s : Int) + 1 - 1 = (s : Int) by omega]
  refine Ev.call rfl rfl rfl (x_fillGrid (d := d) hc h8 hk8 hG hst hmem hV1 hV4 hq hqb) (by omega) ?_
  rintro v W b2 ⟨rfl, rfl, w1, w2⟩
  refine Ev.blk 4 (B101_13 _ _ _ _ _) rfl ?_
  refine fs1_lp (V := W) (a := lam q mem) h.lj hk8 (fun W2 v1 v2 => ?_) s 0 W (by omega) (fun _ _ => rfl) ⟨fun i j h1 => absurd h1 (by omega), fun i j _ h2 _ h4 => w2 i j h2 h4⟩
  refine Ev.blk 9 (B101_85 _ _ _ _ _ _ _ ⟨by omega, by omega⟩) rfl ?_
  rw [Int.toNat_natCast]
  refine fs3_lp (V := W2) h hk8 v2 (fun W3 u1 u2 => ⟨rfl, rfl, fun y h5 h6 => by rw [u1 y h6, v1 y h5, w1 y h5], u2⟩) s _ (by omega) (fun y hy => by rw [uV_ne hy]) (fun j h1 h2 => ?_)
  obtain rfl : j = s := by omega
  rw [uV_at, if_pos rfl, xs_l h]
