/-! dividing that comes out even, in the class, 1 (specs60.py) -/
def gvl (a : Nat → Nat → Int) (s t i j : Nat) : Int := if j = s then - bm a t s i else bm a t j i
theorem gvl_s (a : Nat → Nat → Int) (s t i : Nat) : gvl a s t i s = - bm a t s i := if_pos rfl
theorem gvl_n {a : Nat → Nat → Int} {s t i j : Nat} (h : j ≠ s) : gvl a s t i j = bm a t j i := if_neg h
theorem gvl_step {a : Nat → Nat → Int} {t : Nat} (hR : bR a t) (s i j : Nat) : gvl a s t i j * bm a t t t - bm a t t i * gvl a s t t j = bd a t * gvl a s (t + 1) i j := by
  have h := hR j i
  by_cases q : j = s
  · subst q
    rw [gvl_s, gvl_s, gvl_s]
    grind
  · rw [gvl_n q, gvl_n q, gvl_n q]
    grind
theorem gvl_b {a : Nat → Nat → Int} {k s t i j : Nat} (h : LJ a k 0) (hk : k ≤ 8) (ht : t < k) (hi : i < k) (h1 : t ≤ j) (h2 : j < k) : -100000000 ≤ gvl a s t i j ∧ gvl a s t i j ≤ 100000000 := by
  have b := h.bnd ht h1 h2 hi
  have tb := ten_b (t := t) (by omega)
  by_cases q : j = s
  · subst q
    rw [gvl_s]
    omega
  · rw [gvl_n q]
    omega
theorem mulS {d x D B : Int} (hd : 0 ≤ d ∧ d ≤ D) (hx : -B ≤ x ∧ x ≤ B) (hB : 0 ≤ B) : -(D * B) ≤ d * x ∧ d * x ≤ D * B := by
  have h1 := Int.mul_le_mul_of_nonneg_left hx.2 hd.1
  have h2 := Int.mul_le_mul_of_nonneg_left hx.1 hd.1
  have h3 := Int.mul_le_mul_of_nonneg_right hd.2 hB
  rw [Int.mul_neg] at h2
  omega
theorem bdb {a : Nat → Nat → Int} {k t : Nat} (h : LJ a k 0) (hk : k ≤ 8) (ht : t < k) : 0 < bd a t ∧ bd a t ≤ 10000000 := by
  have h1 := h.pos ht
  have h2 := h.bd10 t ht
  have tb := ten_b (t := t) (by omega)
  omega
theorem cr_lp {L d : Nat} {V : Mv} {b : Bool} {Q : Option AV → Mv → Bool → Prop} {a : Nat → Nat → Int} {k t s row : Nat} (hl : LJ a k 0) (hk8 : k ≤ 8) (hs : s + 1 = k) (ht : t < row) (hrow : row < s) (hV1 : ∀ j, t ≤ j → j ≤ s → V 105 (8 * row + j) = gvl a s t row j) (hV2 : ∀ j, t ≤ j → j ≤ s → V 105 (8 * t + j) = gvl a s t t j) (hQ : ∀ W, (∀ y, y ≠ 105 → W y = V y) → (∀ j, t < j → j ≤ s → W 105 (8 * row + j) = gvl a s (t + 1) row j) → (∀ z, ¬ (8 * row + t < z ∧ z ≤ 8 * row + s) → W 105 z = V 105 z) → Q none W b) : ∀ (m x : Nat) (W : Mv), x + m = s + 1 → t < x → (∀ y, y ≠ 105 → W y = V y) → (∀ j, t < j → j < x → W 105 (8 * row + j) = gvl a s (t + 1) row j) → (∀ z, ¬ (8 * row + t < z ∧ z < 8 * row + x) → W 105 z = V 105 z) → Ev L d 103 31 [some (.inr (.inr 100)), some (.inl (row : Int)), some (.inl (t : Int)), some (.inl (s : Int)), some (.inr (.inl (bd a t))), none, some (.inr (.inl (bm a t t t))), none, some (.inr (.inl (bm a t t row))), none, some (.inl (x : Int)), none, none] [] W b Q
  | 0, x, W, h, hx, w1, w2, w3 => by
    obtain rfl : x = s + 1 := by omega
    refine Ev.blk 3 (B103_31 _ _ _ _ _ _ _ _ _ _ ⟨by omega, by omega⟩ ⟨by omega, by omega⟩) rfl ?_
    refine Ev.ite (fun _ => ?_) (fun z => absurd (of_decide_eq_false z) (by omega))
    exact Ev.ret rfl rfl rfl rfl (hQ W w1 (fun j h1 h2 => w2 j h1 (by omega)) (fun z hz => w3 z (by omega)))
  | m + 1, x, W, h, hx, w1, w2, w3 => by
    have hb := bdb (t := t) hl hk8 (by omega)
    have e1 : W 105 ((row : Int) * 8 + (x : Int)).toNat = gvl a s t row x := by
      rw [show ((row : Int) * 8 + (x : Int)).toNat = 8 * row + x by omega, w3 _ (by omega)]
      exact hV1 x (by omega) (by omega)
    have e2 : W 105 ((t : Int) * 8 + (x : Int)).toNat = gvl a s t t x := by
      rw [show ((t : Int) * 8 + (x : Int)).toNat = 8 * t + x by omega, w3 _ (by omega)]
      exact hV2 x (by omega) (by omega)
    have st := gvl_step (hl.RR (t := t) (by omega)) s row x
    have gb := gvl_b (s := s) (t := t + 1) (i := row) (j := x) hl hk8 (by omega) (by omega) (by omega) (by omega)
    have mb := mulS (d := bd a t) (D := 10000000) (B := 100000000) (x := gvl a s (t + 1) row x) ⟨by omega, hb.2⟩ gb (by decide)
    refine Ev.blk 3 (B103_31 _ _ _ _ _ _ _ _ _ _ ⟨by omega, by omega⟩ ⟨by omega, by omega⟩) rfl ?_
    refine Ev.ite (fun z => absurd (of_decide_eq_true z) (by omega)) (fun _ => ?_)
    refine Ev.blk 4 (B103_37 _ _ _ _ _ _ _ _ _ _ ⟨by omega, by omega⟩ (cmpI_in _ _)) rfl ?_
    refine Ev.ite (fun z => absurd ((cmpI_eq _ _).mp (of_decide_eq_true z)) (by omega)) (fun _ => ?_)
    refine Ev.blk 35 (B103_44 _ _ _ _ _ _ _ _ _ _ ⟨by omega, by omega⟩ ⟨by omega, by omega⟩ (by rw [e1, e2, st]; exact ⟨by omega, by omega⟩) ⟨by omega, by omega⟩ (by omega)) rfl ?_
    rw [e1, e2, st, Int.mul_tdiv_cancel_left _ (show bd a t ≠ 0 by omega), show ((row : Int) * 8 + (x : Int)).toNat = 8 * row + x by omega]
    refine Ev.kill [false, false, false, false, false, false, false, false, false, false, false, true] ?_
    dsimp only [mkl]
    refine cr_lp (L := L) (d := d) hl hk8 hs ht hrow hV1 hV2 hQ m (x + 1) _ (by omega) (by omega) (fun y hy => by rw [uV_ne hy]; exact w1 y hy) (fun j h1 h2 => ?_) (fun z hz => ?_)
    · rw [uV_at]
      by_cases q : j = x
      · rw [if_pos (by omega), q]
      · rw [if_neg (by omega)]
        exact w2 j h1 (by omega)
    · rw [uV_at, if_neg (by omega)]
      exact w3 z (by omega)
theorem x_clearRow {L d : Nat} {V : Mv} {b : Bool} {a : Nat → Nat → Int} {k t s row : Nat} (hl : LJ a k 0) (hk8 : k ≤ 8) (hs : s + 1 = k) (ht : t < row) (hrow : row < s) (hV1 : ∀ j, t ≤ j → j ≤ s → V 105 (8 * row + j) = gvl a s t row j) (hV2 : ∀ j, t ≤ j → j ≤ s → V 105 (8 * t + j) = gvl a s t t j) : Ex L d 103 [.inr (.inr 100), .inl (row : Int), .inl (t : Int), .inl (s : Int), .inr (.inl (bd a t))] V b (fun v W b' => v = none ∧ b' = b ∧ (∀ y, y ≠ 105 → W y = V y) ∧ (∀ j, t < j → j ≤ s → W 105 (8 * row + j) = gvl a s (t + 1) row j) ∧ (∀ z, ¬ (8 * row + t < z ∧ z ≤ 8 * row + s) → W 105 z = V 105 z)) := by
  have e1 : V 105 ((t : Int) * 8 + (t : Int)).toNat = bm a t t t := by
    rw [show ((t : Int) * 8 + (t : Int)).toNat = 8 * t + t by omega, hV2 t (by omega) (by omega), gvl_n (by omega)]
  have e2 : V 105 ((row : Int) * 8 + (t : Int)).toNat = bm a t t row := by
    rw [show ((row : Int) * 8 + (t : Int)).toNat = 8 * row + t by omega, hV1 t (by omega) (by omega), gvl_n (by omega)]
  refine Ev.blk 22 (B103_0 _ _ _ _ _ _ _ ⟨by omega, by omega⟩ ⟨by omega, by omega⟩) rfl ?_
  rw [e1, e2]
  exact cr_lp hl hk8 hs ht hrow hV1 hV2 (fun W w1 w2 w3 => ⟨rfl, rfl, w1, w2, w3⟩) (s - t) (t + 1) V (by omega) (by omega) (fun _ _ => rfl) (fun j h1 h2 => absurd h1 (by omega)) (fun _ _ => rfl)
theorem gvl_0 (q : Nat → Nat → Int) (mem : Nat → Nat) {s i : Nat} (hi : i < s) (j : Nat) : gvl (lam q mem) s 0 i j = if j = s then q (mem j) (mem i) else (if j = i then 10 else 0) - q (mem j) (mem i) := by
  by_cases h : j = s
  · subst h
    rw [gvl_s, bm_0, if_pos rfl]
    show - ((if j = i then 10 else 0) - q (mem j) (mem i)) = _
    rw [if_neg (by omega)]
    omega
  · rw [gvl_n h, bm_0, if_neg h]
    rfl
theorem fg2_lp {L d : Nat} {V : Mv} {b : Bool} {Q : Option AV → Mv → Bool → Prop} {c n s : Nat} {G q : Nat → Nat → Int} {mem st : Nat → Nat} (hc : isK c) (h8 : n ≤ 8) (hk8 : s < 8) (hG : ∀ i j, i < 8 → j < 8 → V (c + 1) (8 * i + j) = G i j) (hst : ∀ a, a < n → st a < n) (hmem : ∀ i, i ≤ s → mem i < n) (hV1 : ∀ a, a < n → V 101 a = (st a : Int)) (hV4 : ∀ i, i ≤ s → V 104 i = (mem i : Int)) (hq : ∀ x y, x < n → y < n → q x y = G (st x) y) (hqb : ∀ x y, x < n → y < n → 0 ≤ q x y ∧ q x y ≤ 10) {row : Nat} (hrow : row < s) (hQ : ∀ W, (∀ y, y ≠ 105 → W y = V y) → (∀ i j, i ≤ row → j ≤ s → W 105 (8 * i + j) = gvl (lam q mem) s 0 i j) → Ev L d 102 2 [some (.inr (.inr 100)), some (.inr (.inr c)), some (.inl (s : Int)), some (.inl ((row + 1 : Nat) : Int)), none, none] [] W b Q) : ∀ (m x : Nat) (W : Mv), x + m = s + 1 → (∀ y, y ≠ 105 → W y = V y) → (∀ i j, i < row → j ≤ s → W 105 (8 * i + j) = gvl (lam q mem) s 0 i j) → (∀ j, j < x → W 105 (8 * row + j) = gvl (lam q mem) s 0 row j) → Ev L d 102 10 [some (.inr (.inr 100)), some (.inr (.inr c)), some (.inl (s : Int)), some (.inl (row : Int)), some (.inl (x : Int)), none] [] W b Q
  | 0, x, W, h, w1, w2, w3 => by
    obtain rfl : x = s + 1 := by omega
    refine Ev.blk 3 (B102_10 _ _ _ _ _ _ _ ⟨by omega, by omega⟩ ⟨by omega, by omega⟩) rfl ?_
    refine Ev.ite (fun _ => ?_) (fun z => absurd (of_decide_eq_false z) (by omega))
    refine Ev.blk 2 (B102_91 _ _ _ _ _ _ _) rfl ?_
    refine Ev.kill [false, false, false, false, true] ?_
    dsimp only [mkl]
    refine hQ W w1 (fun i j h1 h2 => ?_)
    by_cases e : i = row
    · rw [e]
      exact w3 j (by omega)
    · exact w2 i j (by omega) h2
  | m + 1, x, W, h, w1, w2, w3 => by
    have c44 := isK_ne hc
    have hx := hmem x (by omega)
    have hr := hmem row (by omega)
    have hsx := hst _ hx
    have m1 : W 104 ((x : Int)).toNat = (mem x : Int) := by rw [Int.toNat_natCast, w1 104 (by omega)]; exact hV4 x (by omega)
    have m2 : W 104 ((row : Int)).toNat = (mem row : Int) := by rw [Int.toNat_natCast, w1 104 (by omega)]; exact hV4 row (by omega)
    have m3 : W 101 (mem x) = (st (mem x) : Int) := by rw [w1 101 (by omega)]; exact hV1 _ hx
    have m4 : W (c + 1) ((st (mem x) : Int) * 8 + (mem row : Int)).toNat = q (mem x) (mem row) := by
      rw [show ((st (mem x) : Int) * 8 + (mem row : Int)).toNat = 8 * st (mem x) + mem row by omega, w1 (c + 1) (by omega), hG (st (mem x)) (mem row) (by omega) (by omega)]
      exact (hq _ _ hx hr).symm
    have qb := hqb (mem x) (mem row) hx hr
    have g0 := gvl_0 q mem hrow x
    have nxt : Ev L d 102 10 [some (.inr (.inr 100)), some (.inr (.inr c)), some (.inl (s : Int)), some (.inl (row : Int)), some (.inl ((x + 1 : Nat) : Int)), none] [] (uV W 105 (8 * row + x) (gvl (lam q mem) s 0 row x)) b Q := by
      refine fg2_lp (L := L) (d := d) hc h8 hk8 hG hst hmem hV1 hV4 hq hqb hrow hQ m (x + 1) _ (by omega) (fun y hy => by rw [uV_ne hy]; exact w1 y hy) (fun i j h1 h2 => ?_) (fun j hj => ?_)
      · rw [uV_at, if_neg (by omega)]
        exact w2 i j h1 h2
      · rw [uV_at]
        by_cases e : j = x
        · rw [if_pos (by omega), e]
        · rw [if_neg (by omega)]
          exact w3 j (by omega)
    refine Ev.blk 3 (B102_10 _ _ _ _ _ _ _ ⟨by omega, by omega⟩ ⟨by omega, by omega⟩) rfl ?_
    refine Ev.ite (fun z => absurd (of_decide_eq_true z) (by omega)) (fun _ => ?_)
    refine Ev.blk 28 (B102_16 _ _ _ _ _ _ _ hc ⟨by omega, by omega⟩ (by rw [m1]; omega) ⟨by omega, by omega⟩ (by rw [m1, m2, Int.toNat_natCast, m3]; omega) ⟨by omega, by omega⟩ ⟨by omega, by omega⟩) rfl ?_
    rw [m1, m2, Int.toNat_natCast, m3, m4]
    refine Ev.ite (fun z => ?_) (fun z => ?_)
    · have z : x ≠ s := fun e => by subst e; exact absurd (nd_t z) (fun y => y rfl)
      rw [if_neg z] at g0
      refine Ev.blk 3 (J102_68 _ _ _ _ _ _ _ _ _ _ _ rfl ⟨by omega, by omega⟩ ⟨by omega, by omega⟩) rfl ?_
      refine Ev.ite (fun y => ?_) (fun y => ?_)
      · have y : x ≠ row := fun e => by subst e; exact absurd (nd_t y) (fun y => y rfl)
        rw [if_neg y] at g0
        refine Ev.blk 1 (J102_79 _ _ _ _ _ _ _ _ _ _ _ rfl) rfl ?_
        refine Ev.blk 3 (J102_80 _ _ _ _ _ _ _ _ _ _ _ _ rfl ⟨by omega, by omega⟩) rfl ?_
        refine Ev.blk 3 (J102_84 _ _ _ _ _ _ _ _ _ _ _ _ rfl ⟨by omega, by omega⟩ (by decide)) rfl ?_
        rw [show ((row : Int) * 8 + (x : Int)).toNat = 8 * row + x by omega, ← g0]
        refine Ev.kill [false, false, false, false, false, true] ?_
        dsimp only [mkl]
        exact nxt
      · have y : x = row := by
          have := nd_f y
          omega
        rw [if_pos y] at g0
        refine Ev.blk 2 (J102_74 _ _ _ _ _ _ _ _ _ _ _ rfl) rfl ?_
        refine Ev.blk 3 (J102_80 _ _ _ _ _ _ _ _ _ _ _ _ rfl ⟨by omega, by omega⟩) rfl ?_
        refine Ev.blk 3 (J102_84 _ _ _ _ _ _ _ _ _ _ _ _ rfl ⟨by omega, by omega⟩ (by decide)) rfl ?_
        rw [show ((row : Int) * 8 + (x : Int)).toNat = 8 * row + x by omega, ← g0]
        refine Ev.kill [false, false, false, false, false, true] ?_
        dsimp only [mkl]
        exact nxt
    · have z : x = s := by
        have := nd_f z
        omega
      rw [if_pos z] at g0
      refine Ev.blk 3 (J102_62 _ _ _ _ _ _ _ _ _ _ _ rfl ⟨by omega, by omega⟩) rfl ?_
      refine Ev.blk 3 (J102_84 _ _ _ _ _ _ _ _ _ _ _ _ rfl ⟨by omega, by omega⟩ (by decide)) rfl ?_
      rw [show ((row : Int) * 8 + (x : Int)).toNat = 8 * row + x by omega, ← g0]
      refine Ev.kill [false, false, false, false, false, true] ?_
      dsimp only [mkl]
      exact nxt
theorem fg1_lp {L d : Nat} {V : Mv} {b : Bool} {Q : Option AV → Mv → Bool → Prop} {c n s : Nat} {G q : Nat → Nat → Int} {mem st : Nat → Nat} (hc : isK c) (h8 : n ≤ 8) (hk8 : s < 8) (hG : ∀ i j, i < 8 → j < 8 → V (c + 1) (8 * i + j) = G i j) (hst : ∀ a, a < n → st a < n) (hmem : ∀ i, i ≤ s → mem i < n) (hV1 : ∀ a, a < n → V 101 a = (st a : Int)) (hV4 : ∀ i, i ≤ s → V 104 i = (mem i : Int)) (hq : ∀ x y, x < n → y < n → q x y = G (st x) y) (hqb : ∀ x y, x < n → y < n → 0 ≤ q x y ∧ q x y ≤ 10) (hQ : ∀ W, (∀ y, y ≠ 105 → W y = V y) → (∀ i j, i < s → j ≤ s → W 105 (8 * i + j) = gvl (lam q mem) s 0 i j) → Q none W b) : ∀ (m row : Nat) (W : Mv), row + m = s → (∀ y, y ≠ 105 → W y = V y) → (∀ i j, i < row → j ≤ s → W 105 (8 * i + j) = gvl (lam q mem) s 0 i j) → Ev L d 102 2 [some (.inr (.inr 100)), some (.inr (.inr c)), some (.inl (s : Int)), some (.inl (row : Int)), none, none] [] W b Q
  | 0, row, W, h, w1, w2 => by
    obtain rfl : row = s := by omega
    refine Ev.blk 3 (B102_2 _ _ _ _ _ _ ⟨by omega, by omega⟩ ⟨by omega, by omega⟩) rfl ?_
    refine Ev.ite (fun _ => ?_) (fun z => absurd (of_decide_eq_false z) (by omega))
    exact Ev.ret rfl rfl rfl rfl (hQ W w1 w2)
  | m + 1, row, W, h, w1, w2 => by
    refine Ev.blk 3 (B102_2 _ _ _ _ _ _ ⟨by omega, by omega⟩ ⟨by omega, by omega⟩) rfl ?_
    refine Ev.ite (fun z => absurd (of_decide_eq_true z) (by omega)) (fun _ => ?_)
    refine Ev.blk 2 (B102_7 _ _ _ _ _ _) rfl ?_
    exact fg2_lp (L := L) (d := d) hc h8 hk8 hG hst hmem hV1 hV4 hq hqb (by omega) (fun W2 v1 v2 => fg1_lp (L := L) (d := d) hc h8 hk8 hG hst hmem hV1 hV4 hq hqb hQ m (row + 1) W2 (by omega) v1 (fun i j h1 h2 => v2 i j (by omega) h2)) (s + 1) 0 W (by omega) w1 w2 (fun j hj => absurd hj (by omega))
theorem x_fillGrid {L d : Nat} {V : Mv} {b : Bool} {c n s : Nat} {G q : Nat → Nat → Int} {mem st : Nat → Nat} (hc : isK c) (h8 : n ≤ 8) (hk8 : s < 8) (hG : ∀ i j, i < 8 → j < 8 → V (c + 1) (8 * i + j) = G i j) (hst : ∀ a, a < n → st a < n) (hmem : ∀ i, i ≤ s → mem i < n) (hV1 : ∀ a, a < n → V 101 a = (st a : Int)) (hV4 : ∀ i, i ≤ s → V 104 i = (mem i : Int)) (hq : ∀ x y, x < n → y < n → q x y = G (st x) y) (hqb : ∀ x y, x < n → y < n → 0 ≤ q x y ∧ q x y ≤ 10) : Ex L d 102 [.inr (.inr 100), .inr (.inr c), .inl (s : Int)] V b (fun v W b' => v = none ∧ b' = b ∧ (∀ y, y ≠ 105 → W y = V y) ∧ ∀ i j, i < s → j ≤ s → W 105 (8 * i + j) = gvl (lam q mem) s 0 i j) := by
  refine Ev.blk 2 (B102_0 _ _ _ _ _) rfl ?_
  exact fg1_lp hc h8 hk8 hG hst hmem hV1 hV4 hq hqb (fun W w1 w2 => ⟨rfl, rfl, w1, w2⟩) s 0 V (by omega) (fun _ _ => rfl) (fun i j h1 => absurd h1 (by omega))
