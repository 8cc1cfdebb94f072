/-! a square without one morning, and what it is worth, in the reference (specs65.py) -/
def rwx (w i : Nat) : Nat := if i ≤ w then i else i - 1
theorem rwx_s {w j : Nat} (h : j ≠ w) : rwx w (j + 1) = rwx w j + 1 := by
  unfold rwx
  by_cases q : j < w
  · rw [if_pos (by omega), if_pos (by omega)]
  · rw [if_neg (by omega), if_neg (by omega)]
    omega
theorem rwx_w (w : Nat) : rwx w (w + 1) = rwx w w := by
  unfold rwx
  rw [if_neg (by omega), if_pos (by omega)]
  omega
theorem rwx_l (w i : Nat) : rwx w i ≤ i := by
  unfold rwx
  split <;> omega
theorem rwx_e {w K : Nat} (h : w < K) : rwx w K = K - 1 := by
  unfold rwx
  rw [if_neg (by omega)]
theorem rwx_lt {w K i : Nat} (h : w < K) (hi : i < K) (hne : i ≠ w) : rwx w i < K - 1 := by
  unfold rwx
  split <;> omega
theorem skp_rwx {w i : Nat} (h : i ≠ w) : skp w (rwx w i) = i := by
  unfold rwx skp
  by_cases q : i ≤ w
  · rw [if_pos q, if_pos (by omega)]
  · rw [if_neg q, if_neg (by omega)]
    omega
theorem skp_ne (w i : Nat) : skp w i ≠ w := by
  unfold skp
  split <;> omega
theorem rwx_skp (w i : Nat) : rwx w (skp w i) = i := by
  unfold rwx skp
  by_cases q : i < w
  · rw [if_pos q, if_pos (by omega)]
  · rw [if_neg q, if_neg (by omega)]
    omega
def sqf (q : Nat → Nat → Int) (mem : Nat → Nat) (i j : Nat) : Int := if i = j then 0 else q (mem i) (mem j)
theorem sqf_sum {q : Nat → Nat → Int} {mem : Nat → Nat} {K i : Nat} (h : IRR (lam q mem) K) (hi : i < K) : sumN (sqf q mem i) K = lam q mem i i := by
  have e : ∀ j, j < K → sqf q mem i j = (if j = i then lam q mem i i else 0) - lam q mem i j := fun j _ => by
    unfold sqf
    by_cases p : i = j
    · subst p
      rw [if_pos rfl, if_pos rfl]
      omega
    · rw [if_neg p, if_neg (fun z => p z.symm)]
      show _ = 0 - ((if i = j then 10 else 0) - q (mem i) (mem j))
      rw [if_neg p]
      omega
  rw [sumN_congr K e, sumN_sub, sumN_one (fun j => if j = i then lam q mem i i else 0) hi (fun j _ hne => if_neg hne), if_pos rfl]
  have := h.2.1 i hi
  rw [show sumN (fun j => lam q mem i j) K = 0 from this]
  omega
theorem sq2_lp {L d : Nat} {V U : Mv} {b : Bool} {Q : Option AV → Mv → Bool → Prop} {m n r : Nat} {G : Nat → Nat → Int} {co mw mc act : Nat → Int} (hm3 : m < 3) (hr : r < 5) (hP : PR V m n G co mw mc) (hR : RB n G co mw mc act) (hA : ∀ a, a < 8 → V 135 (8 * r + a) = act a) (hm : hasM act mw n) {K w : Nat} {mem : Nat → Nat} (hK : K ≤ 8) (hw : w < K) (hmem : ∀ i, i < K → mem i < n) (h138 : ∀ i, i < K → V 138 i = (mem i : Int)) {i : Nat} (hi : i < K) (hiw : i ≠ w) (hQ : ∀ W, (∀ y, y ≠ 139 → W y = V y) → (∀ c, c < K - 1 → W 139 (8 * rwx w i + c) = - qA G act mw (mem i) (mem (skp w c))) → (∀ z, ¬ (8 * rwx w i ≤ z ∧ z < 8 * rwx w i + (K - 1)) → W 139 z = U 139 z) → Ev L (d + 2) 180 122 [some (.inr (.inr 120)), some (.inl (m : Int)), some (.inl (r : Int)), some (.inl (w : Int)), some (.inl (K : Int)), some (.inl (rwx w i : Int)), some (.inl (i : Int)), some (.inl (stA act mw (mem i) : Int)), some (.inl (rwx w K : Int)), some (.inl (sumN (sqf (qA G act mw) mem i) K)), some (.inl (K : Int)), none] [] W b Q) : ∀ (g j : Nat) (W : Mv), j + g = K → (∀ y, y ≠ 139 → W y = V y) → (∀ c, c < rwx w j → W 139 (8 * rwx w i + c) = - qA G act mw (mem i) (mem (skp w c))) → (∀ z, ¬ (8 * rwx w i ≤ z ∧ z < 8 * rwx w i + rwx w j) → W 139 z = U 139 z) → Ev L (d + 2) 180 49 [some (.inr (.inr 120)), some (.inl (m : Int)), some (.inl (r : Int)), some (.inl (w : Int)), some (.inl (K : Int)), some (.inl (rwx w i : Int)), some (.inl (i : Int)), some (.inl (stA act mw (mem i) : Int)), some (.inl (rwx w j : Int)), some (.inl (sumN (sqf (qA G act mw) mem i) j)), some (.inl (j : Int)), none] [] W b Q
  | 0, j, W, h, w1, w2, w3 => by
    obtain rfl : j = K := by omega
    have hre := rwx_e hw
    refine Ev.blk 3 (B180_49 _ _ _ _ _ _ _ _ _ _ _ _ _ ⟨by omega, by omega⟩ ⟨by omega, by omega⟩) rfl ?_
    refine Ev.ite (fun _ => ?_) (fun z => absurd (of_decide_eq_false z) (by omega))
    exact hQ W w1 (fun c hc => w2 c (by omega)) (fun z hz => w3 z (by omega))
  | g + 1, j, W, h, w1, w2, w3 => by
    have h8 := hR.1.2.1
    have hmi := hmem i hi
    have hmj := hmem j (by omega)
    have hsk := hR.st hm hmi
    have hPW : PR W m n G co mw mc := hP.frame (fun x h1 h2 => w1 x (by omega))
    have gb := hR.1.2.2.1 (stA act mw (mem i)) (mem j) (by omega) (by omega)
    have ri := rwx_lt hw hi hiw
    have rj := rwx_l w j
    have mj : W 138 ((j : Int)).toNat = (mem j : Int) := by rw [Int.toNat_natCast, w1 138 (by omega)]; exact h138 j (by omega)
    have f87 : ∀ z : Int, z = sqf (qA G act mw) mem i j → Ev L (d + 2) 180 87 [some (.inr (.inr 120)), some (.inl (m : Int)), some (.inl (r : Int)), some (.inl (w : Int)), some (.inl (K : Int)), some (.inl (rwx w i : Int)), some (.inl (i : Int)), some (.inl (stA act mw (mem i) : Int)), some (.inl (rwx w j : Int)), some (.inl (sumN (sqf (qA G act mw) mem i) j)), some (.inl (j : Int)), some (.inl (G (stA act mw (mem i)) (mem j)))] [.inl z, .inl (sumN (sqf (qA G act mw) mem i) j)] W b Q := fun z hz => by
      have e : sumN (sqf (qA G act mw) mem i) j + z = sumN (sqf (qA G act mw) mem i) (j + 1) := by rw [hz]; rfl
      refine Ev.blk 5 (B180_87 _ _ _ _ _ _ _ _ _ _ _ _ _ _ _ _ ⟨by omega, by omega⟩ ⟨by omega, by omega⟩) rfl ?_
      rw [e]
      refine Ev.ite (fun y => ?_) (fun y => ?_)
      · replace y := of_decide_eq_true y
        have y : j = w := by omega
        have e8 : rwx w (j + 1) = rwx w j := by rw [y]; exact rwx_w w
        refine Ev.blk 2 (B180_116 _ _ _ _ _ _ _ _ _ _ _ _ _ _) rfl ?_
        refine Ev.kill [false, false, false, false, false, false, false, false, false, false, false, true] ?_
        dsimp only [mkl]
        rw [← e8]
        exact sq2_lp (L := L) (d := d) hm3 hr hP hR hA hm hK hw hmem h138 hi hiw hQ g (j + 1) W (by omega) w1 (fun c hc => w2 c (by omega)) (fun z hz => w3 z (by omega))
      · replace y := of_decide_eq_false y
        have y : j ≠ w := by omega
        have e8 := rwx_s y
        have rj2 := rwx_lt hw (show j < K by omega) y
        have e9 : (rwx w j : Int) + 1 = (rwx w (j + 1) : Int) := by omega
        refine Ev.blk 12 (B180_96 _ _ _ _ _ _ _ _ _ _ _ _ _ _ ⟨by omega, by omega⟩ ⟨by omega, by omega⟩) rfl ?_
        rw [show (8 * (rwx w i : Int) + (rwx w j : Int)).toNat = 8 * rwx w i + rwx w j by omega, e9]
        refine Ev.blk 2 (B180_116 _ _ _ _ _ _ _ _ _ _ _ _ _ _) rfl ?_
        refine Ev.kill [false, false, false, false, false, false, false, false, false, false, false, true] ?_
        dsimp only [mkl]
        refine sq2_lp (L := L) (d := d) hm3 hr hP hR hA hm hK hw hmem h138 hi hiw hQ g (j + 1) _ (by omega) (fun y hy => by rw [uV_ne hy]; exact w1 y hy) (fun c hc => ?_) (fun z hz => ?_)
        · rw [uV_at]
          by_cases p : c = rwx w j
          · rw [if_pos (by omega), p, skp_rwx y]
            rfl
          · rw [if_neg (by omega)]
            exact w2 c (by omega)
        · rw [uV_at, if_neg (by omega)]
          exact w3 z (by omega)
    refine Ev.blk 3 (B180_49 _ _ _ _ _ _ _ _ _ _ _ _ _ ⟨by omega, by omega⟩ ⟨by omega, by omega⟩) rfl ?_
    refine Ev.ite (fun z => absurd (of_decide_eq_true z) (by omega)) (fun _ => ?_)
    refine Ev.blk 7 (B180_56 _ _ _ _ _ _ _ _ _ _ _ _ _ ⟨by omega, by omega⟩) rfl ?_
    rw [mj]
    refine Ev.call rfl rfl rfl (x_goesOf (d := d) (m := (m : Int)) (a := (stA act mw (mem i) : Int)) (c := (mem j : Int)) (by omega) (by omega) (by omega)) (by omega) ?_
    rintro v V' b' ⟨rfl, h_, g_⟩
    subst V' b'
    rw [hPW.2.1 (stA act mw (mem i)) (mem j) (by omega) (by omega)]
    refine Ev.blk 5 (B180_70 _ _ _ _ _ _ _ _ _ _ _ _ _ _ ⟨by omega, by omega⟩ ⟨by omega, by omega⟩) rfl ?_
    refine Ev.ite (fun z => ?_) (fun z => ?_)
    · replace z := nd_t z
      refine Ev.blk 1 (B180_85 _ _ _ _ _ _ _ _ _ _ _ _ _ _ _) rfl ?_
      refine f87 _ ?_
      unfold sqf
      rw [if_neg (by omega)]
      rfl
    · replace z := nd_f z
      refine Ev.blk 2 (B180_81 _ _ _ _ _ _ _ _ _ _ _ _ _ _ _) rfl ?_
      refine f87 _ ?_
      unfold sqf
      rw [if_pos (by omega)]
theorem sq1_lp {L d : Nat} {V : Mv} {b : Bool} {Q : Option AV → Mv → Bool → Prop} {m n r : Nat} {G : Nat → Nat → Int} {co mw mc act : Nat → Int} (hm3 : m < 3) (hr : r < 5) (hP : PR V m n G co mw mc) (hR : RB n G co mw mc act) (hA : ∀ a, a < 8 → V 135 (8 * r + a) = act a) (hm : hasM act mw n) {K w : Nat} {mem : Nat → Nat} (hK : K ≤ 8) (hw : w < K) (hmem : ∀ i, i < K → mem i < n) (h138 : ∀ i, i < K → V 138 i = (mem i : Int)) (hI : IRR (lam (qA G act mw) mem) K) (hQ : ∀ W, (∀ y, y ≠ 139 → W y = V y) → (∀ x y, x < K - 1 → y < K - 1 → W 139 (8 * x + y) = lam (qA G act mw) mem (skp w x) (skp w y)) → Q none W b) : ∀ (g i : Nat) (W : Mv), i + g = K → (∀ y, y ≠ 139 → W y = V y) → (∀ x y, x < rwx w i → y < K - 1 → W 139 (8 * x + y) = lam (qA G act mw) mem (skp w x) (skp w y)) → Ev L (d + 2) 180 12 [some (.inr (.inr 120)), some (.inl (m : Int)), some (.inl (r : Int)), some (.inl (w : Int)), some (.inl (K : Int)), some (.inl (rwx w i : Int)), some (.inl (i : Int)), none, none, none, none, none] [] W b Q
  | 0, i, W, h, w1, w2 => by
    obtain rfl : i = K := by omega
    have hre := rwx_e hw
    refine Ev.blk 3 (B180_12 _ _ _ _ _ _ _ _ _ ⟨by omega, by omega⟩ ⟨by omega, by omega⟩) rfl ?_
    refine Ev.ite (fun _ => ?_) (fun z => absurd (of_decide_eq_false z) (by omega))
    exact Ev.ret rfl rfl rfl rfl (hQ W w1 (fun x y hx hy => w2 x y (by omega) hy))
  | g + 1, i, W, h, w1, w2 => by
    have h8 := hR.1.2.1
    have hmi := hmem i (by omega)
    have mi : W 138 ((i : Int)).toNat = (mem i : Int) := by rw [Int.toNat_natCast, w1 138 (by omega)]; exact h138 i (by omega)
    refine Ev.blk 3 (B180_12 _ _ _ _ _ _ _ _ _ ⟨by omega, by omega⟩ ⟨by omega, by omega⟩) rfl ?_
    refine Ev.ite (fun z => absurd (of_decide_eq_true z) (by omega)) (fun _ => ?_)
    refine Ev.blk 3 (B180_19 _ _ _ _ _ _ _ _ _ ⟨by omega, by omega⟩ ⟨by omega, by omega⟩) rfl ?_
    refine Ev.ite (fun z => ?_) (fun z => ?_)
    · replace z := of_decide_eq_true z
      have z : i = w := by omega
      have e8 : rwx w (i + 1) = rwx w i := by rw [z]; exact rwx_w w
      refine Ev.blk 2 (B180_138 _ _ _ _ _ _ _ _ _) rfl ?_
      rw [← e8]
      exact sq1_lp (L := L) (d := d) hm3 hr hP hR hA hm hK hw hmem h138 hI hQ g (i + 1) W (by omega) w1 (fun x y hx hy => w2 x y (by omega) hy)
    · replace z := of_decide_eq_false z
      have z : i ≠ w := by omega
      have e8 := rwx_s z
      have e9 : (rwx w i : Int) + 1 = (rwx w (i + 1) : Int) := by omega
      have ri := rwx_lt hw (show i < K by omega) z
      have sI := sqf_sum hI (show i < K by omega)
      have sb := sumN_bd (f := sqf (qA G act mw) mem i) (B := 10) K (fun j hj => by
        unfold sqf
        split
        · omega
        · have hs2 := hR.st hm hmi
          have hj2 := hmem j hj
          exact hR.1.2.2.1 (stA act mw (mem i)) (mem j) (by omega) (by omega))
      refine Ev.blk 7 (B180_25 _ _ _ _ _ _ _ _ _ ⟨by omega, by omega⟩) rfl ?_
      rw [mi]
      refine Ev.call rfl rfl rfl (x_runsAt (d := d) hm3 hr (hP.frame (fun x h1 h2 => w1 x (by omega))) hR (fun a ha => by rw [w1 135 (by omega)]; exact hA a ha) (a := mem i) hmi (hm _ hmi)) (by omega) ?_
      rintro v V' b' ⟨rfl, h_, g_⟩
      subst V' b'
      refine Ev.blk 7 (B180_38 _ _ _ _ _ _ _ _ _ _) rfl ?_
      refine sq2_lp (V := V) (U := W) hm3 hr hP hR hA hm hK hw hmem h138 (i := i) (by omega) z (fun W2 v1 v2 v3 => ?_) K 0 W (by omega) w1 (fun c hc => absurd hc (by have := rwx_l w 0; omega)) (fun _ _ => rfl)
      refine Ev.blk 9 (B180_122 _ _ _ _ _ _ _ _ _ _ _ _ _ ⟨by omega, by omega⟩ ⟨by omega, by omega⟩) rfl ?_
      rw [show (9 * (rwx w i : Int)).toNat = 8 * rwx w i + rwx w i by omega, e9, sI]
      refine Ev.kill [false, false, false, false, false, false, false, true, true, true, true] ?_
      dsimp only [mkl]
      refine Ev.blk 2 (B180_138 _ _ _ _ _ _ _ _ _) rfl ?_
      refine sq1_lp (L := L) (d := d) hm3 hr hP hR hA hm hK hw hmem h138 hI hQ g (i + 1) _ (by omega) (fun y hy => by rw [uV_ne hy]; exact v1 y hy) (fun x y hx hy => ?_)
      rw [uV_at]
      by_cases p : x = rwx w i
      · subst p
        rw [skp_rwx z]
        by_cases p2 : y = rwx w i
        · rw [if_pos (by omega), p2, skp_rwx z]
        · rw [if_neg (by omega), v2 y hy]
          show _ = (if i = skp w y then 10 else 0) - qA G act mw (mem i) (mem (skp w y))
          rw [if_neg (fun e => p2 (by rw [e, rwx_skp]))]
          omega
      · rw [if_neg (by omega), v3 _ (by omega)]
        exact w2 x y (by omega) hy
theorem x_laySquare {L d : Nat} {V : Mv} {b : Bool} {m n r : Nat} {G : Nat → Nat → Int} {co mw mc act : Nat → Int} (hm3 : m < 3) (hr : r < 5) (hP : PR V m n G co mw mc) (hR : RB n G co mw mc act) (hA : ∀ a, a < 8 → V 135 (8 * r + a) = act a) (hm : hasM act mw n) {K w : Nat} {mem : Nat → Nat} (hK : K ≤ 8) (hw : w < K) (hmem : ∀ i, i < K → mem i < n) (h138 : ∀ i, i < K → V 138 i = (mem i : Int)) (hI : IRR (lam (qA G act mw) mem) K) (h23 : V 120 23 = (K : Int)) : Ex L (d + 2) 180 [.inr (.inr 120), .inl (m : Int), .inl (r : Int), .inl (w : Int)] V b (fun v W b' => v = none ∧ b' = b ∧ (∀ y, y ≠ 139 → W y = V y) ∧ ∀ x y, x < K - 1 → y < K - 1 → W 139 (8 * x + y) = lam (qA G act mw) mem (skp w x) (skp w y)) := by
  refine Ev.blk 7 (B180_0 _ _ _ _ _ _) rfl ?_
  rw [h23]
  exact sq1_lp hm3 hr hP hR hA hm hK hw hmem h138 hI (fun W w1 w2 => ⟨rfl, rfl, w1, w2⟩) K 0 V (by omega) (fun _ _ => rfl) (fun x y hx => absurd hx (by have := rwx_l w 0; omega))
theorem wo3_lp {L d : Nat} {U : Mv} {b : Bool} {Q : Option AV → Mv → Bool → Prop} {A : Nat → Nat → Int} {N t i : Nat} (hl : LJ A (N + 1) 0) (hN : N ≤ 7) (ht : t < i) (hi : i < N) (hU1 : ∀ y, t ≤ y → y < N → U 139 (8 * i + y) = bm A t i y) (hU2 : ∀ y, t ≤ y → y < N → U 139 (8 * t + y) = bm A t t y) (hQ : ∀ W, (∀ y, y ≠ 139 → W y = U y) → (∀ y, t < y → y < N → W 139 (8 * i + y) = bm A (t + 1) i y) → (∀ z, ¬ (8 * i + t < z ∧ z < 8 * i + N) → W 139 z = U 139 z) → Ev L d 181 110 [some (.inr (.inr 120)), some (.inl (N : Int)), some (.inr (.inl (bd A t))), none, some (.inl (t : Int)), some (.inl (i : Int)), some (.inl (N : Int))] [] W b Q) : ∀ (g j : Nat) (W : Mv), j + g = N → t < j → (∀ y, y ≠ 139 → W y = U y) → (∀ y, t < y → y < j → W 139 (8 * i + y) = bm A (t + 1) i y) → (∀ z, ¬ (8 * i + t < z ∧ z < 8 * i + j) → W 139 z = U 139 z) → Ev L d 181 31 [some (.inr (.inr 120)), some (.inl (N : Int)), some (.inr (.inl (bd A t))), none, some (.inl (t : Int)), some (.inl (i : Int)), some (.inl (j : Int))] [] W b Q
  | 0, j, W, h, hj, w1, w2, w3 => by
    obtain rfl : j = N := by omega
    refine Ev.blk 3 (B181_31 _ _ _ _ _ _ _ _ ⟨by omega, by omega⟩ ⟨by omega, by omega⟩) rfl ?_
    refine Ev.ite (fun _ => ?_) (fun z => absurd (of_decide_eq_false z) (by omega))
    exact hQ W w1 w2 w3
  | g + 1, j, W, h, hj, w1, w2, w3 => by
    have hb := bdb (t := t) hl (by omega) (by omega)
    have e1 : W 139 (8 * (i : Int) + (j : Int)).toNat = bm A t i j := by
      rw [show (8 * (i : Int) + (j : Int)).toNat = 8 * i + j by omega, w3 _ (by omega)]
      exact hU1 j (by omega) (by omega)
    have e2 : W 139 (9 * (t : Int)).toNat = bm A t t t := by
      rw [show (9 * (t : Int)).toNat = 8 * t + t by omega, w3 _ (by omega)]
      exact hU2 t (by omega) (by omega)
    have e3 : W 139 (8 * (i : Int) + (t : Int)).toNat = bm A t i t := by
      rw [show (8 * (i : Int) + (t : Int)).toNat = 8 * i + t by omega, w3 _ (by omega)]
      exact hU1 t (by omega) (by omega)
    have e4 : W 139 (8 * (t : Int) + (j : Int)).toNat = bm A t t j := by
      rw [show (8 * (t : Int) + (j : Int)).toNat = 8 * t + j by omega, w3 _ (by omega)]
      exact hU2 j (by omega) (by omega)
    have st : bm A t i j * bm A t t t - bm A t i t * bm A t t j = bd A t * bm A (t + 1) i j := by
      rw [hl.RR (t := t) (by omega) i j, Int.mul_comm (bm A t i j)]
    have gb := hl.bnd (t := t + 1) (i := i) (j := j) (by omega) (by omega) (by omega) (by omega)
    have tb := ten_b (t := t + 1) (by omega)
    have mb := mulS (d := bd A t) (D := 10000000) (B := 100000000) (x := bm A (t + 1) i j) ⟨by omega, hb.2⟩ ⟨by omega, by omega⟩ (by decide)
    refine Ev.blk 3 (B181_31 _ _ _ _ _ _ _ _ ⟨by omega, by omega⟩ ⟨by omega, by omega⟩) rfl ?_
    refine Ev.ite (fun z => absurd (of_decide_eq_true z) (by omega)) (fun _ => ?_)
    refine Ev.blk 45 (B181_37 _ _ _ _ _ _ _ _ ⟨by omega, by omega⟩ ⟨by omega, by omega⟩ ⟨by omega, by omega⟩ ⟨by omega, by omega⟩ (by rw [e1, e2, e3, e4, st]; exact ⟨by omega, by omega⟩) ⟨by omega, by omega⟩ (by omega)) rfl ?_
    rw [e1, e2, e3, e4, st, Int.mul_tdiv_cancel_left _ (show bd A t ≠ 0 by omega), show (8 * (i : Int) + (j : Int)).toNat = 8 * i + j by omega]
    refine wo3_lp (L := L) (d := d) hl hN ht hi hU1 hU2 hQ g (j + 1) _ (by omega) (by omega) (fun y hy => by rw [uV_ne hy]; exact w1 y hy) (fun y h1 h2 => ?_) (fun z hz => ?_)
    · rw [uV_at]
      by_cases p : y = j
      · rw [if_pos (by omega), p]
      · rw [if_neg (by omega)]
        exact w2 y h1 (by omega)
    · rw [uV_at, if_neg (by omega)]
      exact w3 z (by omega)
theorem wo2_lp {L d : Nat} {V : Mv} {b : Bool} {Q : Option AV → Mv → Bool → Prop} {A : Nat → Nat → Int} {N t : Nat} (hl : LJ A (N + 1) 0) (hN : N ≤ 7) (ht : t + 1 < N) (hQ : ∀ W, (∀ y, y ≠ 139 → W y = V y) → W 139 (9 * t) = bm A t t t → (∀ x y, t < x → x < N → t < y → y < N → W 139 (8 * x + y) = bm A (t + 1) x y) → Ev L d 181 116 [some (.inr (.inr 120)), some (.inl (N : Int)), some (.inr (.inl (bd A t))), none, some (.inl (t : Int)), some (.inl (N : Int)), none] [] W b Q) : ∀ (g i : Nat) (W : Mv), i + g = N → t < i → (∀ y, y ≠ 139 → W y = V y) → (∀ y, t ≤ y → y < N → W 139 (8 * t + y) = bm A t t y) → (∀ x y, t < x → x < i → t < y → y < N → W 139 (8 * x + y) = bm A (t + 1) x y) → (∀ x y, i ≤ x → x < N → t ≤ y → y < N → W 139 (8 * x + y) = bm A t x y) → Ev L d 181 19 [some (.inr (.inr 120)), some (.inl (N : Int)), some (.inr (.inl (bd A t))), none, some (.inl (t : Int)), some (.inl (i : Int)), none] [] W b Q
  | 0, i, W, h, hi, w1, w2, w3, w4 => by
    obtain rfl : i = N := by omega
    refine Ev.blk 3 (B181_19 _ _ _ _ _ _ _ ⟨by omega, by omega⟩ ⟨by omega, by omega⟩) rfl ?_
    refine Ev.ite (fun _ => ?_) (fun z => absurd (of_decide_eq_false z) (by omega))
    exact hQ W w1 (by rw [show 9 * t = 8 * t + t by omega]; exact w2 t (by omega) (by omega)) w3
  | g + 1, i, W, h, hi, w1, w2, w3, w4 => by
    refine Ev.blk 3 (B181_19 _ _ _ _ _ _ _ ⟨by omega, by omega⟩ ⟨by omega, by omega⟩) rfl ?_
    refine Ev.ite (fun z => absurd (of_decide_eq_true z) (by omega)) (fun _ => ?_)
    refine Ev.blk 4 (B181_25 _ _ _ _ _ _ _) rfl ?_
    refine wo3_lp (U := W) hl hN hi (by omega) (fun y h1 h2 => w4 i y (by omega) (by omega) h1 h2) w2 (fun W2 v1 v2 v3 => ?_) (N - t - 1) (t + 1) W (by omega) (by omega) (fun _ _ => rfl) (fun y h1 h2 => absurd h1 (by omega)) (fun _ _ => rfl)
    refine Ev.blk 2 (B181_110 _ _ _ _ _ _ _ _) rfl ?_
    refine Ev.kill [false, false, false, false, false, false, true] ?_
    dsimp only [mkl]
    refine wo2_lp (L := L) (d := d) hl hN ht hQ g (i + 1) W2 (by omega) (by omega) (fun y hy => by rw [v1 y hy]; exact w1 y hy) (fun y h1 h2 => ?_) (fun x y h1 h2 h3 h4 => ?_) (fun x y h1 h2 h3 h4 => ?_)
    · rw [v3 _ (by omega)]
      exact w2 y h1 h2
    · by_cases p : x = i
      · rw [p]
        exact v2 y h3 h4
      · rw [v3 _ (by omega)]
        exact w3 x y h1 (by omega) h3 h4
    · rw [v3 _ (by omega)]
      exact w4 x y (by omega) h2 h3 h4
theorem wo1_lp {L d : Nat} {V : Mv} {b : Bool} {Q : Option AV → Mv → Bool → Prop} {A : Nat → Nat → Int} {N : Nat} (hl : LJ A (N + 1) 0) (hN : N ≤ 7) (hN0 : 0 < N) (hQ : ∀ W, (∀ y, y ≠ 139 → W y = V y) → Q (some (.inr (.inl (bd A N)))) W b) : ∀ (g t : Nat) (W : Mv), t + g + 1 = N → (∀ y, y ≠ 139 → W y = V y) → (∀ x y, t ≤ x → x < N → t ≤ y → y < N → W 139 (8 * x + y) = bm A t x y) → Ev L d 181 5 [some (.inr (.inr 120)), some (.inl (N : Int)), some (.inr (.inl (bd A t))), none, some (.inl (t : Int)), none, none] [] W b Q
  | 0, t, W, h, w1, w2 => by
    refine Ev.blk 5 (B181_5 _ _ _ _ _ _ ⟨by omega, by omega⟩ ⟨by omega, by omega⟩) rfl ?_
    refine Ev.ite (fun _ => ?_) (fun z => absurd (of_decide_eq_false z) (by omega))
    refine Ev.blk 2 (B181_133 _ _ _ _ _ _ ⟨by omega, by omega⟩) rfl ?_
    refine Ev.ite (fun _ => ?_) (fun z => absurd (nd_f z) (by omega))
    refine Ev.blk 8 (B181_141 _ _ _ _ _ _ ⟨by omega, by omega⟩) rfl ?_
    have e : W 139 (9 * ((N : Int) - 1)).toNat = bd A N := by
      obtain rfl : N = t + 1 := by omega
      rw [show (9 * (((t + 1 : Nat) : Int) - 1)).toNat = 8 * t + t by omega, w2 t t (by omega) (by omega) (by omega) (by omega), bd_s]
    rw [e]
    exact Ev.ret rfl rfl rfl rfl (hQ W w1)
  | g + 1, t, W, h, w1, w2 => by
    refine Ev.blk 5 (B181_5 _ _ _ _ _ _ ⟨by omega, by omega⟩ ⟨by omega, by omega⟩) rfl ?_
    refine Ev.ite (fun z => absurd (of_decide_eq_true z) (by omega)) (fun _ => ?_)
    refine Ev.blk 4 (B181_13 _ _ _ _ _ _) rfl ?_
    refine wo2_lp (V := W) hl hN (t := t) (by omega) (fun W2 v1 v2 v3 => ?_) (N - t - 1) (t + 1) W (by omega) (by omega) (fun _ _ => rfl) (fun y h1 h2 => w2 t y (by omega) (by omega) h1 h2) (fun x y h1 h2 => absurd h1 (by omega)) (fun x y h1 h2 h3 h4 => w2 x y (by omega) h2 h3 h4)
    refine Ev.blk 9 (B181_116 _ _ _ _ _ _ _ ⟨by omega, by omega⟩) rfl ?_
    rw [show (9 * (t : Int)).toNat = 9 * t by omega, v2, ← bd_s]
    refine Ev.kill [false, false, false, false, false, true] ?_
    dsimp only [mkl]
    exact wo1_lp (L := L) (d := d) hl hN hN0 hQ g (t + 1) W2 (by omega) (fun y hy => by rw [v1 y hy]; exact w1 y hy) (fun x y h1 h2 h3 h4 => v3 x y (by omega) h2 (by omega) h4)
theorem x_worth {L d : Nat} {V : Mv} {b : Bool} {A : Nat → Nat → Int} {N : Nat} (hl : LJ A (N + 1) 0) (hN : N ≤ 7) (hV : ∀ x y, x < N → y < N → V 139 (8 * x + y) = A x y) : Ex L d 181 [.inr (.inr 120), .inl (N : Int)] V b (fun v W b' => v = some (.inr (.inl (bd A N))) ∧ b' = b ∧ ∀ y, y ≠ 139 → W y = V y) := by
  refine Ev.blk 4 (B181_0 _ _ _ _) rfl ?_
  by_cases h0 : N = 0
  · subst h0
    refine Ev.blk 5 (B181_5 _ _ _ _ _ _ (by decide) (by decide)) rfl ?_
    refine Ev.ite (fun _ => ?_) (fun z => absurd z (by decide))
    refine Ev.blk 2 (B181_133 _ _ _ _ _ _ (by decide)) rfl ?_
    refine Ev.ite (fun z => absurd z (by decide)) (fun _ => ?_)
    refine Ev.blk 2 (B181_137 _ _ _ _ _ _) rfl ?_
    exact Ev.ret rfl rfl rfl rfl ⟨rfl, rfl, fun _ _ => rfl⟩
  · exact wo1_lp hl hN (by omega) (fun W w1 => ⟨rfl, rfl, w1⟩) (N - 1) 0 V (by omega) (fun _ _ => rfl) (fun x y _ h2 _ h4 => by rw [bm_0]; exact hV x y h2 h4)
