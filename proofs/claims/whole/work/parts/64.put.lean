/-! powers; the 38 calls: put (specs23.py) -/
/-- powers -/
def pw (x : Int) : Nat → Int
  | 0 => 1
  | k + 1 => pw x k * x
theorem pw5 {w : Nat} (h : w ≤ 8) : 1 ≤ pw 5 w ∧ pw 5 w ≤ 390625 := by
  have : w = 0 ∨ w = 1 ∨ w = 2 ∨ w = 3 ∨ w = 4 ∨ w = 5 ∨ w = 6 ∨ w = 7 ∨ w = 8 := by omega
  rcases this with rfl | rfl | rfl | rfl | rfl | rfl | rfl | rfl | rfl <;> decide
/-- the act of a wear in a number; what is left of it behind the wears from k on -/
def rs (x w k : Nat) : Nat := x / 5 ^ (w - k)
def dg (x w a : Nat) : Int := if a < w then ((rs x w (a + 1) % 5 : Nat) : Int) else 0
theorem rs_s {x w n : Nat} (h : n < w) : rs x w n = rs x w (n + 1) / 5 := by
  unfold rs
  rw [Nat.div_div_eq_div_mul, show w - n = w - (n + 1) + 1 by omega, Nat.pow_succ]
theorem rs_e {x w n : Nat} (h : ¬ n < w) : rs x w n = rs x w (n + 1) := by
  unfold rs
  rw [show w - n = w - (n + 1) by omega]
theorem rs_0 {x w n : Nat} (h : w ≤ n) : rs x w n = x := by
  unfold rs
  rw [show w - n = 0 by omega, Nat.pow_zero, Nat.div_one]
theorem rs_le (x w n : Nat) : rs x w n ≤ x := Nat.div_le_self _ _
theorem dg_bd (x w a : Nat) : 0 ≤ dg x w a ∧ dg x w a ≤ 4 := by
  unfold dg
  split <;> omega
theorem dg_t {x w a : Nat} (h : a < w) : dg x w a = ((rs x w (a + 1) % 5 : Nat) : Int) := if_pos h
theorem dg_f {x w a : Nat} (h : ¬ a < w) : dg x w a = 0 := if_neg h
/-- how many are busy -/
def bz (f : Nat → Int) (k : Nat) : Int := sumN (fun j => if f j = 0 then 0 else 1) k
theorem bz_t {f : Nat → Int} {k : Nat} (h : f k = 0) : bz f (k + 1) = bz f k := by
  show bz f k + (if f k = 0 then 0 else 1) = _
  rw [if_pos h, Int.add_zero]
theorem bz_f {f : Nat → Int} {k : Nat} (h : ¬ f k = 0) : bz f (k + 1) = bz f k + 1 := by
  show bz f k + (if f k = 0 then 0 else 1) = _
  rw [if_neg h]
theorem bz_bd (f : Nat → Int) : 0 ≤ bz f 8 ∧ bz f 8 ≤ 8 := by
  unfold bz
  have := sumN_bd (f := fun j => if f j = 0 then 0 else 1) (B := 1) 8 (fun j hj => by
    show 0 ≤ (if f j = 0 then (0 : Int) else 1) ∧ (if f j = 0 then (0 : Int) else 1) ≤ 1
    split <;> omega)
  omega
theorem bz_congr {f g : Nat → Int} {n : Nat} (h : ∀ j, j < n → f j = g j) : bz f n = bz g n := by
  unfold bz
  exact sumN_congr n (fun j hj => by rw [h j hj])
theorem pwC_lp {L d : Nat} {V : Mv} {b : Bool} {Q : Option AV → Mv → Bool → Prop} {x : Int} {t : Nat} (ht : t ≤ 8) (hQ : Q (some (.inr (.inl (pw x t)))) V b) : ∀ n k : Nat, k + n = t → Ev L (d) 28 5 [some (.inr (.inl x)), none, some (.inl (t : Int)), some (.inr (.inl (pw x k))), none, some (.inl (k : Int))] [] V b Q
  | 0, k, h => by
    obtain rfl : k = t := by omega
    refine Ev.blk 3 (B28_5 _ _ _ _ _ _ _ (by first | assumption | omega | decide | exact cmpI_in _ _ | exact ⟨by omega, by omega⟩) (by first | assumption | omega | decide | exact cmpI_in _ _ | exact ⟨by omega, by omega⟩)) rfl ?_
    refine Ev.ite (fun q => ?_) (fun q => ?_)
    · replace q := of_decide_eq_true q
      exact Ev.blk 1 (B28_21 _ _ _ _ _ _ _) rfl (Ev.ret rfl rfl rfl rfl hQ)
    · replace q := of_decide_eq_false q
      exact absurd q (by omega)
  | n + 1, k, h => by
    have ih := pwC_lp (L := L) (d := d) ht hQ n (k + 1) (by omega)
    refine Ev.blk 3 (B28_5 _ _ _ _ _ _ _ (by first | assumption | omega | decide | exact cmpI_in _ _ | exact ⟨by omega, by omega⟩) (by first | assumption | omega | decide | exact cmpI_in _ _ | exact ⟨by omega, by omega⟩)) rfl ?_
    refine Ev.ite (fun q => ?_) (fun q => ?_)
    · replace q := of_decide_eq_true q
      exact absurd q (by omega)
    · replace q := of_decide_eq_false q
      refine Ev.blk 6 (B28_11 _ _ _ _ _ _ _) rfl ?_
      exact ih

theorem x_power {L d : Nat} {V : Mv} {b : Bool} {x : Int} {t : Nat} (ht : t ≤ 8) : Ex L d 28 [.inr (.inl x), .inl (t : Int)] V b (Ans (some (.inr (.inl (pw x t)))) V b) := by
  refine Ev.blk 4 (B28_0 _ _ _ _ _) rfl ?_
  exact pwC_lp ht ⟨rfl, rfl, rfl⟩ t 0 (by omega)
theorem alR_lp {L d : Nat} {V : Mv} {b : Bool} {Q : Option AV → Mv → Bool → Prop} {m w : Nat} (hm : m < 4) (hw : V 121 m = (w : Int)) (hw8 : w ≤ 8) (hQ : Q (some (.inl (pw 5 w))) V b) : ∀ n k : Nat, k + n = w → Ev L (d) 187 4 [some (.inr (.inr 120)), some (.inl (m : Int)), some (.inl (pw 5 k)), some (.inl (k : Int))] [] V b Q
  | 0, k, h => by
    obtain rfl : k = w := by omega
    refine Ev.blk 6 (B187_4 _ _ _ _ _ _ (by first | omega | (rw [Int.toNat_natCast]; exact ⟨by omega, by omega⟩) | exact ⟨by omega, by omega⟩) (by first | omega | (rw [Int.toNat_natCast]; exact ⟨by omega, by omega⟩) | exact ⟨by omega, by omega⟩) (by first | omega | (rw [Int.toNat_natCast]; exact ⟨by omega, by omega⟩) | exact ⟨by omega, by omega⟩)) rfl ?_
    refine Ev.ite (fun q => ?_) (fun q => ?_)
    · replace q := of_decide_eq_true q
      replace q : V 121 m ≤ (k : Int) := q
      exact Ev.blk 1 (B187_24 _ _ _ _ _ _) rfl (Ev.ret rfl rfl rfl rfl hQ)
    · replace q := of_decide_eq_false q
      replace q : ¬ V 121 m ≤ (k : Int) := q
      exact absurd q (by omega)
  | n + 1, k, h => by
    have ih := alR_lp (L := L) (d := d) hm hw hw8 hQ n (k + 1) (by omega)
    refine Ev.blk 6 (B187_4 _ _ _ _ _ _ (by first | omega | (rw [Int.toNat_natCast]; exact ⟨by omega, by omega⟩) | exact ⟨by omega, by omega⟩) (by first | omega | (rw [Int.toNat_natCast]; exact ⟨by omega, by omega⟩) | exact ⟨by omega, by omega⟩) (by first | omega | (rw [Int.toNat_natCast]; exact ⟨by omega, by omega⟩) | exact ⟨by omega, by omega⟩)) rfl ?_
    refine Ev.ite (fun q => ?_) (fun q => ?_)
    · replace q := of_decide_eq_true q
      replace q : V 121 m ≤ (k : Int) := q
      exact absurd q (by omega)
    · replace q := of_decide_eq_false q
      replace q : ¬ V 121 m ≤ (k : Int) := q
      refine Ev.blk 6 (B187_14 _ _ _ _ _ _) rfl ?_
      exact ih

theorem x_allNum {L d : Nat} {V : Mv} {b : Bool} {m w : Nat} (hm : m < 4) (hw : V 121 m = (w : Int)) (hw8 : w ≤ 8) : Ex L d 187 [.inr (.inr 120), .inl (m : Int)] V b (Ans (some (.inl (pw 5 w))) V b) := by
  refine Ev.blk 4 (B187_0 _ _ _ _) rfl ?_
  exact alR_lp hm hw hw8 ⟨rfl, rfl, rfl⟩ w 0 (by omega)
theorem tdv (a : Nat) : Int.tdiv (a : Int) 5 = ((a / 5 : Nat) : Int) := by
  rw [Int.tdiv_eq_ediv_of_nonneg (by omega)]
  omega
theorem tmv (a : Nat) : Int.tmod (a : Int) 5 = ((a % 5 : Nat) : Int) := by
  rw [Int.tmod_eq_emod_of_nonneg (by omega)]
  omega
theorem td1 (a : Nat) : Int.tdiv (a : Int) 1 = (a : Int) := Int.tdiv_one _
theorem tryN_lp {L d : Nat} {V : Mv} {b : Bool} {Q : Option AV → Mv → Bool → Prop} {m w r x : Nat} (hm : m < 3) (hw : V 121 m = (w : Int)) (hw8 : w ≤ 8) (hr5 : r < 5) (hx : x < 2147483648) (hQ : ∀ W, ((∀ y, y ≠ 135 → W y = V y) ∧ (∀ j, ¬ (8 * r + 0 ≤ j ∧ j < 8 * r + 8) → W 135 j = V 135 j) ∧ (∀ j, 0 ≤ j → j < 8 → W 135 (8 * r + j) = dg x w j)) → Q none W b) : ∀ (n : Nat) (W : Mv), n ≤ 8 → ((∀ y, y ≠ 135 → W y = V y) ∧ (∀ j, ¬ (8 * r + n ≤ j ∧ j < 8 * r + 8) → W 135 j = V 135 j) ∧ (∀ j, n ≤ j → j < 8 → W 135 (8 * r + j) = dg x w j)) → Ev L d 188 7 [some (.inr (.inr 120)), some (.inl (m : Int)), some (.inl (x : Int)), some (.inl (r : Int)), some (.inl ((rs x w n : Nat) : Int)), some (.inl (((n : Nat) : Int) - 1))] [] W b Q
  | 0, W, h, hr => by
    refine Ev.blk 2 (B188_7 _ _ _ _ _ _ _ _ (by decide)) rfl ?_
    refine Ev.ite (fun _ => ?_) (fun h => absurd h (by decide))
    exact Ev.ret rfl rfl rfl rfl (hQ W hr)
  | n + 1, W, h, hr => by
    have ih := tryN_lp (L := L) (d := d) hm hw hw8 hr5 hx hQ n
    rw [show (((n + 1 : Nat) : Int) - 1) = (n : Int) by omega]
    have e0 : (8 * (r : Int) + (n : Int)).toNat = 8 * r + n := by omega
    have e1 : W 121 m = (w : Int) := by rw [hr.1 121 (by omega)]; exact hw
    have hle := rs_le x w (n + 1)
    have e2 : ∀ z, uV W 135 (8 * (r : Int) + (n : Int)).toNat z 121 m = (w : Int) := fun z => by rw [uV_ne (by omega)]; exact e1
    refine Ev.blk 2 (B188_7 _ _ _ _ _ _ _ _ ⟨by omega, by omega⟩) rfl ?_
    refine Ev.ite (fun q => absurd (of_decide_eq_true q) (by omega)) (fun _ => ?_)
    refine Ev.blk 13 (B188_12 _ _ _ _ _ _ _ _ (by omega) ⟨by omega, by omega⟩ (by rw [Int.toNat_natCast, e1]; exact ⟨by omega, by omega⟩)) rfl ?_
    rw [Int.toNat_natCast, e1]
    refine Ev.ite (fun q => ?_) (fun q => ?_)
    · have q : ¬ n < w := by have := of_decide_eq_true q; omega
      refine Ev.blk 1 (B188_41 _ _ _ _ _ _ _ _ _ _ _ (show TT L 135 = (1, 40) from rfl)) rfl ?_
      refine Ev.blk 8 (B188_42 _ _ _ _ _ _ _ _ _ _ _ _ (show TT L 135 = (1, 40) from rfl) ⟨by omega, by omega⟩ (by decide) (by omega) ⟨by omega, by omega⟩ (by rw [Int.toNat_natCast, e2]; exact ⟨by omega, by omega⟩)) rfl ?_
      rw [Int.toNat_natCast, e2]
      refine Ev.ite (fun _ => ?_) (fun z => absurd (of_decide_eq_false z) (by omega))
      refine Ev.blk 1 (B188_60 _ _ _ _ _ _ _ _ _) rfl ?_
      refine Ev.blk 4 (B188_61 _ _ _ _ _ _ _ _ _ _ ⟨by omega, by omega⟩ (by decide) (by decide)) rfl ?_
      refine Ev.val (ls' := [some (.inr (.inr 120)), some (.inl (m : Int)), some (.inl (x : Int)), some (.inl (r : Int)), some (.inl ((rs x w n : Nat) : Int)), some (.inl ((n : Int) - 1))]) ?_ rfl (ih _ (by omega) ⟨fun y hy => ?_, fun j hj => ?_, fun j hj1 hj2 => ?_⟩)
      · first | (rw [td1, rs_e q]; done) | (rw [td1, rs_e q]; rfl)
      · rw [uV_ne hy]
        exact hr.1 y hy
      · rw [uV_at, e0, if_neg (by omega)]
        exact hr.2.1 j (by omega)
      · rw [uV_at, e0]
        by_cases e : j = n
        · rw [if_pos (by omega), e, dg_f q]
        · rw [if_neg (by omega)]
          exact hr.2.2 j (by omega) hj2
    · have q : n < w := by have := of_decide_eq_false q; omega
      refine Ev.blk 4 (B188_34 _ _ _ _ _ _ _ _ _ _ _ (show TT L 135 = (1, 40) from rfl) ⟨by omega, by omega⟩) rfl ?_
      refine Ev.blk 8 (B188_42 _ _ _ _ _ _ _ _ _ _ _ _ (show TT L 135 = (1, 40) from rfl) ⟨by omega, by omega⟩ (by decide) (by omega) ⟨by omega, by omega⟩ (by rw [Int.toNat_natCast, e2]; exact ⟨by omega, by omega⟩)) rfl ?_
      rw [Int.toNat_natCast, e2]
      refine Ev.ite (fun z => absurd (of_decide_eq_true z) (by omega)) (fun _ => ?_)
      refine Ev.blk 2 (B188_56 _ _ _ _ _ _ _ _ _) rfl ?_
      refine Ev.blk 4 (B188_61 _ _ _ _ _ _ _ _ _ _ ⟨by omega, by omega⟩ (by decide) (by decide)) rfl ?_
      refine Ev.val (ls' := [some (.inr (.inr 120)), some (.inl (m : Int)), some (.inl (x : Int)), some (.inl (r : Int)), some (.inl ((rs x w n : Nat) : Int)), some (.inl ((n : Int) - 1))]) ?_ rfl (ih _ (by omega) ⟨fun y hy => ?_, fun j hj => ?_, fun j hj1 hj2 => ?_⟩)
      · first | (rw [tdv, rs_s q]; done) | (rw [tdv, rs_s q]; rfl)
      · rw [uV_ne hy]
        exact hr.1 y hy
      · rw [uV_at, e0, if_neg (by omega)]
        exact hr.2.1 j (by omega)
      · rw [uV_at, e0]
        by_cases e : j = n
        · rw [if_pos (by omega), e, dg_t q, tmv]
        · rw [if_neg (by omega)]
          exact hr.2.2 j (by omega) hj2
theorem x_tryN {L d : Nat} {V : Mv} {b : Bool} {m w r x : Nat} (hm : m < 3) (hw : V 121 m = (w : Int)) (hw8 : w ≤ 8) (hr5 : r < 5) (hx : x < 2147483648) : Ex L d 188 [.inr (.inr 120), .inl (m : Int), .inl (x : Int), .inl (r : Int)] V b (fun v V' b' => v = none ∧ b' = b ∧ (∀ y, y ≠ 135 → V' y = V y) ∧ (∀ j, ¬ (8 * r ≤ j ∧ j < 8 * r + 8) → V' 135 j = V 135 j) ∧ (∀ j, j < 8 → V' 135 (8 * r + j) = dg x w j)) := by
  refine Ev.blk 4 (B188_0 _ _ _ _ _ _) rfl ?_
  have h := tryN_lp (L := L) (d := d) (V := V) (b := b) (Q := fun v V' b' => v = none ∧ b' = b ∧ (∀ y, y ≠ 135 → V' y = V y) ∧ (∀ j, ¬ (8 * r ≤ j ∧ j < 8 * r + 8) → V' 135 j = V 135 j) ∧ (∀ j, j < 8 → V' 135 (8 * r + j) = dg x w j)) hm hw hw8 hr5 hx (fun W hr => ⟨rfl, rfl, hr.1, fun j hj => hr.2.1 j (by omega), fun j hj => hr.2.2 j (by omega) hj⟩) 8 V (Nat.le_refl _) ⟨fun _ _ => rfl, fun j _ => rfl, fun j h1 h2 => absurd h2 (by omega)⟩
  rw [rs_0 hw8] at h
  exact h
