/-! fractions; sums of weights (specs9.py) -/
theorem gcd_p {x y : Nat} (hy : 0 < y) : 0 < Nat.gcd x y := Nat.gcd_pos_of_pos_right x hy
theorem gcd_lt {x y : Nat} (hy : 0 < y) (h : y < 9223372036854775808) : Nat.gcd x y < 9223372036854775808 := Nat.lt_of_le_of_lt (Nat.gcd_le_right x hy) h
theorem x_toldR {L d : Nat} {V : Mv} {b : Bool} {x y : Nat} {u : Int} (hx : x < 9223372036854775808) (hy : y < 9223372036854775808) (h0 : 0 < y) (hu : u = 0 ∨ u = 1) : Ex L (d + 1) 168 [.inr (.inl (x : Int)), .inr (.inl (y : Int)), .inl u] V b (Ans (some (.inr (.inl (if u = 0 then ((y / Nat.gcd x y : Nat) : Int) else ((x / Nat.gcd x y : Nat) : Int))))) V b) := by
  have hg := gcd_p (x := x) h0
  have hl := gcd_lt (x := x) h0 hy
  refine Ev.blk 2 (B168_0 _ _ _ _ _ _) rfl ?_
  refine Ev.call rfl rfl rfl (x_gcdR (d := d) hx hy) (by omega) ?_
  rintro v V' b' ⟨rfl, rfl, rfl⟩
  refine Ev.blk 3 (B168_5 _ _ _ _ _ _ _ ⟨by omega, by omega⟩) rfl ?_
  refine Ev.ite (fun q => ?_) (fun q => ?_)
  · replace q := of_decide_eq_true q
    refine Ev.blk 3 (B168_19 _ _ _ _ _ _ _ ⟨by omega, by omega⟩ ⟨by omega, by omega⟩ (by omega)) rfl ?_
    refine Ev.ret rfl rfl rfl rfl ⟨?_, rfl, rfl⟩
    rw [if_pos q]
    rfl
  · replace q := of_decide_eq_false q
    refine Ev.blk 4 (B168_12 _ _ _ _ _ _ _ ⟨by omega, by omega⟩ ⟨by omega, by omega⟩ (by omega)) rfl ?_
    refine Ev.ret rfl rfl rfl rfl ⟨?_, rfl, rfl⟩
    rw [if_neg q]
    rfl
theorem x_toldC {L d : Nat} {V : Mv} {b : Bool} {a : Nat} {u : Int} (ha : isF a) (hu : u = 0 ∨ u = 1) : Ex L d 112 [.inr (.inr a), .inl u] V b (Ans (some (.inr (.inl (if u = 0 then V a 1 else V a 0)))) V b) := by
  refine Ev.blk 2 (B112_0 _ _ _ _ _ ⟨by omega, by omega⟩) rfl ?_
  refine Ev.ite (fun q => ?_) (fun q => ?_)
  · replace q := of_decide_eq_true q
    refine Ev.blk 2 (B112_11 _ _ _ _ _ ha) rfl ?_
    refine Ev.ret rfl rfl rfl rfl ⟨?_, rfl, rfl⟩
    rw [if_pos q]
  · replace q := of_decide_eq_false q
    refine Ev.blk 3 (B112_4 _ _ _ _ _ ha) rfl ?_
    refine Ev.ret rfl rfl rfl rfl ⟨?_, rfl, rfl⟩
    rw [if_neg q]
theorem x_become {L d : Nat} {V : Mv} {b : Bool} {a x y : Nat} (ha : isF a) (hx : x < 9223372036854775808) (hy : y < 9223372036854775808) (h0 : 0 < y) : Ex L (d + 1) 111 [.inr (.inr a), .inr (.inl (x : Int)), .inr (.inl (y : Int))] V b (Ans none (uV (uV V a 0 ((x / Nat.gcd x y : Nat) : Int)) a 1 ((y / Nat.gcd x y : Nat) : Int)) b) := by
  have hg := gcd_p (x := x) h0
  have hl := gcd_lt (x := x) h0 hy
  refine Ev.blk 2 (B111_0 _ _ _ _ _ _) rfl ?_
  refine Ev.call rfl rfl rfl (x_gcdC (d := d) hx hy) (by omega) ?_
  rintro v V' b' ⟨rfl, rfl, rfl⟩
  refine Ev.blk 6 (B111_5 _ _ _ _ _ _ _ ⟨by omega, by omega⟩ (cmpI_in _ _)) rfl ?_
  refine Ev.ite (fun q => ?_) (fun q => ?_)
  · replace q := (cmpI_le _ _).mp (of_decide_eq_true q)
    have e : Nat.gcd x y = 1 := by omega
    refine Ev.blk 1 (B111_22 _ _ _ _ _ _ _ _) rfl ?_
    refine Ev.blk 6 (B111_23 _ _ _ _ _ _ _ _ _ ha ⟨by omega, by omega⟩ (cmpI_in _ _)) rfl ?_
    refine Ev.ite (fun _ => ?_) (fun z => absurd ((cmpI_le _ _).mpr q) (of_decide_eq_false z))
    refine Ev.blk 1 (B111_41 _ _ _ _ _ _ _ _) rfl ?_
    refine Ev.blk 1 (B111_42 _ _ _ _ _ _ _ _ _ ha) rfl ?_
    refine Ev.ret rfl rfl rfl rfl ⟨rfl, ?_, rfl⟩
    rw [e, Nat.div_one, Nat.div_one]
  · have q : ¬ ((Nat.gcd x y : Nat) : Int) ≤ 1 := fun z => of_decide_eq_false q ((cmpI_le _ _).mpr z)
    refine Ev.blk 4 (B111_15 _ _ _ _ _ _ _ _ ⟨by omega, by omega⟩ ⟨by omega, by omega⟩ (by omega)) rfl ?_
    refine Ev.blk 6 (B111_23 _ _ _ _ _ _ _ _ _ ha ⟨by omega, by omega⟩ (cmpI_in _ _)) rfl ?_
    refine Ev.ite (fun z => absurd ((cmpI_le _ _).mp (of_decide_eq_true z)) q) (fun _ => ?_)
    refine Ev.blk 4 (B111_34 _ _ _ _ _ _ _ _ ⟨by omega, by omega⟩ ⟨by omega, by omega⟩ (by omega)) rfl ?_
    refine Ev.blk 1 (B111_42 _ _ _ _ _ _ _ _ _ ha) rfl ?_
    exact Ev.ret rfl rfl rfl rfl ⟨rfl, rfl, rfl⟩
theorem sumC_lp {L d : Nat} {V : Mv} {b : Bool} {a : Nat} {x1 : Int} {Q : Option AV → Mv → Bool → Prop} (ha : isT a) (hQ : Q (some (.inr (.inl (sumN (V (a + 1)) 8)))) V b) : ∀ n k : Nat, k + n = 8 → Ev L d 83 5 [some (.inr (.inr a)), some (.inl x1), some (.inr (.inl (sumN (V (a + 1)) k))), none, some (.inl (k : Int))] [] V b Q
  | 0, k, h => by
    obtain rfl : k = 8 := by omega
    refine Ev.blk 3 (B83_5 _ _ _ _ _ _ _ (by decide)) rfl ?_
    refine Ev.ite (fun _ => ?_) (fun h => absurd h (by decide))
    refine Ev.blk 1 (B83_28 _ _ _ _ _ _ _) rfl ?_
    exact Ev.ret rfl rfl rfl rfl hQ
  | n + 1, k, h => by
    have ih := sumC_lp (L := L) (d := d) (x1 := x1) ha hQ n (k + 1) (by omega)
    refine Ev.blk 3 (B83_5 _ _ _ _ _ _ _ ⟨by omega, by omega⟩) rfl ?_
    refine Ev.ite (fun q => ?_) (fun _ => ?_)
    · have := of_decide_eq_true q
      omega
    · refine Ev.blk 9 (B83_12 _ _ _ _ _ _ _ ha ⟨by omega, by omega⟩) rfl ?_
      exact ih
theorem x_sumC {L d : Nat} {V : Mv} {b : Bool} {a : Nat} (ha : isT a) : Ex L d 83 [.inr (.inr a), .inl 0] V b (Ans (some (.inr (.inl (sumN (V (a + 1)) 8)))) V b) := by
  refine Ev.blk 4 (B83_0 _ _ _ _ _) rfl ?_
  exact sumC_lp ha ⟨rfl, rfl, rfl⟩ 8 0 rfl
theorem sumR_lp {L d : Nat} {V : Mv} {b : Bool} {m : Nat} {Q : Option AV → Mv → Bool → Prop} (hm : m < 3) (hQ : Q (some (.inr (.inl (sumN (fun j => V 130 (8 * m + j)) 8)))) V b) : ∀ n k : Nat, k + n = 8 → Ev L d 167 5 [some (.inr (.inr 120)), some (.inl (m : Int)), some (.inr (.inl (sumN (fun j => V 130 (8 * m + j)) k))), none, some (.inl (k : Int))] [] V b Q
  | 0, k, h => by
    obtain rfl : k = 8 := by omega
    refine Ev.blk 3 (B167_5 _ _ _ _ _ _ (by decide)) rfl ?_
    refine Ev.ite (fun _ => ?_) (fun h => absurd h (by decide))
    refine Ev.blk 1 (B167_33 _ _ _ _ _ _) rfl ?_
    exact Ev.ret rfl rfl rfl rfl hQ
  | n + 1, k, h => by
    have ih := sumR_lp (L := L) (d := d) hm hQ n (k + 1) (by omega)
    have e : (8 * (m : Int) + (k : Int)).toNat = 8 * m + k := by omega
    refine Ev.blk 3 (B167_5 _ _ _ _ _ _ ⟨by omega, by omega⟩) rfl ?_
    refine Ev.ite (fun q => ?_) (fun _ => ?_)
    · have := of_decide_eq_true q
      omega
    · refine Ev.blk 13 (B167_12 _ _ _ _ _ _ ⟨by omega, by omega⟩) rfl ?_
      rw [e]
      exact ih
theorem x_sumR {L d : Nat} {V : Mv} {b : Bool} {m : Nat} (hm : m < 3) : Ex L d 167 [.inr (.inr 120), .inl (m : Int)] V b (Ans (some (.inr (.inl (sumN (fun j => V 130 (8 * m + j)) 8)))) V b) := by
  refine Ev.blk 4 (B167_0 _ _ _ _) rfl ?_
  exact sumR_lp hm ⟨rfl, rfl, rfl⟩ 8 0 rfl
