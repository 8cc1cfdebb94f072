/-! M4: the greatest common part -/
theorem gP {n x y : Nat} (hy : 0 < y) (h : y ≤ x ∧ x * y < 2 ^ n ∨ x < y ∧ 1 ≤ n ∧ x * y < 2 ^ (n - 1)) : ∃ k, n = k + 1 ∧ x % y ≤ y ∧ y * (x % y) < 2 ^ k := by
  have hr := Nat.mod_lt x hy
  cases n with
  | zero =>
    rcases h with ⟨h1, h2⟩ | ⟨_, h2, _⟩
    · have : 0 < x * y := Nat.mul_pos (by omega) hy
      simp only [Nat.pow_zero] at h2
      omega
    · omega
  | succ k =>
    refine ⟨k, rfl, by omega, ?_⟩
    rw [Nat.mul_comm]
    rcases h with ⟨h1, h2⟩ | ⟨h1, _, h2⟩
    · have e1 : x % y = (x - y) % y := Nat.mod_eq_sub_mod h1
      have e2 : (x - y) % y ≤ x - y := Nat.mod_le _ _
      have e3 : (y + x % y) * y ≤ x * y := Nat.mul_le_mul_right y (by omega)
      have e4 : x % y * y ≤ y * y := Nat.mul_le_mul_right y (by omega)
      rw [Nat.add_mul] at e3
      rw [Nat.pow_succ] at h2
      omega
    · rw [Nat.mod_eq_of_lt h1]
      exact h2
theorem gcd_st (x y : Nat) : Nat.gcd y (x % y) = Nat.gcd x y := by
  rw [Nat.gcd_comm x y, Nat.gcd_rec y x, Nat.gcd_comm]
theorem gcdC_lp {L d : Nat} {V : Mv} {b : Bool} {g : Nat} {x0 x2 : Int} : ∀ n i x y : Nat, i + n = 128 → x < 9223372036854775808 → y < 9223372036854775808 → (y ≤ x ∧ x * y < 2 ^ n ∨ x < y ∧ 1 ≤ n ∧ x * y < 2 ^ (n - 1)) → Nat.gcd x y = g → Ev L d 14 9 [some (.inr (.inl x0)), none, some (.inr (.inl x2)), none, some (.inr (.inl (x : Int))), none, some (.inr (.inl (y : Int))), none, some (.inl (i : Int)), none, none] [] V b (Ans (some (.inr (.inl (g : Int)))) V b) := by
  intro n
  induction n with
  | zero =>
    intro i x y hi hx hy hP hg
    obtain rfl : i = 128 := by omega
    have hy0 : y = 0 := by
      cases y with
      | zero => rfl
      | succ y =>
        obtain ⟨k, hk, _⟩ := gP (by omega) hP
        omega
    subst hy0
    rw [Nat.gcd_zero_right] at hg
    subst hg
    refine Ev.blk 3 (B14_9 _ _ _ _ _ _ _ _ (by decide)) rfl ?_
    refine Ev.ite (fun _ => ?_) (fun h => absurd h (by decide))
    refine Ev.blk 1 (B14_45 _ _ _ _ _ _ _ _) rfl ?_
    exact Ev.ret rfl rfl rfl rfl ⟨rfl, rfl, rfl⟩
  | succ n ih =>
    intro i x y hi hx hy hP hg
    refine Ev.blk 3 (B14_9 _ _ _ _ _ _ _ _ ⟨by omega, by omega⟩) rfl ?_
    refine Ev.ite (fun q => ?_) (fun _ => ?_)
    · have := of_decide_eq_true q
      omega
    · refine Ev.blk 4 (B14_17 _ _ _ _ _ _ _ _ ⟨by omega, by omega⟩ (cmpI_in _ _)) rfl ?_
      refine Ev.ite (fun q => ?_) (fun q => ?_)
      · replace q := (cmpI_eq _ _).mp (of_decide_eq_true q)
        obtain rfl : y = 0 := by omega
        rw [Nat.gcd_zero_right] at hg
        subst hg
        refine Ev.blk 1 (B14_45 _ _ _ _ _ _ _ _) rfl ?_
        exact Ev.ret rfl rfl rfl rfl ⟨rfl, rfl, rfl⟩
      · have q : ¬ (y : Int) = 0 := fun z => of_decide_eq_false q ((cmpI_eq _ _).mpr z)
        obtain ⟨k, hk, h1, h2⟩ := gP (by omega) hP
        obtain rfl : n = k := by omega
        refine Ev.blk 10 (B14_24 _ _ _ _ _ _ _ _ ⟨by omega, by omega⟩ ⟨by omega, by omega⟩ q) rfl ?_
        refine Ev.dead ?_ (ih (i + 1) y (x % y) (by omega) hy (by omega) (Or.inl ⟨h1, h2⟩) ((gcd_st x y).trans hg))
        exact ⟨Or.inr rfl, Or.inr rfl, Or.inr rfl, Or.inr rfl, Or.inr rfl, Or.inr rfl, Or.inr rfl, Or.inr rfl, Or.inr rfl, Or.inl rfl, Or.inl rfl, trivial⟩
theorem x_gcdC {L d : Nat} {V : Mv} {b : Bool} {x y : Nat} (hx : x < 9223372036854775808) (hy : y < 9223372036854775808) : Ex L d 14 [.inr (.inl (x : Int)), .inr (.inl (y : Int))] V b (Ans (some (.inr (.inl ((Nat.gcd x y : Nat) : Int)))) V b) := by
  have h : x * y < 2 ^ 127 := by
    have h1 : x * y ≤ 9223372036854775808 * y := Nat.mul_le_mul_right y (by omega)
    have h2 : (2 : Nat) ^ 127 = 170141183460469231731687303715884105728 := by decide
    rw [h2]
    omega
  refine Ev.blk 6 (B14_0 _ _ _ _ _) rfl ?_
  refine gcdC_lp 128 0 x y rfl hx hy ?_ rfl
  rcases Nat.lt_or_ge x y with q | q
  · exact Or.inr ⟨q, by omega, h⟩
  · refine Or.inl ⟨q, ?_⟩
    rw [Nat.pow_succ]
    omega
theorem gcdR_lp {L d : Nat} {V : Mv} {b : Bool} {g : Nat} {x0 x2 : Int} : ∀ n x y : Nat, y ≤ n → x < 9223372036854775808 → y < 9223372036854775808 → Nat.gcd x y = g → Ev L d 158 6 [some (.inr (.inl x0)), none, some (.inr (.inl x2)), none, some (.inr (.inl (x : Int))), none, some (.inr (.inl (y : Int))), none, none, none] [] V b (Ans (some (.inr (.inl (g : Int)))) V b) := by
  intro n
  induction n with
  | zero =>
    intro x y hn hx hy hg
    obtain rfl : y = 0 := by omega
    rw [Nat.gcd_zero_right] at hg
    subst hg
    refine Ev.blk 4 (B158_6 _ _ _ _ _ _ _ (by decide) (cmpI_in _ _)) rfl ?_
    refine Ev.ite (fun q => ?_) (fun q => absurd q (by decide))
    refine Ev.blk 1 (B158_31 _ _ _ _ _ _ _) rfl ?_
    exact Ev.ret rfl rfl rfl rfl ⟨rfl, rfl, rfl⟩
  | succ n ih =>
    intro x y hn hx hy hg
    refine Ev.blk 4 (B158_6 _ _ _ _ _ _ _ ⟨by omega, by omega⟩ (cmpI_in _ _)) rfl ?_
    refine Ev.ite (fun q => ?_) (fun q => ?_)
    · replace q := (cmpI_eq _ _).mp (of_decide_eq_true q)
      obtain rfl : y = 0 := by omega
      rw [Nat.gcd_zero_right] at hg
      subst hg
      refine Ev.blk 1 (B158_31 _ _ _ _ _ _ _) rfl ?_
      exact Ev.ret rfl rfl rfl rfl ⟨rfl, rfl, rfl⟩
    · have q : ¬ (y : Int) = 0 := fun z => of_decide_eq_false q ((cmpI_eq _ _).mpr z)
      have hr := Nat.mod_lt x (show 0 < y by omega)
      refine Ev.blk 9 (B158_13 _ _ _ _ _ _ _ ⟨by omega, by omega⟩ ⟨by omega, by omega⟩ q) rfl ?_
      refine Ev.dead ?_ (ih y (x % y) (by omega) hy (by omega) ((gcd_st x y).trans hg))
      exact ⟨Or.inr rfl, Or.inr rfl, Or.inr rfl, Or.inr rfl, Or.inr rfl, Or.inr rfl, Or.inr rfl, Or.inr rfl, Or.inl rfl, Or.inl rfl, trivial⟩
theorem x_gcdR {L d : Nat} {V : Mv} {b : Bool} {x y : Nat} (hx : x < 9223372036854775808) (hy : y < 9223372036854775808) : Ex L d 158 [.inr (.inl (x : Int)), .inr (.inl (y : Int))] V b (Ans (some (.inr (.inl ((Nat.gcd x y : Nat) : Int)))) V b) := by
  refine Ev.blk 4 (B158_0 _ _ _ _ _) rfl ?_
  exact gcdR_lp y x y (Nat.le_refl _) hx hy rfl
