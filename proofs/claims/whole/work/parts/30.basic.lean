/-! M1: sums; M2: the first methods -/
def sumN (f : Nat → Int) : Nat → Int
  | 0 => 0
  | n + 1 => sumN f n + f n
theorem sumN_congr {f g : Nat → Int} : ∀ n, (∀ i, i < n → f i = g i) → sumN f n = sumN g n
  | 0, _ => rfl
  | n + 1, h => by
    show sumN f n + f n = sumN g n + g n
    rw [sumN_congr n (fun i hi => h i (by omega)), h n (by omega)]
/-- an answer and nothing else -/
def Ans (r : Option AV) (V : Mv) (b : Bool) : Option AV → Mv → Bool → Prop := fun v V' b' => v = r ∧ V' = V ∧ b' = b
/-- a truth as the machine has it -/
def b01 (p : Prop) [Decidable p] : Int := if p then 1 else 0
theorem cmpI_lt (a c : Int) : (cmpI a c < 0) ↔ a < c := by
  unfold cmpI
  by_cases h1 : c < a
  · simp [h1]; omega
  · by_cases h2 : a = c
    · simp [h2]
    · simp [h1, h2]; omega
theorem cmpI_gt (a c : Int) : (0 < cmpI a c) ↔ c < a := by
  unfold cmpI
  by_cases h1 : c < a
  · simp [h1]
  · by_cases h2 : a = c
    · simp [h2]
    · simp [h1, h2]
theorem cmpI_eq (a c : Int) : (cmpI a c = 0) ↔ a = c := by
  unfold cmpI
  by_cases h1 : c < a
  · simp [h1]; omega
  · by_cases h2 : a = c
    · simp [h2]
    · simp [h1, h2]
theorem cmpI_in (a c : Int) : in32 (cmpI a c) := by
  unfold cmpI
  by_cases h1 : c < a
  · rw [decide_eq_true h1]; show in32 1; decide
  · rw [decide_eq_false h1]
    by_cases h2 : a = c
    · rw [decide_eq_true h2]; show in32 0; decide
    · rw [decide_eq_false h2]; show in32 (-1); decide
theorem x_in {L d : Nat} {V : Mv} {b : Bool} {v lo hi : Int} (h1 : in64 v) (h2 : in64 lo) (h3 : in64 hi) : Ex L d 132 [.inr (.inl v), .inr (.inl lo), .inr (.inl hi)] V b (Ans (some (.inl (b01 (lo ≤ v ∧ v ≤ hi)))) V b) := by
  refine Ev.blk 4 (B132_0 L V b v lo hi h1 h2 (cmpI_in _ _)) rfl ?_
  refine Ev.ite (fun q => ?_) (fun q => ?_)
  · have q := (cmpI_lt _ _).mp (of_decide_eq_true q)
    refine Ev.blk 1 (B132_17 L V b v lo hi) rfl ?_
    refine Ev.ret rfl rfl rfl rfl ⟨?_, rfl, rfl⟩
    unfold b01
    rw [if_neg (by omega)]
  · have q : ¬ v < lo := fun z => of_decide_eq_false q ((cmpI_lt _ _).mpr z)
    refine Ev.blk 4 (B132_6 L V b v lo hi h1 h3 (cmpI_in _ _)) rfl ?_
    refine Ev.ite (fun q => ?_) (fun q2 => ?_)
    · have q := (cmpI_gt _ _).mp (of_decide_eq_true q)
      refine Ev.blk 1 (B132_17 L V b v lo hi) rfl ?_
      refine Ev.ret rfl rfl rfl rfl ⟨?_, rfl, rfl⟩
      unfold b01
      rw [if_neg (by omega)]
    · have q2 : ¬ hi < v := fun z => of_decide_eq_false q2 ((cmpI_gt _ _).mpr z)
      refine Ev.blk 2 (B132_13 L V b v lo hi) rfl ?_
      refine Ev.ret rfl rfl rfl rfl ⟨?_, rfl, rfl⟩
      unfold b01
      rw [if_pos (by omega)]
/-- the reference's: tenths by which it leaves -/
def rLv (V : Mv) (m w : Int) : Int := sumN (fun o => V 123 (64 * m + 8 * w + (o : Int)).toNat) 8
theorem leaves_lp {L d : Nat} {V : Mv} {b : Bool} {m w : Int} {Q : Option AV → Mv → Bool → Prop} (hm : 0 ≤ m ∧ m < 4) (hw : 0 ≤ w ∧ w < 8) (hQ : Q (some (.inl (rLv V m w))) V b) : ∀ n k : Nat, k + n = 8 → Ev L d 142 5 [some (.inr (.inr 120)), some (.inl m), some (.inl w), some (.inl (sumN (fun o => V 123 (64 * m + 8 * w + (o : Int)).toNat) k)), some (.inl (k : Int))] [] V b Q
  | 0, k, h => by
    obtain rfl : k = 8 := by omega
    refine Ev.blk 3 (B142_5 L V b m w _ _ (by decide)) rfl ?_
    refine Ev.ite (fun _ => ?_) (fun h => absurd h (by decide))
    refine Ev.blk 1 (B142_38 L V b m w _ _) rfl ?_
    exact Ev.ret rfl rfl rfl rfl hQ
  | n + 1, k, h => by
    refine Ev.blk 3 (B142_5 L V b m w _ _ ⟨by omega, by omega⟩) rfl ?_
    refine Ev.ite (fun q => ?_) (fun _ => ?_)
    · have := of_decide_eq_true q
      omega
    · refine Ev.blk 17 (B142_12 L V b m w _ _ ⟨by omega, by omega⟩) rfl ?_
      exact leaves_lp hm hw hQ n (k + 1) (by omega)
theorem x_leaves {L d : Nat} {V : Mv} {b : Bool} {m w : Int} (hm : 0 ≤ m ∧ m < 4) (hw : 0 ≤ w ∧ w < 8) : Ex L d 142 [.inr (.inr 120), .inl m, .inl w] V b (Ans (some (.inl (rLv V m w))) V b) := by
  refine Ev.blk 4 (B142_0 L V b m w) rfl ?_
  exact leaves_lp hm hw ⟨rfl, rfl, rfl⟩ 8 0 rfl
/-- goesOf -/
def rGo (V : Mv) (m a c : Int) : Int := if a = c then 10 - rLv V m a else V 123 (64 * m + 8 * a + c).toNat
theorem x_goesOf {L d : Nat} {V : Mv} {b : Bool} {m a c : Int} (hm : 0 ≤ m ∧ m < 4) (ha : 0 ≤ a ∧ a < 8) (hc : 0 ≤ c ∧ c < 8) : Ex L (d + 1) 151 [.inr (.inr 120), .inl m, .inl a, .inl c] V b (Ans (some (.inl (rGo V m a c))) V b) := by
  refine Ev.blk 3 (B151_0 L V b m a c ⟨by omega, by omega⟩ ⟨by omega, by omega⟩) rfl ?_
  refine Ev.ite (fun q => ?_) (fun q => ?_)
  · have q : ¬ a = c := by simpa using q
    refine Ev.blk 12 (B151_17 L V b m a c ⟨by omega, by omega⟩) rfl ?_
    refine Ev.ret rfl rfl rfl rfl ⟨?_, rfl, rfl⟩
    unfold rGo
    rw [if_neg q]
  · have q : a = c := by simpa using q
    refine Ev.blk 4 (B151_5 L V b m a c) rfl ?_
    refine Ev.call rfl rfl rfl (x_leaves (d := d) hm ha) (Nat.le_refl _) ?_
    rintro v V' b' ⟨rfl, rfl, rfl⟩
    refine Ev.blk 2 (B151_13 L _ _ m a c 10 _) rfl ?_
    refine Ev.ret rfl rfl rfl rfl ⟨?_, rfl, rfl⟩
    unfold rGo
    rw [if_pos q]
