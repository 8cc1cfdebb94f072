/-! the 38 calls: make (specs55.py) -/
theorem uV_cell (W : Mv) (a k y i : Nat) (z : Int) : uV W a k z y i = if y = a ∧ i = k then z else W y i := by
  by_cases q : y = a
  · subst q
    rw [uV_at]
    by_cases p : i = k
    · rw [if_pos p, if_pos ⟨rfl, p⟩]
    · rw [if_neg p, if_neg (fun z => p z.2)]
  · rw [uV_ne q, if_neg (fun z => q z.1)]
theorem x_copyK {L d : Nat} {V : Mv} {b : Bool} {c : Nat} (hc : isK c) (h14 : 14 ≤ c) : Ex L d 74 [.inr (.inr c), .inr (.inr 4)] V b (fun r W b' => r = none ∧ b' = b ∧ (∀ f, f < 2 → W c f = V 4 f) ∧ (∀ k, k < 64 → W (c + 1) k = V (4 + 1) k) ∧ (∀ k, k < 8 → W (c + 2) k = V (4 + 2) k) ∧ (∀ k, k < 8 → W (c + 3) k = V (4 + 3) k) ∧ (∀ k, k < 8 → W (c + 4) k = V (4 + 4) k) ∧ (∀ k, k < 4 → W (c + 5) k = V (4 + 5) k) ∧ (∀ k, k < 4 → W (c + 6) k = V (4 + 6) k) ∧ (∀ y, ¬ (c ≤ y ∧ y ≤ c + 6) → W y = V y)) := by
  refine Ev.blk 64 (J74_0 _ _ _ _ _ (Or.inl rfl) hc) rfl ?_
  refine Ev.ret rfl rfl rfl rfl ⟨rfl, rfl, ?_, ?_, ?_, ?_, ?_, ?_, ?_, ?_⟩
  · intro f hf
    rw [cV_ne (by omega), cV_ne (by omega), cV_ne (by omega), cV_ne (by omega), cV_ne (by omega), cV_ne (by omega)]
    have : f = 0 ∨ f = 1 := by omega
    rcases this with rfl | rfl
    · rw [uV_cell _ c 3 c 0, if_neg (by omega), uV_cell _ c 2 c 0, if_neg (by omega), uV_cell _ c 1 c 0, if_neg (by omega), uV_cell _ c 0 c 0, if_pos ⟨rfl, rfl⟩]
    · rw [uV_cell _ c 3 c 1, if_neg (by omega), uV_cell _ c 2 c 1, if_neg (by omega), uV_cell _ c 1 c 1, if_pos ⟨rfl, rfl⟩, uV_ne (by omega)]
  · intro k hk
    rw [cV_ne (by omega), cV_ne (by omega), cV_ne (by omega), cV_ne (by omega), cV_ne (by omega), cV_in (by omega), uV_ne (by omega), uV_ne (by omega), uV_ne (by omega), uV_ne (by omega)]
    rw [show (0 : Int).toNat + (k - (0 : Int).toNat) = k by omega]
  · intro k hk
    rw [cV_ne (by omega), cV_ne (by omega), cV_ne (by omega), cV_ne (by omega), cV_in (by omega), cV_ne (by omega), uV_ne (by omega), uV_ne (by omega), uV_ne (by omega), uV_ne (by omega)]
    rw [show (0 : Int).toNat + (k - (0 : Int).toNat) = k by omega]
  · intro k hk
    rw [cV_ne (by omega), cV_ne (by omega), cV_ne (by omega), cV_in (by omega), cV_ne (by omega), cV_ne (by omega), uV_ne (by omega), uV_ne (by omega), uV_ne (by omega), uV_ne (by omega)]
    rw [show (0 : Int).toNat + (k - (0 : Int).toNat) = k by omega]
  · intro k hk
    rw [cV_ne (by omega), cV_ne (by omega), cV_in (by omega), cV_ne (by omega), cV_ne (by omega), cV_ne (by omega), uV_ne (by omega), uV_ne (by omega), uV_ne (by omega), uV_ne (by omega)]
    rw [show (0 : Int).toNat + (k - (0 : Int).toNat) = k by omega]
  · intro k hk
    rw [cV_ne (by omega), cV_in (by omega), cV_ne (by omega), cV_ne (by omega), cV_ne (by omega), cV_ne (by omega), uV_ne (by omega), uV_ne (by omega), uV_ne (by omega), uV_ne (by omega)]
    rw [show (0 : Int).toNat + (k - (0 : Int).toNat) = k by omega]
  · intro k hk
    rw [cV_in (by omega), cV_ne (by omega), cV_ne (by omega), cV_ne (by omega), cV_ne (by omega), cV_ne (by omega), uV_ne (by omega), uV_ne (by omega), uV_ne (by omega), uV_ne (by omega)]
    rw [show (0 : Int).toNat + (k - (0 : Int).toNat) = k by omega]
  · intro y hy
    rw [cV_ne (by omega), cV_ne (by omega), cV_ne (by omega), cV_ne (by omega), cV_ne (by omega), cV_ne (by omega), uV_ne (by omega), uV_ne (by omega), uV_ne (by omega), uV_ne (by omega)]
def MC (m y i : Nat) : Prop := (y = 121 ∧ i = m) ∨ (y = 122 ∧ i = m) ∨ (y = 123 ∧ 64 * m ≤ i ∧ i < 64 * m + 64) ∨ ((y = 124 ∨ y = 125 ∨ y = 130) ∧ 8 * m ≤ i ∧ i < 8 * m + 8) ∨ ((y = 126 ∨ y = 127) ∧ 4 * m ≤ i ∧ i < 4 * m + 4) ∨ (y = 129 ∧ i = m)
theorem mk1_lp {L d : Nat} {U : Mv} {b : Bool} {m : Nat} {Q : Option AV → Mv → Bool → Prop} (hm : m < 3) (hQ : ∀ W, (∀ y i, ¬ (y = 123 ∧ 64 * m ≤ i ∧ i < 64 * m + 64) → W y i = U y i) → (∀ i, i < 64 → W 123 (64 * m + i) = U 123 (192 + i)) → Ev L d 144 80 [some (.inr (.inr 120)), some (.inl (m : Int)), some (.inl 64)] [] W b Q) : ∀ (n k : Nat) (W : Mv), k + n = 64 → (∀ y i, ¬ (y = 123 ∧ 64 * m ≤ i ∧ i < 64 * m + k) → W y i = U y i) → (∀ i, i < k → W 123 (64 * m + i) = U 123 (192 + i)) → Ev L d 144 47 [some (.inr (.inr 120)), some (.inl (m : Int)), some (.inl (k : Int))] [] W b Q
  | 0, k, W, h, r1, r2 => by
    obtain rfl : k = 64 := by omega
    refine Ev.blk 3 (B144_47 _ _ _ _ _ (by decide)) rfl ?_
    refine Ev.ite (fun _ => ?_) (fun h => absurd h (by decide))
    exact hQ W r1 r2
  | n + 1, k, W, h, r1, r2 => by
    refine Ev.blk 3 (B144_47 _ _ _ _ _ ⟨by omega, by omega⟩) rfl ?_
    refine Ev.ite (fun z => absurd (of_decide_eq_true z) (by omega)) (fun _ => ?_)
    refine Ev.blk 16 (B144_53 _ _ _ _ _ ⟨by omega, by omega⟩ ⟨by omega, by omega⟩) rfl ?_
    rw [show (64 * (m : Int) + (k : Int)).toNat = 64 * m + k by omega, show (192 + (k : Int)).toNat = 192 + k by omega, r1 123 (192 + k) (by omega)]
    refine mk1_lp (L := L) (d := d) hm hQ n (k + 1) _ (by omega) (fun y i hy => ?_) (fun i hi => ?_)
    · rw [uV_cell, if_neg (by omega)]
      exact r1 y i (by omega)
    · rw [uV_cell]
      by_cases q : i = k
      · rw [if_pos ⟨rfl, by omega⟩, q]
      · rw [if_neg (by omega)]
        exact r2 i (by omega)
theorem mk2_lp {L d : Nat} {U : Mv} {b : Bool} {m : Nat} {Q : Option AV → Mv → Bool → Prop} (hm : m < 3) (hQ : ∀ W, (∀ y i, ¬ ((y = 124 ∨ y = 125 ∨ y = 130) ∧ 8 * m ≤ i ∧ i < 8 * m + 8) → W y i = U y i) → (∀ i, i < 8 → W 124 (8 * m + i) = U 124 (24 + i) ∧ W 125 (8 * m + i) = U 125 (24 + i) ∧ W 130 (8 * m + i) = one1 0 i) → Ev L d 144 154 [some (.inr (.inr 120)), some (.inl (m : Int)), some (.inl 8)] [] W b Q) : ∀ (n k : Nat) (W : Mv), k + n = 8 → (∀ y i, ¬ ((y = 124 ∨ y = 125 ∨ y = 130) ∧ 8 * m ≤ i ∧ i < 8 * m + k) → W y i = U y i) → (∀ i, i < k → W 124 (8 * m + i) = U 124 (24 + i) ∧ W 125 (8 * m + i) = U 125 (24 + i) ∧ W 130 (8 * m + i) = one1 0 i) → Ev L d 144 82 [some (.inr (.inr 120)), some (.inl (m : Int)), some (.inl (k : Int))] [] W b Q
  | 0, k, W, h, r1, r2 => by
    obtain rfl : k = 8 := by omega
    refine Ev.blk 3 (B144_82 _ _ _ _ _ (by decide)) rfl ?_
    refine Ev.ite (fun _ => ?_) (fun h => absurd h (by decide))
    exact hQ W r1 r2
  | n + 1, k, W, h, r1, r2 => by
    have go : ∀ z : Int, z = one1 0 k → Ev L d 144 82 [some (.inr (.inr 120)), some (.inl (m : Int)), some (.inl ((k + 1 : Nat) : Int))] [] (uV (uV (uV W 124 (8 * m + k) (U 124 (24 + k))) 125 (8 * m + k) (U 125 (24 + k))) 130 (8 * m + k) z) b Q := by
      intro z hz
      refine mk2_lp (L := L) (d := d) hm hQ n (k + 1) _ (by omega) (fun y i hy => ?_) (fun i hi => ?_)
      · rw [uV_cell, if_neg (by omega), uV_cell, if_neg (by omega), uV_cell, if_neg (by omega)]
        exact r1 y i (by omega)
      · by_cases q : i = k
        · subst q
          refine ⟨?_, ?_, ?_⟩
          · rw [uV_ne (by omega), uV_ne (by omega), uV_at, if_pos rfl]
          · rw [uV_ne (by omega), uV_at, if_pos rfl]
          · rw [uV_at, if_pos rfl, hz]
        · have h2 := r2 i (by omega)
          refine ⟨?_, ?_, ?_⟩
          · rw [uV_ne (by omega), uV_ne (by omega), uV_at, if_neg (by omega)]
            exact h2.1
          · rw [uV_ne (by omega), uV_at, if_neg (by omega), uV_ne (by omega)]
            exact h2.2.1
          · rw [uV_at, if_neg (by omega), uV_ne (by omega), uV_ne (by omega)]
            exact h2.2.2
    have e1 : (8 * (m : Int) + (k : Int)).toNat = 8 * m + k := by omega
    refine Ev.blk 3 (B144_82 _ _ _ _ _ ⟨by omega, by omega⟩) rfl ?_
    refine Ev.ite (fun z => absurd (of_decide_eq_true z) (by omega)) (fun _ => ?_)
    refine Ev.blk 37 (B144_88 _ _ _ _ _ ⟨by omega, by omega⟩ ⟨by omega, by omega⟩ ⟨by omega, by omega⟩) rfl ?_
    rw [e1, show (24 + (k : Int)).toNat = 24 + k by omega, uV_ne (show (125 : Nat) ≠ 124 by omega), r1 124 (24 + k) (by omega), r1 125 (24 + k) (by omega)]
    refine Ev.ite (fun z => ?_) (fun z => ?_)
    · replace z := nd_t z
      refine Ev.blk 1 (J144_146 _ _ _ _ _ _ _ _ (show TT L 130 = (2, 24) from rfl)) rfl ?_
      refine Ev.blk 3 (J144_147 _ _ _ _ _ _ _ _ _ (show TT L 130 = (2, 24) from rfl) ⟨by omega, by omega⟩ (by decide)) rfl ?_
      rw [e1]
      exact go 0 (by unfold one1; rw [if_neg z])
    · replace z := nd_f z
      refine Ev.blk 2 (J144_142 _ _ _ _ _ _ _ _ (show TT L 130 = (2, 24) from rfl)) rfl ?_
      refine Ev.blk 3 (J144_147 _ _ _ _ _ _ _ _ _ (show TT L 130 = (2, 24) from rfl) ⟨by omega, by omega⟩ (by decide)) rfl ?_
      rw [e1]
      exact go 1 (by unfold one1; rw [if_pos z])
theorem mk3_lp {L d : Nat} {U : Mv} {b : Bool} {m : Nat} {Q : Option AV → Mv → Bool → Prop} (hm : m < 3) (hQ : ∀ W, (∀ y i, ¬ ((y = 126 ∨ y = 127) ∧ 4 * m ≤ i ∧ i < 4 * m + 4) → W y i = U y i) → (∀ i, i < 4 → W 126 (4 * m + i) = U 126 (12 + i) ∧ W 127 (4 * m + i) = U 127 (12 + i)) → Ev L d 144 205 [some (.inr (.inr 120)), some (.inl (m : Int)), some (.inl 4)] [] W b Q) : ∀ (n k : Nat) (W : Mv), k + n = 4 → (∀ y i, ¬ ((y = 126 ∨ y = 127) ∧ 4 * m ≤ i ∧ i < 4 * m + k) → W y i = U y i) → (∀ i, i < k → W 126 (4 * m + i) = U 126 (12 + i) ∧ W 127 (4 * m + i) = U 127 (12 + i)) → Ev L d 144 156 [some (.inr (.inr 120)), some (.inl (m : Int)), some (.inl (k : Int))] [] W b Q
  | 0, k, W, h, r1, r2 => by
    obtain rfl : k = 4 := by omega
    refine Ev.blk 3 (B144_156 _ _ _ _ _ (by decide)) rfl ?_
    refine Ev.ite (fun _ => ?_) (fun h => absurd h (by decide))
    exact hQ W r1 r2
  | n + 1, k, W, h, r1, r2 => by
    have e1 : (4 * (m : Int) + (k : Int)).toNat = 4 * m + k := by omega
    refine Ev.blk 3 (B144_156 _ _ _ _ _ ⟨by omega, by omega⟩) rfl ?_
    refine Ev.ite (fun z => absurd (of_decide_eq_true z) (by omega)) (fun _ => ?_)
    refine Ev.blk 30 (B144_161 _ _ _ _ _ ⟨by omega, by omega⟩ ⟨by omega, by omega⟩) rfl ?_
    rw [e1, show (12 + (k : Int)).toNat = 12 + k by omega, uV_ne (show (127 : Nat) ≠ 126 by omega), r1 126 (12 + k) (by omega), r1 127 (12 + k) (by omega)]
    refine mk3_lp (L := L) (d := d) hm hQ n (k + 1) _ (by omega) (fun y i hy => ?_) (fun i hi => ?_)
    · rw [uV_cell, if_neg (by omega), uV_cell, if_neg (by omega)]
      exact r1 y i (by omega)
    · rw [uV_cell, if_neg (by omega), uV_cell, uV_cell]
      by_cases q : i = k
      · rw [if_pos ⟨rfl, by omega⟩, if_pos ⟨rfl, by omega⟩, q]
        exact ⟨rfl, rfl⟩
      · have h2 := r2 i (by omega)
        rw [if_neg (by omega), if_neg (by omega), uV_cell, if_neg (by omega)]
        exact h2
theorem x_mkR {L d : Nat} {U : Mv} {b : Bool} {m : Nat} (hm : m < 3) : Ev L d 144 21 [some (.inr (.inr 120)), some (.inl (m : Int)), none] [] U b (fun r W b' => r = some (.inl (U 121 3)) ∧ b' = b ∧ (∀ y i, ¬ MC m y i → W y i = U y i) ∧ W 121 m = U 121 3 ∧ W 122 m = U 122 3 ∧ (∀ i, i < 64 → W 123 (64 * m + i) = U 123 (192 + i)) ∧ (∀ i, i < 8 → W 124 (8 * m + i) = U 124 (24 + i) ∧ W 125 (8 * m + i) = U 125 (24 + i) ∧ W 130 (8 * m + i) = one1 0 i) ∧ (∀ i, i < 4 → W 126 (4 * m + i) = U 126 (12 + i) ∧ W 127 (4 * m + i) = U 127 (12 + i)) ∧ W 129 m = U 129 m + 1) := by
  refine Ev.blk 18 (B144_21 _ _ _ _ ⟨by omega, by omega⟩) rfl ?_
  rw [Int.toNat_natCast]
  refine mk1_lp hm (fun W1 a1 a2 => ?_) 64 0 _ rfl (fun _ _ _ => rfl) (fun i hi => absurd hi (by omega))
  refine Ev.blk 2 (B144_80 _ _ _ _ _) rfl ?_
  refine mk2_lp hm (fun W2 b1 b2 => ?_) 8 0 W1 rfl (fun _ _ _ => rfl) (fun i hi => absurd hi (by omega))
  refine Ev.blk 2 (B144_154 _ _ _ _ _) rfl ?_
  refine mk3_lp hm (fun W3 c1 c2 => ?_) 4 0 W2 rfl (fun _ _ _ => rfl) (fun i hi => absurd hi (by omega))
  refine Ev.blk 12 (B144_205 _ _ _ _ _ ⟨by omega, by omega⟩ ⟨by omega, by omega⟩) rfl ?_
  rw [Int.toNat_natCast]
  have U0 : ∀ y i, ¬ (y = 121 ∧ i = m) → ¬ (y = 122 ∧ i = m) → uV (uV U 121 m (U 121 (3 : Int).toNat)) 122 m (uV U 121 m (U 121 (3 : Int).toNat) 122 (3 : Int).toNat) y i = U y i := fun y i h1 h2 => by
    rw [uV_cell, if_neg h2, uV_cell, if_neg h1]
  have U1 : uV (uV U 121 m (U 121 (3 : Int).toNat)) 122 m (uV U 121 m (U 121 (3 : Int).toNat) 122 (3 : Int).toNat) 121 m = U 121 3 := by
    rw [uV_cell, if_neg (by omega), uV_cell, if_pos ⟨rfl, rfl⟩]
    rfl
  have U2 : uV (uV U 121 m (U 121 (3 : Int).toNat)) 122 m (uV U 121 m (U 121 (3 : Int).toNat) 122 (3 : Int).toNat) 122 m = U 122 3 := by
    rw [uV_cell, if_pos ⟨rfl, rfl⟩, uV_cell, if_neg (by omega)]
    rfl
  have w121 : W3 121 m = U 121 3 := by rw [c1 121 m (by omega), b1 121 m (by omega), a1 121 m (by omega), U1]
  have wf : ∀ y i, ¬ MC m y i → W3 y i = U y i := fun y i h => by
    unfold MC at h
    rw [c1 y i (by omega), b1 y i (by omega), a1 y i (by omega), U0 y i (by omega) (by omega)]
  have w129 : W3 129 m = U 129 m := by rw [c1 129 m (by omega), b1 129 m (by omega), a1 129 m (by omega), U0 129 m (by omega) (by omega)]
  refine Ev.ret rfl rfl rfl rfl ⟨?_, rfl, fun y i h => ?_, ?_, ?_, fun i hi => ?_, fun i hi => ?_, fun i hi => ?_, ?_⟩
  · rw [uV_cell, if_neg (by omega), w121]
  · have h' := h
    unfold MC at h'
    rw [uV_cell, if_neg (by omega)]
    exact wf y i h
  · rw [uV_cell, if_neg (by omega)]
    exact w121
  · rw [uV_cell, if_neg (by omega), c1 122 m (by omega), b1 122 m (by omega), a1 122 m (by omega), U2]
  · rw [uV_cell, if_neg (by omega), c1 _ _ (by omega), b1 _ _ (by omega), a2 i hi, U0 _ _ (by omega) (by omega)]
  · rw [uV_cell, if_neg (by omega), c1 _ _ (by omega), uV_cell, if_neg (by omega), c1 _ _ (by omega), uV_cell, if_neg (by omega), c1 _ _ (by omega)]
    have h2 := b2 i hi
    rw [a1 _ _ (by omega), U0 _ _ (by omega) (by omega), a1 _ _ (by omega), U0 _ _ (by omega) (by omega)] at h2
    exact h2
  · rw [uV_cell, if_neg (by omega), uV_cell, if_neg (by omega)]
    have h2 := c2 i hi
    rw [b1 _ _ (by omega), a1 _ _ (by omega), U0 _ _ (by omega) (by omega), b1 _ _ (by omega), a1 _ _ (by omega), U0 _ _ (by omega) (by omega)] at h2
    exact h2
  · rw [uV_cell, if_pos ⟨rfl, rfl⟩, w129]
