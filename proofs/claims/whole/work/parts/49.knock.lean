/-! the 38 calls, 9: knock (specs11.py) -/
theorem prod_bd {f g : Int} (hf : 0 ≤ f ∧ f ≤ 1000000000000000) (hg : 0 ≤ g ∧ g ≤ 9) : 0 ≤ f * g ∧ f * g ≤ 9000000000000000 := by
  have : g = 0 ∨ g = 1 ∨ g = 2 ∨ g = 3 ∨ g = 4 ∨ g = 5 ∨ g = 6 ∨ g = 7 ∨ g = 8 ∨ g = 9 := by omega
  rcases this with h | h | h | h | h | h | h | h | h | h
  all_goals (rw [h]; omega)
theorem kw_bd {h : Nat → Int} (hb : ∀ j, j < 8 → 0 ≤ h j ∧ h j ≤ 9000000000000000) : 0 ≤ sumN h 8 ∧ sumN h 8 ≤ 72000000000000000 := by
  have b0 := hb 0 (by omega)
  have b1 := hb 1 (by omega)
  have b2 := hb 2 (by omega)
  have b3 := hb 3 (by omega)
  have b4 := hb 4 (by omega)
  have b5 := hb 5 (by omega)
  have b6 := hb 6 (by omega)
  have b7 := hb 7 (by omega)
  show 0 ≤ 0 + h 0 + h 1 + h 2 + h 3 + h 4 + h 5 + h 6 + h 7 ∧ 0 + h 0 + h 1 + h 2 + h 3 + h 4 + h 5 + h 6 + h 7 ≤ 72000000000000000
  omega
theorem kwC_lp {L d : Nat} {V : Mv} {b : Bool} {a c : Nat} {Q : Option AV → Mv → Bool → Prop} (ha : isT a) (hc : isK c) (hk : ∀ j, j < 8 → in32 (V (c + 4) j)) (hQ : Q (some (.inr (.inl (sumN (fun j => V (a + 1) j * V (c + 4) j) 8)))) V b) : ∀ n k : Nat, k + n = 8 → Ev L d 84 5 [some (.inr (.inr a)), some (.inr (.inr c)), some (.inr (.inl (sumN (fun j => V (a + 1) j * V (c + 4) j) k))), none, some (.inl (k : Int))] [] V b Q
  | 0, k, h => by
    obtain rfl : k = 8 := by omega
    refine Ev.blk 3 (B84_5 _ _ _ _ _ _ _ (by decide)) rfl ?_
    refine Ev.ite (fun _ => ?_) (fun h => absurd h (by decide))
    refine Ev.blk 1 (B84_37 _ _ _ _ _ _ _) rfl ?_
    exact Ev.ret rfl rfl rfl rfl hQ
  | n + 1, k, h => by
    have ih := kwC_lp (L := L) (d := d) ha hc hk hQ n (k + 1) (by omega)
    refine Ev.blk 3 (B84_5 _ _ _ _ _ _ _ ⟨by omega, by omega⟩) rfl ?_
    refine Ev.ite (fun q => ?_) (fun _ => ?_)
    · have := of_decide_eq_true q
      omega
    · refine Ev.blk 15 (B84_12 _ _ _ _ _ _ _ ha ⟨by omega, by omega⟩ hc (hk k (by omega))) rfl ?_
      exact ih
theorem x_kwC {L d : Nat} {V : Mv} {b : Bool} {a c : Nat} (ha : isT a) (hc : isK c) (hk : ∀ j, j < 8 → in32 (V (c + 4) j)) : Ex L d 84 [.inr (.inr a), .inr (.inr c)] V b (Ans (some (.inr (.inl (sumN (fun j => V (a + 1) j * V (c + 4) j) 8)))) V b) := by
  refine Ev.blk 4 (B84_0 _ _ _ _ _) rfl ?_
  exact kwC_lp ha hc hk ⟨rfl, rfl, rfl⟩ 8 0 rfl
theorem kwR_lp {L d : Nat} {V : Mv} {b : Bool} {m : Nat} {u : Int} {Q : Option AV → Mv → Bool → Prop} (hm : m < 3) (hk : ∀ j, j < 8 → in32 (V 125 (8 * m + j))) (hQ : Ev L d 169 58 [some (.inr (.inr 120)), some (.inl (m : Int)), some (.inl u), some (.inr (.inl (sumN (fun j => V 130 (8 * m + j) * V 125 (8 * m + j)) 8))), none, some (.inl 8)] [] V b Q) : ∀ n k : Nat, k + n = 8 → Ev L d 169 16 [some (.inr (.inr 120)), some (.inl (m : Int)), some (.inl u), some (.inr (.inl (sumN (fun j => V 130 (8 * m + j) * V 125 (8 * m + j)) k))), none, some (.inl (k : Int))] [] V b Q
  | 0, k, h => by
    obtain rfl : k = 8 := by omega
    refine Ev.blk 3 (B169_16 _ _ _ _ _ _ _ (by decide)) rfl ?_
    exact Ev.ite (fun _ => hQ) (fun h => absurd h (by decide))
  | n + 1, k, h => by
    have ih := kwR_lp (u := u) hm hk hQ n (k + 1) (by omega)
    have e : (8 * (m : Int) + (k : Int)).toNat = 8 * m + k := by omega
    refine Ev.blk 3 (B169_16 _ _ _ _ _ _ _ ⟨by omega, by omega⟩) rfl ?_
    refine Ev.ite (fun q => ?_) (fun _ => ?_)
    · have := of_decide_eq_true q
      omega
    · refine Ev.blk 23 (B169_23 _ _ _ _ _ _ _ ⟨by omega, by omega⟩ ⟨by omega, by omega⟩ (by rw [e]; exact hk k (by omega))) rfl ?_
      rw [e]
      exact ih
