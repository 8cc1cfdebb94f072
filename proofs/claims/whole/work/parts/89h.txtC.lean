/-! the class reads figures (specs46.py) -/
theorem uV_uV (V : Mv) (a k : Nat) (x y : Int) : uV (uV V a k x) a k y = uV V a k y := by
  funext a' k'
  unfold uV
  cases Nat.beq a' a && Nat.beq k' k <;> rfl
def TX (V : Mv) (T : Nat → Int) (n j : Nat) : Prop := V 2 0 = (n : Int) ∧ (∀ i, i < 64 → V 3 i = T i) ∧ V 2 2 = (j : Int) ∧ V 2 3 = -9
def TB (T : Nat → Int) (n : Nat) : Prop := n ≤ 64 ∧ ∀ i, i < 64 → 0 ≤ T i ∧ T i ≤ 255
theorem TX.to {V : Mv} {T : Nat → Int} {n j : Nat} (h : TX V T n j) (k : Nat) : TX (uV V 2 2 (k : Int)) T n k := by
  refine ⟨?_, fun i hi => ?_, ?_, ?_⟩
  · rw [uV_at, if_neg (by omega)]
    exact h.1
  · rw [uV_ne (by omega)]
    exact h.2.1 i hi
  · rw [uV_at, if_pos rfl]
  · rw [uV_at, if_neg (by omega)]
    exact h.2.2.2
theorem TX.frame {V W : Mv} {T : Nat → Int} {n j : Nat} (h : TX V T n j) (h2 : W 2 = V 2) (h3 : W 3 = V 3) : TX W T n j := by
  unfold TX at h ⊢
  rw [h2, h3]
  exact h
theorem x_bits {L d : Nat} {V : Mv} {b : Bool} {x : Int} : Ex L d 56 [.inl x] V b (Ans (some (.inl (oShl 1 x - 1))) V b) := by
  refine Ev.blk 5 (B56_0 _ _ _ _) rfl ?_
  exact Ev.ret rfl rfl rfl rfl ⟨rfl, rfl, rfl⟩
theorem x_tk {L d : Nat} {V : Mv} {b : Bool} {T : Nat → Int} {n j : Nat} {mask : Int} (hB : TB T n) (hX : TX V T n j) (hj : j ≤ 200) : Ex L d 57 [.inr (.inr 2), .inl mask] V b (fun r V' b' => b' = b ∧ ((fOK T n j mask ∧ r = some (.inl (figN T j : Int)) ∧ V' = uV V 2 2 ((j + 1 : Nat) : Int)) ∨ (¬ fOK T n j mask ∧ r = some (.inl (-9)) ∧ V' = uV V 2 3 (j : Int)))) := by
  obtain ⟨e0, eT, e2, e3⟩ := hX
  have hn := hB.1
  have bad : ∀ x2 : Int, ¬ fOK T n j mask → Ev L d 57 59 [some (.inr (.inr 2)), some (.inl mask), some (.inl x2)] [] V b (fun r V' b' => b' = b ∧ ((fOK T n j mask ∧ r = some (.inl (figN T j : Int)) ∧ V' = uV V 2 2 ((j + 1 : Nat) : Int)) ∨ (¬ fOK T n j mask ∧ r = some (.inl (-9)) ∧ V' = uV V 2 3 (j : Int)))) := by
    intro x2 hx
    refine Ev.blk 5 (B57_59 _ _ _ _ _) rfl ?_
    rw [e2]
    exact Ev.ret rfl rfl rfl rfl ⟨rfl, Or.inr ⟨hx, rfl, rfl⟩⟩
  refine Ev.blk 4 (B57_0 _ _ _ _ (by rw [e3]; decide)) rfl ?_
  refine Ev.ite (fun _ => ?_) (fun h => absurd e3 (of_decide_eq_false h))
  refine Ev.blk 5 (B57_12 _ _ _ _ (by rw [e2]; exact ⟨by omega, by omega⟩) (by rw [e0]; exact ⟨by omega, by omega⟩)) rfl ?_
  rw [e0, e2]
  refine Ev.ite (fun q => ?_) (fun q => ?_)
  · replace q := of_decide_eq_true q
    refine Ev.blk 1 (B57_38 _ _ _ _) rfl ?_
    refine Ev.blk 3 (B57_40 _ _ _ _ _ (by decide)) rfl ?_
    refine Ev.ite (fun _ => ?_) (fun h => absurd h (by decide))
    exact bad _ (fun h => by have := h.1; omega)
  · replace q := of_decide_eq_false q
    have ht := hB.2 j (by omega)
    refine Ev.blk 8 (B57_23 _ _ _ _ (by rw [e2]; omega)) rfl ?_
    rw [e2, Int.toNat_natCast, eT j (by omega)]
    refine Ev.blk 3 (B57_40 _ _ _ _ _ ⟨by omega, by omega⟩) rfl ?_
    refine Ev.ite (fun z => ?_) (fun z => ?_)
    · replace z := of_decide_eq_true z
      exact bad _ (fun h => by have := h.2.1; omega)
    · replace z := of_decide_eq_false z
      refine Ev.blk 3 (B57_45 _ _ _ _ _ ⟨by omega, by omega⟩) rfl ?_
      refine Ev.ite (fun y => ?_) (fun y => ?_)
      · replace y := of_decide_eq_true y
        exact bad _ (fun h => by have := h.2.1; omega)
      · replace y := of_decide_eq_false y
        refine Ev.blk 6 (B57_51 _ _ _ _ _ (oAnd_in _ _)) rfl ?_
        refine Ev.ite (fun x => ?_) (fun x => ?_)
        · replace x := nd_t x
          refine Ev.blk 7 (B57_70 _ _ _ _ _) rfl ?_
          refine Ev.ret rfl rfl rfl rfl ⟨rfl, Or.inl ⟨⟨by omega, by omega, x⟩, ?_, ?_⟩⟩
          · rw [show T j - 48 = (figN T j : Int) by unfold figN; omega]
          · rw [e2]
            rfl
        · replace x := nd_f x
          exact bad _ (fun h => h.2.2 x)
theorem x_tkF {L d : Nat} {V : Mv} {b : Bool} {mask : Int} (h3 : V 2 3 ≠ -9) (hi : in32 (V 2 3)) : Ex L d 57 [.inr (.inr 2), .inl mask] V b (Ans (some (.inl (-9))) V b) := by
  refine Ev.blk 4 (B57_0 _ _ _ _ hi) rfl ?_
  refine Ev.ite (fun h => absurd (of_decide_eq_true h) h3) (fun _ => ?_)
  refine Ev.blk 1 (B57_9 _ _ _ _) rfl ?_
  exact Ev.ret rfl rfl rfl rfl ⟨rfl, rfl, rfl⟩
theorem x_name0 {L d : Nat} {V : Mv} {b : Bool} : Ex L d 60 [.inr (.inr 2), .inl 0] V b (Ans (some (.inl (-9))) (uV V 2 3 (V 2 2)) b) := by
  refine Ev.blk 2 (B60_0 _ _ _ _ (by decide)) rfl ?_
  refine Ev.ite (fun h => absurd h (by decide)) (fun _ => ?_)
  refine Ev.blk 5 (B60_4 _ _ _ _) rfl ?_
  exact Ev.ret rfl rfl rfl rfl ⟨rfl, rfl, rfl⟩
theorem x_name {L d : Nat} {V : Mv} {b : Bool} {T : Nat → Int} {n j : Nat} {mask : Int} (hB : TB T n) (hX : TX V T n j) (hj : j ≤ 100) (hm : in32 mask) (h0 : ¬ mask = 0) : Ex L (d + 1) 60 [.inr (.inr 2), .inl mask] V b (fun r V' b' => b' = b ∧ ((fOK T n (j + 1) mask ∧ r = some (.inl (figN T (j + 1) : Int)) ∧ V' = uV V 2 2 ((j + 2 : Nat) : Int)) ∨ (¬ fOK T n (j + 1) mask ∧ r = some (.inl (-9)) ∧ V' = uV (uV V 2 2 ((j + 1 : Nat) : Int)) 2 3 ((j + 1 : Nat) : Int)))) := by
  refine Ev.blk 2 (B60_0 _ _ _ _ hm) rfl ?_
  refine Ev.ite (fun _ => ?_) (fun h => absurd (nd_f h) h0)
  refine Ev.blk 8 (B60_15 _ _ _ _) rfl ?_
  rw [hX.2.2.1, show (j : Int) + 1 = ((j + 1 : Nat) : Int) by omega]
  refine Ev.call rfl rfl rfl (x_tk (d := d) hB (hX.to (j + 1)) (by omega)) (by omega) ?_
  rintro v V1 b1 ⟨rfl, h⟩
  rcases h with ⟨h1, rfl, rfl⟩ | ⟨h1, rfl, rfl⟩
  · exact Ev.ret rfl rfl rfl rfl ⟨rfl, Or.inl ⟨h1, rfl, uV_uV _ _ _ _ _⟩⟩
  · exact Ev.ret rfl rfl rfl rfl ⟨rfl, Or.inr ⟨h1, rfl, rfl⟩⟩
theorem x_prc {L d : Nat} {V : Mv} {b : Bool} {T : Nat → Int} {n j : Nat} (hB : TB T n) (hX : TX V T n j) (hj : j ≤ 100) : Ex L (d + 1) 62 [.inr (.inr 2)] V b (fun r V' b' => b' = b ∧ ((fOK T n j 1023 ∧ fOK T n (j + 1) 1023 ∧ r = some (.inl (10 * (figN T j : Int) + (figN T (j + 1) : Int))) ∧ V' = uV V 2 2 ((j + 2 : Nat) : Int)) ∨ (¬ fOK T n j 1023 ∧ r = some (.inl (-9)) ∧ V' = uV V 2 3 (j : Int)) ∨ (fOK T n j 1023 ∧ ¬ fOK T n (j + 1) 1023 ∧ r = some (.inl (-9)) ∧ V' = uV (uV V 2 2 ((j + 1 : Nat) : Int)) 2 3 ((j + 1 : Nat) : Int)))) := by
  refine Ev.blk 2 (B62_0 _ _ _) rfl ?_
  refine Ev.call rfl rfl rfl (x_tk (d := d) hB hX (by omega)) (by omega) ?_
  rintro v V1 b1 ⟨rfl, h⟩
  rcases h with ⟨h1, rfl, rfl⟩ | ⟨h1, rfl, rfl⟩
  · refine Ev.blk 3 (B62_7 _ _ _ _) rfl ?_
    refine Ev.call rfl rfl rfl (x_tk (d := d) hB (hX.to (j + 1)) (by omega)) (by omega) ?_
    rintro v V1 b1 ⟨rfl, h⟩
    rcases h with ⟨h2, rfl, rfl⟩ | ⟨h2, rfl, rfl⟩
    · have := h2.v
      refine Ev.blk 3 (B62_15 _ _ _ _ _ ⟨by omega, by omega⟩) rfl ?_
      refine Ev.ite (fun _ => ?_) (fun h => absurd (of_decide_eq_false h) (by omega))
      refine Ev.blk 5 (B62_25 _ _ _ _ _) rfl ?_
      exact Ev.ret rfl rfl rfl rfl ⟨rfl, Or.inl ⟨h1, h2, rfl, uV_uV _ _ _ _ _⟩⟩
    · refine Ev.blk 3 (B62_15 _ _ _ _ _ (by decide)) rfl ?_
      refine Ev.ite (fun h => absurd h (by decide)) (fun _ => ?_)
      refine Ev.blk 2 (B62_20 _ _ _ _ _) rfl ?_
      exact Ev.ret rfl rfl rfl rfl ⟨rfl, Or.inr (Or.inr ⟨h1, h2, rfl, rfl⟩)⟩
  · refine Ev.blk 3 (B62_7 _ _ _ _) rfl ?_
    refine Ev.call rfl rfl rfl (x_tkF (d := d) (by rw [uV_at, if_pos rfl]; omega) (by rw [uV_at, if_pos rfl]; exact ⟨by omega, by omega⟩)) (by omega) ?_
    rintro v V' b' ⟨rfl, h_, g_⟩
    subst V' b'
    refine Ev.blk 3 (B62_15 _ _ _ _ _ (by decide)) rfl ?_
    refine Ev.ite (fun h => absurd h (by decide)) (fun _ => ?_)
    refine Ev.blk 2 (B62_20 _ _ _ _ _) rfl ?_
    exact Ev.ret rfl rfl rfl rfl ⟨rfl, Or.inr (Or.inl ⟨h1, rfl, rfl⟩)⟩
theorem x_prcF {L d : Nat} {V : Mv} {b : Bool} (h3 : V 2 3 ≠ -9) (hi : in32 (V 2 3)) : Ex L (d + 1) 62 [.inr (.inr 2)] V b (Ans (some (.inl (-9))) V b) := by
  refine Ev.blk 2 (B62_0 _ _ _) rfl ?_
  refine Ev.call rfl rfl rfl (x_tkF (d := d) h3 hi) (by omega) ?_
  rintro v V' b' ⟨rfl, h_, g_⟩
  subst V' b'
  refine Ev.blk 3 (B62_7 _ _ _ _) rfl ?_
  refine Ev.call rfl rfl rfl (x_tkF (d := d) h3 hi) (by omega) ?_
  rintro v V' b' ⟨rfl, h_, g_⟩
  subst V' b'
  refine Ev.blk 3 (B62_15 _ _ _ _ _ (by decide)) rfl ?_
  refine Ev.ite (fun h => absurd h (by decide)) (fun _ => ?_)
  refine Ev.blk 2 (B62_20 _ _ _ _ _) rfl ?_
  exact Ev.ret rfl rfl rfl rfl ⟨rfl, rfl, rfl⟩
theorem x_addWay {L d : Nat} {V : Mv} {b : Bool} {c a to : Nat} {z : Int} (hc : isK c) (ha : a < 8) (hto : to < 8) (hne : a ≠ to) : Ex L d 70 [.inr (.inr c), .inl (a : Int), .inl (to : Int), .inl z] V b (Ans none (uV (uV (uV V (c + 1) (8 * a + to) z) (c + 1) (8 * a + a) (V (c + 1) (8 * a + a) - z)) (c + 2) a (V (c + 2) a + z)) b) := by
  have e1 : ((a : Int) * 8 + (to : Int)).toNat = 8 * a + to := by omega
  have e2 : ((a : Int) * 8 + (a : Int)).toNat = 8 * a + a := by omega
  refine Ev.blk 29 (B70_0 _ _ _ _ _ _ _ hc ⟨by omega, by omega⟩ ⟨by omega, by omega⟩ ⟨by omega, by omega⟩) rfl ?_
  rw [e1, e2, Int.toNat_natCast]
  have f1 : uV V (c + 1) (8 * a + to) z (c + 1) (8 * a + a) = V (c + 1) (8 * a + a) := by rw [uV_at, if_neg (by omega)]
  have f2 : uV (uV V (c + 1) (8 * a + to) z) (c + 1) (8 * a + a) (V (c + 1) (8 * a + a) - z) (c + 2) a = V (c + 2) a := by rw [uV_ne (by omega), uV_ne (by omega)]
  rw [f1, f2]
  exact Ev.ret rfl rfl rfl rfl ⟨rfl, rfl, rfl⟩
