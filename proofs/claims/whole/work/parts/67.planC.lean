/-! some days ahead, the class (specs25.py) -/
theorem dyV_s {G : Nat → Nat → Int} {co lt : Nat → Int} {s : Int} {a k : Nat} : dyV G co lt s a (k + 1) = dyV G co lt s a k + G a (a + k) * lt (a + k) := (Int.add_assoc _ _ _).symm
theorem dyV_0 {G : Nat → Nat → Int} {co lt : Nat → Int} {s : Int} {a : Nat} : dyV G co lt s a 0 = co a * s := Int.add_zero _
theorem goP_lp {L d : Nat} {V : Mv} {b : Bool} {Q : Option AV → Mv → Bool → Prop} {c a wn : Nat} {s : Int} {G : Nat → Nat → Int} {co lt : Nat → Int} (hc : isK c) (ha : a < wn) (hw8 : wn ≤ 8) (hw : V c 0 = (wn : Int)) (hG : ∀ j, j < 8 → V (c + 1) (8 * a + j) = G a j) (hg : ∀ j, j < 8 → 0 ≤ G a j ∧ G a j ≤ 10) (hl : ∀ j, j < wn → V 109 j = lt j) (hQ : Q (some (.inr (.inl (rnV G co lt wn s a)))) V b) : ∀ n k : Nat, k + n = wn - a → Ev L (d) 116 14 [some (.inr (.inr 108)), some (.inr (.inr c)), some (.inl (a : Int)), some (.inr (.inl s)), none, some (.inr (.inl (dyV G co lt s a k))), none, some (.inl ((a + k : Nat) : Int))] [] V b Q
  | 0, k, h => by
    obtain rfl : k = wn - a := by omega
    refine Ev.blk 4 (B116_14 _ _ _ _ _ _ _ _ (by first | exact hc | omega | exact ⟨by omega, by omega⟩) (by first | exact hc | omega | exact ⟨by omega, by omega⟩) (by first | exact hc | omega | exact ⟨by omega, by omega⟩)) rfl ?_
    refine Ev.ite (fun q => ?_) (fun q => ?_)
    · replace q := of_decide_eq_true q
      exact Ev.blk 1 (B116_55 _ _ _ _ _ _ _ _) rfl (Ev.ret rfl rfl rfl rfl hQ)
    · replace q := of_decide_eq_false q
      exact absurd q (by omega)
  | n + 1, k, h => by
    have ih := goP_lp (L := L) (d := d) hc ha hw8 hw hG hg hl hQ n (k + 1) (by omega)
    have e0 : ((a : Int) * 8 + ((a + k : Nat) : Int)).toNat = 8 * a + (a + k) := by omega
    have e1 : 8 * a + (a + k) = 8 * a + (a + k) := rfl
    have h2 := hg (a + k) (by omega)
    refine Ev.blk 4 (B116_14 _ _ _ _ _ _ _ _ (by first | exact hc | omega | exact ⟨by omega, by omega⟩) (by first | exact hc | omega | exact ⟨by omega, by omega⟩) (by first | exact hc | omega | exact ⟨by omega, by omega⟩)) rfl ?_
    refine Ev.ite (fun q => ?_) (fun q => ?_)
    · replace q := of_decide_eq_true q
      exact absurd q (by omega)
    · replace q := of_decide_eq_false q
      refine Ev.blk 19 (B116_23 _ _ _ _ _ _ _ _ (by first | exact hc | omega | (rw [e0, hG (a + k) (by omega)]; exact ⟨by omega, by omega⟩) | exact ⟨by omega, by omega⟩) (by first | exact hc | omega | (rw [e0, hG (a + k) (by omega)]; exact ⟨by omega, by omega⟩) | exact ⟨by omega, by omega⟩) (by first | exact hc | omega | (rw [e0, hG (a + k) (by omega)]; exact ⟨by omega, by omega⟩) | exact ⟨by omega, by omega⟩) (by first | exact hc | omega | (rw [e0, hG (a + k) (by omega)]; exact ⟨by omega, by omega⟩) | exact ⟨by omega, by omega⟩)) rfl ?_
      refine Ev.val ?_ rfl ih
      rw [dyV_s, e0, hG (a + k) (by omega), Int.toNat_natCast, hl (a + k) (by omega)]
      rfl

theorem x_goP {L d : Nat} {V : Mv} {b : Bool} {c a wn : Nat} {s : Int} {G : Nat → Nat → Int} {co lt : Nat → Int} (hc : isK c) (ha : a < wn) (hw8 : wn ≤ 8) (hw : V c 0 = (wn : Int)) (hG : ∀ j, j < 8 → V (c + 1) (8 * a + j) = G a j) (hg : ∀ j, j < 8 → 0 ≤ G a j ∧ G a j ≤ 10) (hl : ∀ j, j < wn → V 109 j = lt j) (hco : V (c + 3) a = co a) (hcb : 0 ≤ co a ∧ co a ≤ 99) : Ex L d 116 [.inr (.inr 108), .inr (.inr c), .inl (a : Int), .inr (.inl s)] V b (Ans (some (.inr (.inl (rnV G co lt wn s a)))) V b) := by
  refine Ev.blk 10 (B116_0 _ _ _ _ _ _ hc (by omega) (by rw [Int.toNat_natCast, hco]; exact ⟨by omega, by omega⟩)) rfl ?_
  have h := goP_lp (L := L) (d := d) (b := b) (s := s) (G := G) (co := co) (lt := lt) (Q := Ans (some (.inr (.inl (rnV G co lt wn s a)))) V b) hc ha hw8 hw hG hg hl ⟨rfl, rfl, rfl⟩ (wn - a) 0 (by omega)
  rw [dyV_0, Nat.add_zero] at h
  rw [Int.toNat_natCast, hco]
  exact h
theorem chP_lp {L d : Nat} {V : Mv} {b : Bool} {Q : Option AV → Mv → Bool → Prop} {c a wn : Nat} {fall s : Int} {mw mc rn : Nat → Int} (hc : isK c) (ha : a < wn) (hw8 : wn ≤ 8) (hmw : ∀ j, j < 4 → V (c + 6) j = mw j) (hmc : ∀ j, j < 4 → V (c + 5) j = mc j) (hr : ∀ j, j < wn → V 110 j = rn j) (hm : ∀ j, j < 4 → mw j = -9 ∨ 0 ≤ mw j ∧ mw j < (wn : Int)) (hcb : ∀ j, j < 4 → 0 ≤ mc j ∧ mc j ≤ 99) (hrb : ∀ j, j < wn → 0 ≤ rn j ∧ rn j ≤ 3000000000000000) (hf : 0 ≤ fall ∧ fall ≤ 100) (hs : 0 ≤ s ∧ s ≤ 100000000) (hQ : ∀ W, ((∀ x, x ≠ 108 → x ≠ 109 → W x = V x) ∧ (∀ j, j ≠ a → W 109 j = V 109 j) ∧ W 109 a = (chV mw mc rn fall s a 4).1 ∧ W 108 2 = (chV mw mc rn fall s a 4).2 ∧ (∀ j, j ≠ 2 → W 108 j = V 108 j)) → Q none W b) : ∀ (n k : Nat) (W : Mv), k + n = 4 → ((∀ x, x ≠ 108 → x ≠ 109 → W x = V x) ∧ (∀ j, j ≠ a → W 109 j = V 109 j) ∧ W 109 a = (chV mw mc rn fall s a k).1 ∧ W 108 2 = (chV mw mc rn fall s a k).2 ∧ (∀ j, j ≠ 2 → W 108 j = V 108 j)) → Ev L (d + 1) 117 20 [some (.inr (.inr 108)), some (.inr (.inr c)), some (.inl (a : Int)), some (.inl fall), some (.inr (.inl s)), none, some (.inl (k : Int)), none, none] [] W b Q
  | 0, k, W, h, hr1 => by
    obtain rfl : k = 4 := by omega
    refine Ev.blk 3 (B117_20 _ _ _ _ _ _ _ _ (by decide)) rfl ?_
    refine Ev.ite (fun _ => ?_) (fun h => absurd h (by decide))
    exact Ev.ret rfl rfl rfl rfl (hQ W hr1)
  | n + 1, k, W, h, hr1 => by
    have ih := chP_lp (L := L) (d := d) hc ha hw8 hmw hmc hr hm hcb hrb hf hs hQ n (k + 1)
    have hcK : c = 4 ∨ c = 14 ∨ c = 29 ∨ c = 44 := hc
    have e5 : W (c + 5) k = mc k := by rw [hr1.1 _ (by omega) (by omega)]; exact hmc k (by omega)
    have e6 : ∀ j, j < 4 → W (c + 6) j = mw j := fun j hj => by rw [hr1.1 _ (by omega) (by omega)]; exact hmw j hj
    have h6 := hm k (by omega)
    have hp := prc_bd (hcb k (by omega)) hf.1
    have hps := mulb hp hs
    have hcd := hcb k (by omega)
    have hv := chV_bd (fun j hj => (hrb j hj).1) (hrb a ha).2 ha hm hcb hf.1 hs.1 k (by omega)
    refine Ev.blk 3 (B117_20 _ _ _ _ _ _ _ _ ⟨by omega, by omega⟩) rfl ?_
    refine Ev.ite (fun q => absurd (of_decide_eq_true q) (by omega)) (fun _ => ?_)
    refine Ev.blk 3 (B117_26 _ _ _ _ _ _ _ _ ⟨by omega, by omega⟩) rfl ?_
    refine Ev.ite (fun q => absurd (of_decide_eq_true q) (by omega)) (fun _ => ?_)
    refine Ev.blk 2 (B117_32 _ _ _ _ _ _ _ _) rfl ?_
    refine Ev.call rfl rfl (vg rfl rfl (isK_0 hc) (congrArg Prod.fst (isK_T (L := L) hc)) rfl) (x_hasMending (d := d) hc ⟨by omega, by omega⟩ (fun j hj => by have h7 := hm j.toNat (by omega); rw [e6 j.toNat (by omega)]; exact ⟨by omega, by omega⟩)) (by omega) ?_
    rintro v V' b' ⟨rfl, rfl, rfl⟩
    rw [Int.toNat_natCast, e6 k (by omega)]
    refine Ev.blk 1 (B117_38 _ _ _ _ _ _ _ _ _ (b01_in _)) rfl ?_
    refine Ev.ite (fun q => ?_) (fun q => ?_)
    · replace q := b01_0 (of_decide_eq_true q)
      have q2 : mw k = -9 := by omega
      rw [chV_f (fun z => z.1 q2)] at ih
      refine Ev.blk 2 (B117_101 _ _ _ _ _ _ _ _) rfl ?_
      exact ih _ (by omega) hr1
    · replace q := (b01_1 (of_decide_eq_false q)).2.2
      have e7 : V' 110 (mw k).toNat = rn (mw k).toNat := by rw [hr1.1 110 (by omega) (by omega)]; exact hr _ (by omega)
      have h8 := hrb (mw k).toNat (by omega)
      have Xe : ((cond (decide (0 < (V' (c + 5) (k : Int).toNat) - fall)) ((V' (c + 5) (k : Int).toNat) - fall) 0) * s) + (V' 110 (V' (c + 6) (k : Int).toNat).toNat) = prc (mc k) fall * s + rn (mw k).toNat := by
        rw [Int.toNat_natCast, e5, e6 k (by omega), e7]
        rfl
      have Xp : (cond (decide (0 < (V' (c + 5) (k : Int).toNat) - fall)) ((V' (c + 5) (k : Int).toNat) - fall) 0) = prc (mc k) fall := by
        rw [Int.toNat_natCast, e5]
        rfl
      refine Ev.blk 27 (B117_41 _ _ _ _ _ _ _ _ hc (by omega) (by rw [Int.toNat_natCast, e5]; exact ⟨by omega, by omega⟩) (by rw [Xp]; exact ⟨by omega, by omega⟩) (by rw [Int.toNat_natCast, e6 k (by omega)]; exact ⟨by omega, by omega⟩) (by omega) (by rw [Xe]; exact ⟨by omega, by omega⟩) (by rw [Int.toNat_natCast, hr1.2.2.1]; exact ⟨by omega, by omega⟩) (cmpI_in _ _)) rfl ?_
      rw [Xe, Int.toNat_natCast, hr1.2.2.1]
      refine Ev.ite (fun q3 => ?_) (fun q3 => ?_)
      · replace q3 := (cmpI_ge _ _).mp (of_decide_eq_true q3)
        rw [chV_f (fun z => absurd z.2 (by omega))] at ih
        refine Ev.kill [false, false, false, false, false, false, false, true] ?_
        dsimp only [mkl]
        refine Ev.blk 2 (B117_101 _ _ _ _ _ _ _ _) rfl ?_
        exact ih _ (by omega) hr1
      · have q3 : prc (mc k) fall * s + rn (mw k).toNat < (chV mw mc rn fall s a k).1 := by
          have := of_decide_eq_false q3
          rw [cmpI_ge] at this
          omega
        rw [chV_t q q3] at ih
        refine Ev.blk 10 (B117_85 _ _ _ _ _ _ _ _ _ (by omega)) rfl ?_
        refine Ev.kill [false, false, false, false, false, false, false, true] ?_
        dsimp only [mkl]
        refine Ev.blk 2 (B117_101 _ _ _ _ _ _ _ _) rfl ?_
        refine ih _ (by omega) ⟨fun x n1 n2 => ?_, fun j hj => ?_, ?_, ?_, fun j hj => ?_⟩
        · rw [uV_ne n1, uV_ne n2]
          exact hr1.1 x n1 n2
        · rw [uV_ne (by omega), uV_at, Int.toNat_natCast, if_neg hj]
          exact hr1.2.1 j hj
        · rw [uV_ne (by omega), uV_at, Int.toNat_natCast, if_pos rfl]
        · rw [uV_at, if_pos rfl]
        · rw [uV_at, if_neg hj, uV_ne (by omega)]
          exact hr1.2.2.2.2 j hj
theorem x_chP {L d : Nat} {V : Mv} {b : Bool} {c a wn : Nat} {fall s : Int} {mw mc rn : Nat → Int} (hc : isK c) (ha : a < wn) (hw8 : wn ≤ 8) (hmw : ∀ j, j < 4 → V (c + 6) j = mw j) (hmc : ∀ j, j < 4 → V (c + 5) j = mc j) (hr : ∀ j, j < wn → V 110 j = rn j) (hm : ∀ j, j < 4 → mw j = -9 ∨ 0 ≤ mw j ∧ mw j < (wn : Int)) (hcb : ∀ j, j < 4 → 0 ≤ mc j ∧ mc j ≤ 99) (hrb : ∀ j, j < wn → 0 ≤ rn j ∧ rn j ≤ 3000000000000000) (hf : fall = -9 ∨ 0 ≤ fall ∧ fall ≤ 100) (hs : 0 ≤ s ∧ s ≤ 100000000) : Ex L (d + 1) 117 [.inr (.inr 108), .inr (.inr c), .inl (a : Int), .inl fall, .inr (.inl s)] V b (fun v V' b' => v = none ∧ b' = b ∧ (∀ x, x ≠ 108 → x ≠ 109 → V' x = V x) ∧ (∀ j, j ≠ a → V' 109 j = V 109 j) ∧ V' 109 a = (chW mw mc rn fall s a).1 ∧ V' 108 2 = (chW mw mc rn fall s a).2 ∧ (∀ j, j ≠ 2 → V' 108 j = V 108 j)) := by
  refine Ev.blk 13 (B117_0 _ _ _ _ _ _ _ (by omega)) rfl ?_
  have s0 : ∀ x, x ≠ 108 → x ≠ 109 → uV (uV V 108 2 0) 109 (a : Int).toNat ((uV V 108 2 0) 110 (a : Int).toNat) x = V x := fun x n1 n2 => by rw [uV_ne n2, uV_ne n1]
  have s1 : ∀ j, j ≠ a → uV (uV V 108 2 0) 109 (a : Int).toNat ((uV V 108 2 0) 110 (a : Int).toNat) 109 j = V 109 j := fun j hj => by rw [uV_at, Int.toNat_natCast, if_neg hj, uV_ne (by omega)]
  have s2 : uV (uV V 108 2 0) 109 (a : Int).toNat ((uV V 108 2 0) 110 (a : Int).toNat) 109 a = rn a := by rw [uV_at, Int.toNat_natCast, if_pos rfl, uV_ne (by omega)]; exact hr a ha
  have s3 : uV (uV V 108 2 0) 109 (a : Int).toNat ((uV V 108 2 0) 110 (a : Int).toNat) 108 2 = 0 := by rw [uV_ne (by omega), uV_at, if_pos rfl]
  have s4 : ∀ j, j ≠ 2 → uV (uV V 108 2 0) 109 (a : Int).toNat ((uV V 108 2 0) 110 (a : Int).toNat) 108 j = V 108 j := fun j hj => by rw [uV_ne (by omega), uV_at, if_neg hj]
  by_cases q : fall = -9
  · refine Ev.blk 3 (B117_20 _ _ _ _ _ _ _ _ (by decide)) rfl ?_
    refine Ev.ite (fun h => absurd h (by decide)) (fun _ => ?_)
    refine Ev.blk 3 (B117_26 _ _ _ _ _ _ _ _ ⟨by omega, by omega⟩) rfl ?_
    refine Ev.ite (fun _ => ?_) (fun z => absurd q (of_decide_eq_false z))
    refine Ev.ret rfl rfl rfl rfl ⟨rfl, rfl, s0, s1, ?_, ?_, s4⟩
    · unfold chW
      rw [if_pos q]
      exact s2
    · unfold chW
      rw [if_pos q]
      exact s3
  · have e : chW mw mc rn fall s a = chV mw mc rn fall s a 4 := if_neg q
    have hcK : c = 4 ∨ c = 14 ∨ c = 29 ∨ c = 44 := hc
    rw [e]
    refine chP_lp (V := uV (uV V 108 2 0) 109 (a : Int).toNat ((uV V 108 2 0) 110 (a : Int).toNat)) (mw := mw) (mc := mc) (rn := rn) hc ha hw8 (fun j hj => by rw [s0 _ (by omega) (by omega)]; exact hmw j hj) (fun j hj => by rw [s0 _ (by omega) (by omega)]; exact hmc j hj) (fun j hj => by rw [s0 _ (by omega) (by omega)]; exact hr j hj) hm hcb hrb (by omega) hs (fun W hr1 => ?_) 4 0 _ rfl ⟨fun _ _ _ => rfl, fun _ _ => rfl, s2, s3, fun _ _ => rfl⟩
    exact ⟨rfl, rfl, fun x n1 n2 => by rw [hr1.1 x n1 n2, s0 x n1 n2], fun j hj => by rw [hr1.2.1 j hj, s1 j hj], hr1.2.2.1, hr1.2.2.2.1, fun j hj => by rw [hr1.2.2.2.2 j hj, s4 j hj]⟩
