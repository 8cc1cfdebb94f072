/-! the 38 calls, 2 (by program, specs3.py) -/
def rWeight (V : Mv) (m a : Int) : Int := if ((0 ≤ m ∧ m ≤ 2) ∧ 0 ≤ a ∧ a ≤ V 121 m.toNat - 1) then V 130 (8 * m + a).toNat else -1
theorem x_weightR {L d : Nat} {V : Mv} {b : Bool} {m a : Int} (hB : BdR V) (hm : in32 m) (ha : in32 a) : Ex L (d + 3) 165 [.inr (.inr 120), .inl m, .inl a] V b (Ans (some (.inr (.inl (rWeight V m a)))) V b) := by
  refine Ev.blk 3 (B165_0 _ _ _ _ _) rfl ?_
  refine Ev.call rfl rfl (rfl) (x_isWearR (d := d) hB hm ha) (by omega) ?_
  rintro v V' b' ⟨rfl, rfl, rfl⟩
  refine Ev.blk 1 (B165_6 _ _ _ _ _ _ (by first | assumption | omega | exact b01_in _ | (have := hB.w8 (i := m) (by omega); omega) | (have := hB.w8 (i := m) (by omega); exact ⟨by omega, by omega⟩))) rfl ?_
  refine Ev.ite (fun q => ?_) (fun q => ?_)
  · replace q := of_decide_eq_true q
    replace q := b01_0 q
    refine Ev.blk 1 (B165_23 _ _ _ _ _) rfl ?_
    refine Ev.ret rfl rfl rfl (by first | rfl | exact decide_eq_true (b01_or _)) ?_
    refine ⟨?_, rfl, rfl⟩
    congr 3
    unfold rWeight
    repeat (first | rw [if_pos (by omega)] | rw [if_neg (by omega)])
  · replace q := of_decide_eq_false q
    replace q := b01_1 q
    refine Ev.blk 9 (B165_9 _ _ _ _ _ (by first | assumption | omega | exact b01_in _ | (have := hB.w8 (i := m) (by omega); omega) | (have := hB.w8 (i := m) (by omega); exact ⟨by omega, by omega⟩))) rfl ?_
    refine Ev.ret rfl rfl rfl (by first | rfl | exact decide_eq_true (b01_or _)) ?_
    refine ⟨?_, rfl, rfl⟩
    congr 3
    unfold rWeight
    repeat (first | rw [if_pos (by omega)] | rw [if_neg (by omega)])

def cWorn (V : Mv) (m a w : Int) : Int := if ((0 ≤ m ∧ m < 3) ∧ 0 ≤ a ∧ a < V (14 + 15 * m.toNat) 0) then (if w = 0 then V (14 + 15 * m.toNat + 3) a.toNat else if w = 1 then V (14 + 15 * m.toNat + 4) a.toNat else if w = 2 then V (14 + 15 * m.toNat + 2) a.toNat else -2) else -1
theorem x_wornC {L d : Nat} {V : Mv} {b : Bool} {m a w : Int} (hB : BdC V) (hm : in32 m) (ha : in32 a) (hw : in32 w) : Ex L (d + 2) 8 [.inr (.inr 1), .inl m, .inl a, .inl w] V b (Ans (some (.inl (cWorn V m a w))) V b) := by
  refine Ev.blk 3 (B8_0 _ _ _ _ _ _) rfl ?_
  refine Ev.call rfl rfl (rfl) (x_isWearC (d := d) hm ha (fun i hi => hB.w hi)) (by omega) ?_
  rintro v V' b' ⟨rfl, rfl, rfl⟩
  refine Ev.blk 1 (B8_6 _ _ _ _ _ _ _ (by first | assumption | omega | exact b01_in _ | (have := hB.w8 (i := m) (by omega); omega) | (have := hB.w8 (i := m) (by omega); exact ⟨by omega, by omega⟩))) rfl ?_
  refine Ev.ite (fun q => ?_) (fun q => ?_)
  · replace q := nd_t q
    replace q := b01_1 q
    refine Ev.blk 2 (S8_11 _ _ _ _ _ _ (by first | assumption | omega | exact b01_in _ | (have := hB.w8 (i := m) (by omega); omega) | (have := hB.w8 (i := m) (by omega); exact ⟨by omega, by omega⟩))) rfl ?_
    split
    · skip
      refine Ev.blk 7 (B8_40 _ _ _ _ _ _ (by first | assumption | omega | exact b01_in _ | (have := hB.w8 (i := m) (by omega); omega) | (have := hB.w8 (i := m) (by omega); exact ⟨by omega, by omega⟩)) (by first | assumption | omega | exact b01_in _ | (have := hB.w8 (i := m) (by omega); omega) | (have := hB.w8 (i := m) (by omega); exact ⟨by omega, by omega⟩))) rfl ?_
      refine Ev.ret rfl rfl rfl (by first | rfl | exact decide_eq_true (b01_or _)) ?_
      refine ⟨?_, rfl, rfl⟩
      congr 2
      unfold cWorn
      repeat (first | rw [if_pos (by omega)] | rw [if_neg (by omega)])
    · skip
      split
      · skip
        refine Ev.blk 7 (B8_52 _ _ _ _ _ _ (by first | assumption | omega | exact b01_in _ | (have := hB.w8 (i := m) (by omega); omega) | (have := hB.w8 (i := m) (by omega); exact ⟨by omega, by omega⟩)) (by first | assumption | omega | exact b01_in _ | (have := hB.w8 (i := m) (by omega); omega) | (have := hB.w8 (i := m) (by omega); exact ⟨by omega, by omega⟩))) rfl ?_
        refine Ev.ret rfl rfl rfl (by first | rfl | exact decide_eq_true (b01_or _)) ?_
        refine ⟨?_, rfl, rfl⟩
        congr 2
        unfold cWorn
        repeat (first | rw [if_pos (by omega)] | rw [if_neg (by omega)])
      · skip
        split
        · skip
          refine Ev.blk 7 (B8_64 _ _ _ _ _ _ (by first | assumption | omega | exact b01_in _ | (have := hB.w8 (i := m) (by omega); omega) | (have := hB.w8 (i := m) (by omega); exact ⟨by omega, by omega⟩)) (by first | assumption | omega | exact b01_in _ | (have := hB.w8 (i := m) (by omega); omega) | (have := hB.w8 (i := m) (by omega); exact ⟨by omega, by omega⟩))) rfl ?_
          refine Ev.ret rfl rfl rfl (by first | rfl | exact decide_eq_true (b01_or _)) ?_
          refine ⟨?_, rfl, rfl⟩
          congr 2
          unfold cWorn
          repeat (first | rw [if_pos (by omega)] | rw [if_neg (by omega)])
        · skip
          refine Ev.blk 1 (B8_76 _ _ _ _ _ _) rfl ?_
          refine Ev.ret rfl rfl rfl (by first | rfl | exact decide_eq_true (b01_or _)) ?_
          refine ⟨?_, rfl, rfl⟩
          congr 2
          unfold cWorn
          repeat (first | rw [if_pos (by omega)] | rw [if_neg (by omega)])
  · replace q := nd_f q
    replace q := b01_0 q
    refine Ev.blk 1 (B8_9 _ _ _ _ _ _) rfl ?_
    refine Ev.ret rfl rfl rfl (by first | rfl | exact decide_eq_true (b01_or _)) ?_
    refine ⟨?_, rfl, rfl⟩
    congr 2
    unfold cWorn
    repeat (first | rw [if_pos (by omega)] | rw [if_neg (by omega)])

def rWorn (V : Mv) (m a w : Int) : Int := if ((0 ≤ m ∧ m ≤ 2) ∧ 0 ≤ a ∧ a ≤ V 121 m.toNat - 1) then (if w = 0 then V 124 (8 * m + a).toNat else if w = 1 then V 125 (8 * m + a).toNat else if w = 2 then rLv V m a else -2) else -1
theorem x_wornR {L d : Nat} {V : Mv} {b : Bool} {m a w : Int} (hB : BdR V) (hm : in32 m) (ha : in32 a) (hw : in32 w) : Ex L (d + 3) 148 [.inr (.inr 120), .inl m, .inl a, .inl w] V b (Ans (some (.inl (rWorn V m a w))) V b) := by
  refine Ev.blk 3 (B148_0 _ _ _ _ _ _) rfl ?_
  refine Ev.call rfl rfl (rfl) (x_isWearR (d := d) hB hm ha) (by omega) ?_
  rintro v V' b' ⟨rfl, rfl, rfl⟩
  refine Ev.blk 1 (B148_6 _ _ _ _ _ _ _ (by first | assumption | omega | exact b01_in _ | (have := hB.w8 (i := m) (by omega); omega) | (have := hB.w8 (i := m) (by omega); exact ⟨by omega, by omega⟩))) rfl ?_
  refine Ev.ite (fun q => ?_) (fun q => ?_)
  · replace q := nd_t q
    replace q := b01_1 q
    refine Ev.blk 2 (B148_11 _ _ _ _ _ _ (by first | assumption | omega | exact b01_in _ | (have := hB.w8 (i := m) (by omega); omega) | (have := hB.w8 (i := m) (by omega); exact ⟨by omega, by omega⟩))) rfl ?_
    refine Ev.ite (fun q => ?_) (fun q => ?_)
    · replace q := nd_t q
      refine Ev.blk 3 (B148_29 _ _ _ _ _ _ (by first | assumption | omega | exact b01_in _ | (have := hB.w8 (i := m) (by omega); omega) | (have := hB.w8 (i := m) (by omega); exact ⟨by omega, by omega⟩))) rfl ?_
      refine Ev.ite (fun q => ?_) (fun q => ?_)
      · replace q := nd_t q
        refine Ev.blk 3 (B148_48 _ _ _ _ _ _ (by first | assumption | omega | exact b01_in _ | (have := hB.w8 (i := m) (by omega); omega) | (have := hB.w8 (i := m) (by omega); exact ⟨by omega, by omega⟩))) rfl ?_
        refine Ev.ite (fun q => ?_) (fun q => ?_)
        · replace q := nd_t q
          refine Ev.blk 1 (B148_62 _ _ _ _ _ _) rfl ?_
          refine Ev.ret rfl rfl rfl (by first | rfl | exact decide_eq_true (b01_or _)) ?_
          refine ⟨?_, rfl, rfl⟩
          congr 2
          unfold rWorn
          repeat (first | rw [if_pos (by omega)] | rw [if_neg (by omega)])
        · replace q := nd_f q
          refine Ev.blk 3 (B148_53 _ _ _ _ _ _) rfl ?_
          refine Ev.call rfl rfl (rfl) (x_leaves (d := d) (by omega) (by have := hB.w8 (i := m) (by omega); omega)) (by omega) ?_
          rintro v V' b' ⟨rfl, rfl, rfl⟩
          refine Ev.blk 1 (B148_59 _ _ _ _ _ _ _) rfl ?_
          refine Ev.ret rfl rfl rfl (by first | rfl | exact decide_eq_true (b01_or _)) ?_
          refine ⟨?_, rfl, rfl⟩
          congr 2
          unfold rWorn
          repeat (first | rw [if_pos (by omega)] | rw [if_neg (by omega)])
      · replace q := nd_f q
        refine Ev.blk 9 (B148_34 _ _ _ _ _ _ (by first | assumption | omega | exact b01_in _ | (have := hB.w8 (i := m) (by omega); omega) | (have := hB.w8 (i := m) (by omega); exact ⟨by omega, by omega⟩))) rfl ?_
        refine Ev.ret rfl rfl rfl (by first | rfl | exact decide_eq_true (b01_or _)) ?_
        refine ⟨?_, rfl, rfl⟩
        congr 2
        unfold rWorn
        repeat (first | rw [if_pos (by omega)] | rw [if_neg (by omega)])
    · replace q := nd_f q
      refine Ev.blk 9 (B148_15 _ _ _ _ _ _ (by first | assumption | omega | exact b01_in _ | (have := hB.w8 (i := m) (by omega); omega) | (have := hB.w8 (i := m) (by omega); exact ⟨by omega, by omega⟩))) rfl ?_
      refine Ev.ret rfl rfl rfl (by first | rfl | exact decide_eq_true (b01_or _)) ?_
      refine ⟨?_, rfl, rfl⟩
      congr 2
      unfold rWorn
      repeat (first | rw [if_pos (by omega)] | rw [if_neg (by omega)])
  · replace q := nd_f q
    replace q := b01_0 q
    refine Ev.blk 1 (B148_9 _ _ _ _ _ _) rfl ?_
    refine Ev.ret rfl rfl rfl (by first | rfl | exact decide_eq_true (b01_or _)) ?_
    refine ⟨?_, rfl, rfl⟩
    congr 2
    unfold rWorn
    repeat (first | rw [if_pos (by omega)] | rw [if_neg (by omega)])

def cMending (V : Mv) (m a w : Int) : Int := if ((0 ≤ m ∧ m < 3) ∧ 0 ≤ a ∧ a < 4 ∧ ¬ V (14 + 15 * m.toNat + 6) a.toNat = -9) then (if w = 0 then V (14 + 15 * m.toNat + 5) a.toNat else if w = 1 then V (14 + 15 * m.toNat + 6) a.toNat else -2) else -1
theorem x_mendingC {L d : Nat} {V : Mv} {b : Bool} {m a w : Int} (hB : BdC V) (hm : in32 m) (ha : in32 a) (hw : in32 w) : Ex L (d + 2) 11 [.inr (.inr 1), .inl m, .inl a, .inl w] V b (Ans (some (.inl (cMending V m a w))) V b) := by
  refine Ev.blk 3 (B11_0 _ _ _ _ _ _) rfl ?_
  refine Ev.call rfl rfl (rfl) (x_isMendingC (d := d) hB hm ha) (by omega) ?_
  rintro v V' b' ⟨rfl, rfl, rfl⟩
  refine Ev.blk 1 (B11_6 _ _ _ _ _ _ _ (by first | assumption | omega | exact b01_in _ | (have := hB.w8 (i := m) (by omega); omega) | (have := hB.w8 (i := m) (by omega); exact ⟨by omega, by omega⟩))) rfl ?_
  refine Ev.ite (fun q => ?_) (fun q => ?_)
  · replace q := nd_t q
    replace q := b01_1 q
    refine Ev.blk 2 (S11_11 _ _ _ _ _ _ (by first | assumption | omega | exact b01_in _ | (have := hB.w8 (i := m) (by omega); omega) | (have := hB.w8 (i := m) (by omega); exact ⟨by omega, by omega⟩))) rfl ?_
    split
    · skip
      refine Ev.blk 7 (B11_40 _ _ _ _ _ _ (by first | assumption | omega | exact b01_in _ | (have := hB.w8 (i := m) (by omega); omega) | (have := hB.w8 (i := m) (by omega); exact ⟨by omega, by omega⟩)) (by first | assumption | omega | exact b01_in _ | (have := hB.w8 (i := m) (by omega); omega) | (have := hB.w8 (i := m) (by omega); exact ⟨by omega, by omega⟩))) rfl ?_
      refine Ev.ret rfl rfl rfl (by first | rfl | exact decide_eq_true (b01_or _)) ?_
      refine ⟨?_, rfl, rfl⟩
      congr 2
      unfold cMending
      repeat (first | rw [if_pos (by omega)] | rw [if_neg (by omega)])
    · skip
      split
      · skip
        refine Ev.blk 7 (B11_52 _ _ _ _ _ _ (by first | assumption | omega | exact b01_in _ | (have := hB.w8 (i := m) (by omega); omega) | (have := hB.w8 (i := m) (by omega); exact ⟨by omega, by omega⟩)) (by first | assumption | omega | exact b01_in _ | (have := hB.w8 (i := m) (by omega); omega) | (have := hB.w8 (i := m) (by omega); exact ⟨by omega, by omega⟩))) rfl ?_
        refine Ev.ret rfl rfl rfl (by first | rfl | exact decide_eq_true (b01_or _)) ?_
        refine ⟨?_, rfl, rfl⟩
        congr 2
        unfold cMending
        repeat (first | rw [if_pos (by omega)] | rw [if_neg (by omega)])
      · skip
        refine Ev.blk 1 (B11_64 _ _ _ _ _ _) rfl ?_
        refine Ev.ret rfl rfl rfl (by first | rfl | exact decide_eq_true (b01_or _)) ?_
        refine ⟨?_, rfl, rfl⟩
        congr 2
        unfold cMending
        repeat (first | rw [if_pos (by omega)] | rw [if_neg (by omega)])
  · replace q := nd_f q
    replace q := b01_0 q
    refine Ev.blk 1 (B11_9 _ _ _ _ _ _) rfl ?_
    refine Ev.ret rfl rfl rfl (by first | rfl | exact decide_eq_true (b01_or _)) ?_
    refine ⟨?_, rfl, rfl⟩
    congr 2
    unfold cMending
    repeat (first | rw [if_pos (by omega)] | rw [if_neg (by omega)])

def rMending (V : Mv) (m a w : Int) : Int := if ((0 ≤ m ∧ m ≤ 2) ∧ (0 ≤ a ∧ a ≤ 3) ∧ ¬ V 126 (4 * m + a).toNat = -9) then (if w = 0 then V 127 (4 * m + a).toNat else if w = 1 then V 126 (4 * m + a).toNat else -2) else -1
theorem x_mendingR {L d : Nat} {V : Mv} {b : Bool} {m a w : Int} (hB : BdR V) (hm : in32 m) (ha : in32 a) (hw : in32 w) : Ex L (d + 3) 152 [.inr (.inr 120), .inl m, .inl a, .inl w] V b (Ans (some (.inl (rMending V m a w))) V b) := by
  refine Ev.blk 3 (B152_0 _ _ _ _ _ _) rfl ?_
  refine Ev.call rfl rfl (rfl) (x_isMendingR (d := d) hB hm ha) (by omega) ?_
  rintro v V' b' ⟨rfl, rfl, rfl⟩
  refine Ev.blk 1 (B152_6 _ _ _ _ _ _ _ (by first | assumption | omega | exact b01_in _ | (have := hB.w8 (i := m) (by omega); omega) | (have := hB.w8 (i := m) (by omega); exact ⟨by omega, by omega⟩))) rfl ?_
  refine Ev.ite (fun q => ?_) (fun q => ?_)
  · replace q := nd_t q
    replace q := b01_1 q
    refine Ev.blk 2 (B152_11 _ _ _ _ _ _ (by first | assumption | omega | exact b01_in _ | (have := hB.w8 (i := m) (by omega); omega) | (have := hB.w8 (i := m) (by omega); exact ⟨by omega, by omega⟩))) rfl ?_
    refine Ev.ite (fun q => ?_) (fun q => ?_)
    · replace q := nd_t q
      refine Ev.blk 3 (B152_28 _ _ _ _ _ _ (by first | assumption | omega | exact b01_in _ | (have := hB.w8 (i := m) (by omega); omega) | (have := hB.w8 (i := m) (by omega); exact ⟨by omega, by omega⟩))) rfl ?_
      refine Ev.ite (fun q => ?_) (fun q => ?_)
      · replace q := nd_t q
        refine Ev.blk 1 (B152_46 _ _ _ _ _ _) rfl ?_
        refine Ev.ret rfl rfl rfl (by first | rfl | exact decide_eq_true (b01_or _)) ?_
        refine ⟨?_, rfl, rfl⟩
        congr 2
        unfold rMending
        repeat (first | rw [if_pos (by omega)] | rw [if_neg (by omega)])
      · replace q := nd_f q
        refine Ev.blk 9 (B152_33 _ _ _ _ _ _ (by first | assumption | omega | exact b01_in _ | (have := hB.w8 (i := m) (by omega); omega) | (have := hB.w8 (i := m) (by omega); exact ⟨by omega, by omega⟩))) rfl ?_
        refine Ev.ret rfl rfl rfl (by first | rfl | exact decide_eq_true (b01_or _)) ?_
        refine ⟨?_, rfl, rfl⟩
        congr 2
        unfold rMending
        repeat (first | rw [if_pos (by omega)] | rw [if_neg (by omega)])
    · replace q := nd_f q
      refine Ev.blk 9 (B152_15 _ _ _ _ _ _ (by first | assumption | omega | exact b01_in _ | (have := hB.w8 (i := m) (by omega); omega) | (have := hB.w8 (i := m) (by omega); exact ⟨by omega, by omega⟩))) rfl ?_
      refine Ev.ret rfl rfl rfl (by first | rfl | exact decide_eq_true (b01_or _)) ?_
      refine ⟨?_, rfl, rfl⟩
      congr 2
      unfold rMending
      repeat (first | rw [if_pos (by omega)] | rw [if_neg (by omega)])
  · replace q := nd_f q
    replace q := b01_0 q
    refine Ev.blk 1 (B152_9 _ _ _ _ _ _) rfl ?_
    refine Ev.ret rfl rfl rfl (by first | rfl | exact decide_eq_true (b01_or _)) ?_
    refine ⟨?_, rfl, rfl⟩
    congr 2
    unfold rMending
    repeat (first | rw [if_pos (by omega)] | rw [if_neg (by omega)])

theorem op_weight (a0 a1 : Int) (h0 : in32 a0) (h1 : in32 a1) : OpJ 18 165 [.inl a0, .inl a1] := by
  refine opJ_ro (fun L N V b hI => ?_)
  have e : in64 (rWeight V a0 a1) ∧ rWeight V a0 a1 = cWeight V a0 a1 := by
    unfold rWeight cWeight
    by_cases q : 0 ≤ a0 ∧ a0 < 3
    · obtain ⟨i, rfl⟩ : ∃ k : Nat, a0 = (k : Int) := ⟨a0.toNat, by omega⟩
      have hk := hI.1.kd i (by omega)
      have e1 := hk.w8
      have e2 := hk.w
      rw [Int.toNat_natCast]
      by_cases q2 : 0 ≤ a1 ∧ a1 < V 121 i
      · obtain ⟨a, rfl⟩ : ∃ k : Nat, a1 = (k : Int) := ⟨a1.toNat, by omega⟩
        rw [Int.toNat_natCast]
        have c1 : (0 ≤ (i : Int) ∧ (i : Int) ≤ 2) ∧ 0 ≤ (a : Int) ∧ (a : Int) ≤ V 121 i - 1 := by omega
        have c2 : (0 ≤ (i : Int) ∧ (i : Int) < 3) ∧ 0 ≤ (a : Int) ∧ (a : Int) < V (14 + 15 * i) 0 := by omega
        rw [if_pos c1, if_pos c2]
        rw [show (8 * (i : Int) + (a : Int)).toNat = 8 * i + a by omega]
        have t1 := hI.1.th i a (by omega) (by omega)
        have t2 : 0 ≤ V 130 (8 * i + a) ∧ V 130 (8 * i + a) ≤ 1000000000000000 := (hI.1.tv i (by omega)).b a (by omega)
        rw [show 21 + 15 * i + 1 = 22 + 15 * i by omega]
        exact ⟨⟨by omega, by omega⟩, t1.symm⟩
      · rw [if_neg (by omega), if_neg (by omega)]
        exact ⟨by decide, rfl⟩
    · rw [if_neg (by omega), if_neg (by omega)]
      exact ⟨by decide, rfl⟩
  exact ⟨_, e.1, e.2 ▸ x_weightC (d := 27) hI.1.bdC h0 h1, x_weightR (d := 26) hI.1.bdR h0 h1⟩
theorem op_worn (a0 a1 a2 : Int) (h0 : in32 a0) (h1 : in32 a1) (h2 : in32 a2) : OpI 8 148 [.inl a0, .inl a1, .inl a2] := by
  refine opI_ro (fun L N V b hI => ?_)
  have e : in32 (rWorn V a0 a1 a2) ∧ rWorn V a0 a1 a2 = cWorn V a0 a1 a2 := by
    unfold rWorn cWorn
    by_cases q : 0 ≤ a0 ∧ a0 < 3
    · obtain ⟨i, rfl⟩ : ∃ k : Nat, a0 = (k : Int) := ⟨a0.toNat, by omega⟩
      have hk := hI.1.kd i (by omega)
      have e1 := hk.w8
      have e2 := hk.w
      rw [Int.toNat_natCast]
      by_cases q2 : 0 ≤ a1 ∧ a1 < V 121 i
      · obtain ⟨a, rfl⟩ : ∃ k : Nat, a1 = (k : Int) := ⟨a1.toNat, by omega⟩
        rw [Int.toNat_natCast]
        have c1 : (0 ≤ (i : Int) ∧ (i : Int) ≤ 2) ∧ 0 ≤ (a : Int) ∧ (a : Int) ≤ V 121 i - 1 := by omega
        have c2 : (0 ≤ (i : Int) ∧ (i : Int) < 3) ∧ 0 ≤ (a : Int) ∧ (a : Int) < V (14 + 15 * i) 0 := by omega
        rw [if_pos c1, if_pos c2]
        rw [show (8 * (i : Int) + (a : Int)).toNat = 8 * i + a by omega]
        have t1 := hk.co a (by omega)
        have t2 := hk.kn a (by omega)
        have t3 := hk.lv a (by omega)
        have t4 := hk.lv10 a (by omega)
        have t5 := rLv_nn hk (a := a) (by omega)
        by_cases w0 : a2 = 0
        · rw [if_pos w0, if_pos w0]
          exact ⟨⟨by omega, by omega⟩, t1.1.symm⟩
        · rw [if_neg w0, if_neg w0]
          by_cases w1 : a2 = 1
          · rw [if_pos w1, if_pos w1]
            exact ⟨⟨by omega, by omega⟩, t2.1.symm⟩
          · rw [if_neg w1, if_neg w1]
            by_cases w2 : a2 = 2
            · rw [if_pos w2, if_pos w2]
              exact ⟨⟨by omega, by omega⟩, t3.symm⟩
            · rw [if_neg w2, if_neg w2]
              exact ⟨by decide, rfl⟩
      · rw [if_neg (by omega), if_neg (by omega)]
        exact ⟨by decide, rfl⟩
    · rw [if_neg (by omega), if_neg (by omega)]
      exact ⟨by decide, rfl⟩
  exact ⟨_, e.1, e.2 ▸ x_wornC (d := 27) hI.1.bdC h0 h1 h2, x_wornR (d := 26) hI.1.bdR h0 h1 h2⟩
theorem op_mending (a0 a1 a2 : Int) (h0 : in32 a0) (h1 : in32 a1) (h2 : in32 a2) : OpI 11 152 [.inl a0, .inl a1, .inl a2] := by
  refine opI_ro (fun L N V b hI => ?_)
  have e : in32 (rMending V a0 a1 a2) ∧ rMending V a0 a1 a2 = cMending V a0 a1 a2 := by
    unfold rMending cMending
    by_cases q : 0 ≤ a0 ∧ a0 < 3
    · obtain ⟨i, rfl⟩ : ∃ k : Nat, a0 = (k : Int) := ⟨a0.toNat, by omega⟩
      have hk := hI.1.kd i (by omega)
      have e1 := hk.w8
      have e2 := hk.w
      rw [Int.toNat_natCast]
      by_cases q2 : 0 ≤ a1 ∧ a1 < 4
      · obtain ⟨a, rfl⟩ : ∃ k : Nat, a1 = (k : Int) := ⟨a1.toNat, by omega⟩
        rw [Int.toNat_natCast]
        have t0 := hk.mw a (by omega)
        have t1 := hk.mc a (by omega)
        rw [show (4 * (i : Int) + (a : Int)).toNat = 4 * i + a by omega]
        rw [t0.1]
        by_cases q3 : V 126 (4 * i + a) = -9
        · rw [if_neg (by omega), if_neg (by omega)]
          exact ⟨by decide, rfl⟩
        · have c1 : (0 ≤ (i : Int) ∧ (i : Int) ≤ 2) ∧ (0 ≤ (a : Int) ∧ (a : Int) ≤ 3) ∧ ¬ V 126 (4 * i + a) = -9 := by omega
          have c2 : (0 ≤ (i : Int) ∧ (i : Int) < 3) ∧ 0 ≤ (a : Int) ∧ (a : Int) < 4 ∧ ¬ V 126 (4 * i + a) = -9 := by omega
          rw [if_pos c1, if_pos c2]
          by_cases w0 : a2 = 0
          · rw [if_pos w0, if_pos w0]
            exact ⟨⟨by omega, by omega⟩, t1.1.symm⟩
          · rw [if_neg w0, if_neg w0]
            by_cases w1 : a2 = 1
            · rw [if_pos w1]
              exact ⟨⟨by omega, by omega⟩, rfl⟩
            · rw [if_neg w1]
              exact ⟨by decide, rfl⟩
      · rw [if_neg (by omega), if_neg (by omega)]
        exact ⟨by decide, rfl⟩
    · rw [if_neg (by omega), if_neg (by omega)]
      exact ⟨by decide, rfl⟩
  exact ⟨_, e.1, e.2 ▸ x_mendingC (d := 27) hI.1.bdC h0 h1 h2, x_mendingR (d := 26) hI.1.bdR h0 h1 h2⟩
