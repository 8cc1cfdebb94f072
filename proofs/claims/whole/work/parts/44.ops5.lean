/-! the 38 calls, 5 (by program, specs6.py) -/
/-- the bits of the mendings that are there -/
def mb (f : Nat → Int) : Nat → Int
  | 0 => 0
  | k + 1 => oOr (mb f k) (if f k = -9 then 0 else oShl 1 (k : Int))
theorem mb_in (f : Nat → Int) (k : Nat) : in32 (mb f (k + 1)) := ⟨Int32.le_toInt _, Int32.toInt_lt _⟩
theorem mb_congr {f g : Nat → Int} : ∀ k, (∀ j, j < k → f j = g j) → mb f k = mb g k
  | 0, _ => rfl
  | k + 1, h => by
    show oOr (mb f k) (if f k = -9 then 0 else oShl 1 (k : Int)) = oOr (mb g k) (if g k = -9 then 0 else oShl 1 (k : Int))
    rw [mb_congr k (fun j hj => h j (by omega)), h k (by omega)]
theorem bitsC_lp {L d : Nat} {V : Mv} {b : Bool} {a : Nat} {Q : Option AV → Mv → Bool → Prop} (ha : isK a) (hk : ∀ j : Int, 0 ≤ j ∧ j < 4 → in32 (V (a + 6) j.toNat)) (hQ : Q (some (.inl (mb (V (a + 6)) 4))) V b) : ∀ n k : Nat, k + n = 4 → Ev L (d + 1) 71 4 [some (.inr (.inr a)), some (.inl (mb (V (a + 6)) k)), some (.inl (k : Int))] [] V b Q
  | 0, k, h => by
    obtain rfl : k = 4 := by omega
    refine Ev.blk 3 (B71_4 _ _ _ _ _ _ (by decide)) rfl ?_
    refine Ev.ite (fun _ => ?_) (fun h => absurd h (by decide))
    refine Ev.blk 1 (B71_33 _ _ _ _ _ _) rfl ?_
    exact Ev.ret rfl rfl rfl rfl hQ
  | n + 1, k, h => by
    have ih := bitsC_lp (L := L) (d := d) ha hk hQ n (k + 1) (by omega)
    refine Ev.blk 3 (B71_4 _ _ _ _ _ _ ⟨by omega, by omega⟩) rfl ?_
    refine Ev.ite (fun q => ?_) (fun _ => ?_)
    · have := of_decide_eq_true q
      omega
    · refine Ev.blk 3 (B71_9 _ _ _ _ _ _) rfl ?_
      refine Ev.call rfl rfl (vg rfl rfl (isK_0 ha) (congrArg Prod.fst (isK_T ha)) rfl) (x_hasMending (d := d) ha (show in32 (k : Int) from ⟨by omega, by omega⟩) hk) (by omega) ?_
      rintro v V' b' ⟨rfl, rfl, rfl⟩
      refine Ev.blk 1 (B71_15 _ _ _ _ _ _ _ _ (b01_in _)) rfl ?_
      refine Ev.ite (fun q => ?_) (fun q => ?_)
      · replace q := b01_0 (of_decide_eq_true q)
        rw [Int.toNat_natCast] at q
        have e : mb (V' (a + 6)) (k + 1) = oOr (mb (V' (a + 6)) k) 0 := by
          show oOr _ (if V' (a + 6) k = -9 then 0 else oShl 1 (k : Int)) = _
          rw [if_pos (by omega)]
        rw [e] at ih
        refine Ev.blk 1 (B71_24 _ _ _ _ _ _ _) rfl ?_
        refine Ev.blk 4 (B71_25 _ _ _ _ _ _ _ _) rfl ?_
        exact ih
      · replace q := b01_1 (of_decide_eq_false q)
        rw [Int.toNat_natCast] at q
        have e : mb (V' (a + 6)) (k + 1) = oOr (mb (V' (a + 6)) k) (oShl 1 (k : Int)) := by
          show oOr _ (if V' (a + 6) k = -9 then 0 else oShl 1 (k : Int)) = _
          rw [if_neg (by omega)]
        rw [e] at ih
        refine Ev.blk 4 (B71_18 _ _ _ _ _ _ _) rfl ?_
        refine Ev.blk 4 (B71_25 _ _ _ _ _ _ _ _) rfl ?_
        exact ih
theorem x_bitsC {L d : Nat} {V : Mv} {b : Bool} {a : Nat} (ha : isK a) (hk : ∀ j : Int, 0 ≤ j ∧ j < 4 → in32 (V (a + 6) j.toNat)) : Ex L (d + 1) 71 [.inr (.inr a)] V b (Ans (some (.inl (mb (V (a + 6)) 4))) V b) := by
  refine Ev.blk 4 (B71_0 _ _ _ _) rfl ?_
  exact bitsC_lp ha hk ⟨rfl, rfl, rfl⟩ 4 0 rfl
theorem bitsR_lp {L d : Nat} {V : Mv} {b : Bool} {m : Nat} {Q : Option AV → Mv → Bool → Prop} (hm : m < 4) (hk : ∀ j : Nat, j < 4 → in32 (V 126 (4 * m + j))) (hQ : Q (some (.inl (mb (fun j => V 126 (4 * m + j)) 4))) V b) : ∀ n k : Nat, k + n = 4 → Ev L d 147 4 [some (.inr (.inr 120)), some (.inl (m : Int)), some (.inl (mb (fun j => V 126 (4 * m + j)) k)), some (.inl (k : Int))] [] V b Q
  | 0, k, h => by
    obtain rfl : k = 4 := by omega
    refine Ev.blk 3 (B147_4 _ _ _ _ _ _ (by decide)) rfl ?_
    refine Ev.ite (fun _ => ?_) (fun h => absurd h (by decide))
    refine Ev.blk 1 (B147_40 _ _ _ _ _ _) rfl ?_
    exact Ev.ret rfl rfl rfl rfl hQ
  | n + 1, k, h => by
    have ih := bitsR_lp (L := L) (d := d) hm hk hQ n (k + 1) (by omega)
    have e0 : (4 * (m : Int) + (k : Int)).toNat = 4 * m + k := by omega
    refine Ev.blk 3 (B147_4 _ _ _ _ _ _ ⟨by omega, by omega⟩) rfl ?_
    refine Ev.ite (fun q => ?_) (fun _ => ?_)
    · have := of_decide_eq_true q
      omega
    · refine Ev.blk 11 (B147_9 _ _ _ _ _ _ ⟨by omega, by omega⟩ (by rw [e0]; exact hk k (by omega))) rfl ?_
      refine Ev.ite (fun q => ?_) (fun q => ?_)
      · replace q := of_decide_eq_true q
        rw [e0] at q
        have e : mb (fun j => V 126 (4 * m + j)) (k + 1) = oOr (mb (fun j => V 126 (4 * m + j)) k) 0 := by
          show oOr _ (if V 126 (4 * m + k) = -9 then 0 else oShl 1 (k : Int)) = _
          rw [if_pos q]
        rw [e] at ih
        refine Ev.blk 1 (B147_31 _ _ _ _ _ _ _) rfl ?_
        refine Ev.blk 4 (B147_32 _ _ _ _ _ _ _ _) rfl ?_
        exact ih
      · replace q := of_decide_eq_false q
        rw [e0] at q
        have e : mb (fun j => V 126 (4 * m + j)) (k + 1) = oOr (mb (fun j => V 126 (4 * m + j)) k) (oShl 1 (k : Int)) := by
          show oOr _ (if V 126 (4 * m + k) = -9 then 0 else oShl 1 (k : Int)) = _
          rw [if_neg q]
        rw [e] at ih
        refine Ev.blk 4 (B147_25 _ _ _ _ _ _ _) rfl ?_
        refine Ev.blk 4 (B147_32 _ _ _ _ _ _ _ _) rfl ?_
        exact ih
theorem x_bitsR {L d : Nat} {V : Mv} {b : Bool} {m : Nat} (hm : m < 4) (hk : ∀ j : Nat, j < 4 → in32 (V 126 (4 * m + j))) : Ex L d 147 [.inr (.inr 120), .inl (m : Int)] V b (Ans (some (.inl (mb (fun j => V 126 (4 * m + j)) 4))) V b) := by
  refine Ev.blk 4 (B147_0 _ _ _ _) rfl ?_
  exact bitsR_lp hm hk ⟨rfl, rfl, rfl⟩ 4 0 rfl
def cAbout (V : Mv) (m w : Int) : Int := if 0 ≤ m ∧ m < 3 then (if w = 0 then V (14 + 15 * m.toNat) 0 else if w = 1 then V (14 + 15 * m.toNat) 1 else if w = 2 then mb (V (14 + 15 * m.toNat + 6)) 4 else -2) else -1
theorem x_aboutC {L d : Nat} {V : Mv} {b : Bool} {m w : Int} (hB : BdC V) (hm : in32 m) (hw : in32 w) : Ex L (d + 2) 7 [.inr (.inr 1), .inl m, .inl w] V b (Ans (some (.inl (cAbout V m w))) V b) := by
  refine Ev.blk 1 (B7_0 _ _ _ _ _) rfl ?_
  refine Ev.call rfl rfl (rfl) (x_isMachineC (d := d) hm) (by omega) ?_
  rintro v V' b' ⟨rfl, rfl, rfl⟩
  refine Ev.blk 1 (B7_4 _ _ _ _ _ _ (by first | assumption | omega | exact b01_in _ | exact ⟨by omega, by omega⟩)) rfl ?_
  refine Ev.ite (fun q => ?_) (fun q => ?_)
  · replace q := nd_t q
    replace q := b01_1 q
    refine Ev.blk 2 (S7_9 _ _ _ _ _ (by first | assumption | omega | exact b01_in _ | exact ⟨by omega, by omega⟩)) rfl ?_
    split
    · skip
      refine Ev.blk 5 (B7_36 _ _ _ _ _ (by first | assumption | omega | exact b01_in _ | exact ⟨by omega, by omega⟩)) rfl ?_
      refine Ev.ret rfl rfl rfl (by first | rfl | exact decide_eq_true (b01_or _)) ?_
      refine ⟨?_, rfl, rfl⟩
      congr 2
      unfold cAbout
      repeat (first | rw [if_pos (by omega)] | rw [if_neg (by omega)])
    · skip
      split
      · skip
        refine Ev.blk 5 (B7_46 _ _ _ _ _ (by first | assumption | omega | exact b01_in _ | exact ⟨by omega, by omega⟩)) rfl ?_
        refine Ev.ret rfl rfl rfl (by first | rfl | exact decide_eq_true (b01_or _)) ?_
        refine ⟨?_, rfl, rfl⟩
        congr 2
        unfold cAbout
        repeat (first | rw [if_pos (by omega)] | rw [if_neg (by omega)])
      · skip
        split
        · skip
          refine Ev.blk 4 (B7_56 _ _ _ _ _ (by first | assumption | omega | exact b01_in _ | exact ⟨by omega, by omega⟩)) rfl ?_
          refine Ev.call rfl rfl (vg rfl rfl (isK_0 (k_11 (by assumption))) (congrArg Prod.fst (isK_T (k_11 (by assumption)))) rfl) (x_bitsC (d := d) (k_11 (by assumption)) (hB.mk (by assumption))) (by omega) ?_
          rintro v V' b' ⟨rfl, rfl, rfl⟩
          refine Ev.ret rfl rfl rfl (by first | rfl | exact decide_eq_true (b01_or _)) ?_
          refine ⟨?_, rfl, rfl⟩
          congr 2
          unfold cAbout
          repeat (first | rw [if_pos (by omega)] | rw [if_neg (by omega)])
        · skip
          refine Ev.blk 1 (B7_66 _ _ _ _ _) rfl ?_
          refine Ev.ret rfl rfl rfl (by first | rfl | exact decide_eq_true (b01_or _)) ?_
          refine ⟨?_, rfl, rfl⟩
          congr 2
          unfold cAbout
          repeat (first | rw [if_pos (by omega)] | rw [if_neg (by omega)])
  · replace q := nd_f q
    replace q := b01_0 q
    refine Ev.blk 1 (B7_7 _ _ _ _ _) rfl ?_
    refine Ev.ret rfl rfl rfl (by first | rfl | exact decide_eq_true (b01_or _)) ?_
    refine ⟨?_, rfl, rfl⟩
    congr 2
    unfold cAbout
    repeat (first | rw [if_pos (by omega)] | rw [if_neg (by omega)])

def rAbout (V : Mv) (m w : Int) : Int := if 0 ≤ m ∧ m ≤ 2 then (if w = 0 then V 121 m.toNat else if w = 1 then V 122 m.toNat else if w = 2 then mb (fun j => V 126 (4 * m.toNat + j)) 4 else -2) else -1
theorem BdR.mj {V : Mv} (hB : BdR V) {m : Int} (hm : 0 ≤ m ∧ m ≤ 2) : ∀ j : Nat, j < 4 → in32 (V 126 (4 * m.toNat + j)) := by
  intro j hj
  have := hB.mk (i := m) (j := (j : Int)) (by omega) (by omega)
  rw [show (4 * m + (j : Int)).toNat = 4 * m.toNat + j by omega] at this
  exact this
theorem x_bitsR' {L d : Nat} {V : Mv} {b : Bool} {m : Int} (hB : BdR V) (hm : 0 ≤ m ∧ m ≤ 2) : Ex L d 147 [.inr (.inr 120), .inl m] V b (Ans (some (.inl (mb (fun j => V 126 (4 * m.toNat + j)) 4))) V b) := by
  have h := x_bitsR (L := L) (d := d) (V := V) (b := b) (m := m.toNat) (by omega) (hB.mj hm)
  rw [show ((m.toNat : Nat) : Int) = m by omega] at h
  exact h
theorem x_aboutR {L d : Nat} {V : Mv} {b : Bool} {m w : Int} (hB : BdR V) (hm : in32 m) (hw : in32 w) : Ex L (d + 2) 146 [.inr (.inr 120), .inl m, .inl w] V b (Ans (some (.inl (rAbout V m w))) V b) := by
  refine Ev.blk 1 (B146_0 _ _ _ _ _) rfl ?_
  refine Ev.call rfl rfl (rfl) (x_isMachineR (d := d) hm) (by omega) ?_
  rintro v V' b' ⟨rfl, rfl, rfl⟩
  refine Ev.blk 1 (B146_4 _ _ _ _ _ _ (by first | assumption | omega | exact b01_in _ | exact ⟨by omega, by omega⟩)) rfl ?_
  refine Ev.ite (fun q => ?_) (fun q => ?_)
  · replace q := nd_t q
    replace q := b01_1 q
    refine Ev.blk 2 (B146_9 _ _ _ _ _ (by first | assumption | omega | exact b01_in _ | exact ⟨by omega, by omega⟩)) rfl ?_
    refine Ev.ite (fun q => ?_) (fun q => ?_)
    · replace q := nd_t q
      refine Ev.blk 3 (B146_22 _ _ _ _ _ (by first | assumption | omega | exact b01_in _ | exact ⟨by omega, by omega⟩)) rfl ?_
      refine Ev.ite (fun q => ?_) (fun q => ?_)
      · replace q := nd_t q
        refine Ev.blk 3 (B146_36 _ _ _ _ _ (by first | assumption | omega | exact b01_in _ | exact ⟨by omega, by omega⟩)) rfl ?_
        refine Ev.ite (fun q => ?_) (fun q => ?_)
        · replace q := nd_t q
          refine Ev.blk 1 (B146_49 _ _ _ _ _) rfl ?_
          refine Ev.ret rfl rfl rfl (by first | rfl | exact decide_eq_true (b01_or _)) ?_
          refine ⟨?_, rfl, rfl⟩
          congr 2
          unfold rAbout
          repeat (first | rw [if_pos (by omega)] | rw [if_neg (by omega)])
        · replace q := nd_f q
          refine Ev.blk 2 (B146_41 _ _ _ _ _) rfl ?_
          refine Ev.call rfl rfl (rfl) (x_bitsR' (d := d) hB (by assumption)) (by omega) ?_
          rintro v V' b' ⟨rfl, rfl, rfl⟩
          refine Ev.blk 1 (B146_46 _ _ _ _ _ _) rfl ?_
          refine Ev.ret rfl rfl rfl (by first | rfl | exact decide_eq_true (b01_or _)) ?_
          refine ⟨?_, rfl, rfl⟩
          congr 2
          unfold rAbout
          repeat (first | rw [if_pos (by omega)] | rw [if_neg (by omega)])
      · replace q := nd_f q
        refine Ev.blk 5 (B146_27 _ _ _ _ _ (by first | assumption | omega | exact b01_in _ | exact ⟨by omega, by omega⟩)) rfl ?_
        refine Ev.ret rfl rfl rfl (by first | rfl | exact decide_eq_true (b01_or _)) ?_
        refine ⟨?_, rfl, rfl⟩
        congr 2
        unfold rAbout
        repeat (first | rw [if_pos (by omega)] | rw [if_neg (by omega)])
    · replace q := nd_f q
      refine Ev.blk 5 (B146_13 _ _ _ _ _ (by first | assumption | omega | exact b01_in _ | exact ⟨by omega, by omega⟩)) rfl ?_
      refine Ev.ret rfl rfl rfl (by first | rfl | exact decide_eq_true (b01_or _)) ?_
      refine ⟨?_, rfl, rfl⟩
      congr 2
      unfold rAbout
      repeat (first | rw [if_pos (by omega)] | rw [if_neg (by omega)])
  · replace q := nd_f q
    replace q := b01_0 q
    refine Ev.blk 1 (B146_7 _ _ _ _ _) rfl ?_
    refine Ev.ret rfl rfl rfl (by first | rfl | exact decide_eq_true (b01_or _)) ?_
    refine ⟨?_, rfl, rfl⟩
    congr 2
    unfold rAbout
    repeat (first | rw [if_pos (by omega)] | rw [if_neg (by omega)])

theorem op_about (a0 a1 : Int) (h0 : in32 a0) (h1 : in32 a1) : OpI 7 146 [.inl a0, .inl a1] := by
  refine opI_ro (fun L N V b hI => ?_)
  have e : in32 (rAbout V a0 a1) ∧ rAbout V a0 a1 = cAbout V a0 a1 := by
    unfold rAbout cAbout
    by_cases q : 0 ≤ a0 ∧ a0 < 3
    · obtain ⟨i, rfl⟩ : ∃ k : Nat, a0 = (k : Int) := ⟨a0.toNat, by omega⟩
      have hk := hI.1.kd i (by omega)
      have t1 := hk.w
      have t2 := hk.w2
      have t3 := hk.w8
      have t4 := hk.lk
      have t5 := hk.lk9
      rw [Int.toNat_natCast]
      have c1 : 0 ≤ (i : Int) ∧ (i : Int) ≤ 2 := by omega
      rw [if_pos c1, if_pos q]
      by_cases w0 : a1 = 0
      · rw [if_pos w0, if_pos w0]
        exact ⟨⟨by omega, by omega⟩, t1.symm⟩
      · rw [if_neg w0, if_neg w0]
        by_cases w1 : a1 = 1
        · rw [if_pos w1, if_pos w1]
          exact ⟨⟨by omega, by omega⟩, t4.symm⟩
        · rw [if_neg w1, if_neg w1]
          by_cases w2 : a1 = 2
          · rw [if_pos w2, if_pos w2]
            exact ⟨mb_in _ 3, mb_congr 4 (fun j hj => (hk.mw j hj).1.symm)⟩
          · rw [if_neg w2, if_neg w2]
            exact ⟨by decide, rfl⟩
    · rw [if_neg (by omega), if_neg (by omega)]
      exact ⟨by decide, rfl⟩
  exact ⟨_, e.1, e.2 ▸ x_aboutC (d := 27) hI.1.bdC h0 h1, x_aboutR (d := 27) hI.1.bdR h0 h1⟩
