/-! the 38 calls, 6 (by program, specs7.py) -/
/-- how many mendings are there -/
def pcm (f : Nat → Int) : Int := (if f 0 = -9 then 0 else 1) + (if f 1 = -9 then 0 else 1) + (if f 2 = -9 then 0 else 1) + (if f 3 = -9 then 0 else 1)
theorem pcm_in (f : Nat → Int) : 0 ≤ pcm f ∧ pcm f ≤ 4 := by
  unfold pcm
  repeat' split
  all_goals omega
theorem pcm_congr {f g : Nat → Int} (h : ∀ j, j < 4 → f j = g j) : pcm f = pcm g := by
  unfold pcm
  rw [h 0 (by omega), h 1 (by omega), h 2 (by omega), h 3 (by omega)]
def mv (f : Nat → Int) : Int := (if f 0 = -9 then 0 else 1) + (if f 1 = -9 then 0 else 2) + (if f 2 = -9 then 0 else 4) + (if f 3 = -9 then 0 else 8)
theorem mb_val (f : Nat → Int) : mb f 4 = mv f := by
  show oOr (oOr (oOr (oOr 0 (if f 0 = -9 then 0 else oShl 1 0)) (if f 1 = -9 then 0 else oShl 1 1)) (if f 2 = -9 then 0 else oShl 1 2)) (if f 3 = -9 then 0 else oShl 1 3) = _
  unfold mv
  by_cases h0 : f 0 = -9 <;> by_cases h1 : f 1 = -9 <;> by_cases h2 : f 2 = -9 <;> by_cases h3 : f 3 = -9
  all_goals ((repeat (first | rw [if_pos h0] | rw [if_neg h0])); (repeat (first | rw [if_pos h1] | rw [if_neg h1])); (repeat (first | rw [if_pos h2] | rw [if_neg h2])); (repeat (first | rw [if_pos h3] | rw [if_neg h3])))
  all_goals decide
theorem x_bc {L d : Nat} {V : Mv} {b : Bool} (f : Nat → Int) : Ex L d 231 [.inl (mb f 4)] V b (Ans (some (.inl (pcm f))) V b) := by
  refine Ev.blk 41 (B231_0 _ _ _ _) rfl ?_
  refine Ev.ret rfl rfl rfl rfl ⟨?_, rfl, rfl⟩
  congr 2
  rw [mb_val]
  unfold mv pcm
  by_cases h0 : f 0 = -9 <;> by_cases h1 : f 1 = -9 <;> by_cases h2 : f 2 = -9 <;> by_cases h3 : f 3 = -9
  all_goals ((repeat (first | rw [if_pos h0] | rw [if_neg h0])); (repeat (first | rw [if_pos h1] | rw [if_neg h1])); (repeat (first | rw [if_pos h2] | rw [if_neg h2])); (repeat (first | rw [if_pos h3] | rw [if_neg h3])))
  all_goals decide
theorem x_many {L d : Nat} {V : Mv} {b : Bool} {m : Int} (hB : BdR V) (hm : 0 ≤ m ∧ m ≤ 2) : Ex L (d + 1) 184 [.inr (.inr 120), .inl m] V b (Ans (some (.inl (pcm (fun j => V 126 (4 * m.toNat + j))))) V b) := by
  refine Ev.blk 2 (B184_0 _ _ _ _) rfl ?_
  refine Ev.call rfl rfl rfl (x_bitsR' (d := d) hB hm) (by omega) ?_
  rintro v V' b' ⟨rfl, rfl, rfl⟩
  refine Ev.blk 20 (B184_5 _ _ _ _ _) rfl ?_
  refine Ev.ret rfl rfl rfl rfl ⟨?_, rfl, rfl⟩
  congr 2
  rw [mb_val]
  generalize (fun j => V' 126 (4 * m.toNat + j)) = f
  unfold mv pcm
  by_cases h0 : f 0 = -9 <;> by_cases h1 : f 1 = -9 <;> by_cases h2 : f 2 = -9 <;> by_cases h3 : f 3 = -9
  all_goals ((repeat (first | rw [if_pos h0] | rw [if_neg h0])); (repeat (first | rw [if_pos h1] | rw [if_neg h1])); (repeat (first | rw [if_pos h2] | rw [if_neg h2])); (repeat (first | rw [if_pos h3] | rw [if_neg h3])))
  all_goals decide
theorem allM_lp {L d : Nat} {V : Mv} {b : Bool} {Q : Option AV → Mv → Bool → Prop} (hB : BdC V) (hQ : Q (some (.inl (sumN (fun i => pcm (V (14 + 15 * i + 6))) 3))) V b) : ∀ n k : Nat, k + n = 3 → Ev L (d + 2) 51 4 [some (.inr (.inr 1)), some (.inl (sumN (fun i => pcm (V (14 + 15 * i + 6))) k)), some (.inl (k : Int))] [] V b Q
  | 0, k, h => by
    obtain rfl : k = 3 := by omega
    refine Ev.blk 3 (B51_4 _ _ _ _ _ (by decide)) rfl ?_
    refine Ev.ite (fun _ => ?_) (fun h => absurd h (by decide))
    refine Ev.blk 1 (B51_30 _ _ _ _ _) rfl ?_
    exact Ev.ret rfl rfl rfl rfl hQ
  | n + 1, k, h => by
    have ih := allM_lp (L := L) (d := d) hB hQ n (k + 1) (by omega)
    have hk : 0 ≤ (k : Int) ∧ (k : Int) < 3 := by omega
    refine Ev.blk 3 (B51_4 _ _ _ _ _ ⟨by omega, by omega⟩) rfl ?_
    refine Ev.ite (fun q => ?_) (fun _ => ?_)
    · have := of_decide_eq_true q
      omega
    · refine Ev.blk 5 (B51_9 _ _ _ _ _ hk) rfl ?_
      refine Ev.call rfl rfl (vg rfl rfl (isK_0 (k_11 hk)) (congrArg Prod.fst (isK_T (k_11 hk))) rfl) (x_bitsC (d := d) (k_11 hk) (hB.mk hk)) (by omega) ?_
      rintro v V' b' ⟨rfl, rfl, rfl⟩
      refine Ev.call rfl rfl rfl (x_bc (d := d) _) (by omega) ?_
      rintro v V' b' ⟨rfl, rfl, rfl⟩
      refine Ev.blk 4 (B51_22 _ _ _ _ _ _ _) rfl ?_
      exact ih
theorem x_allM {L d : Nat} {V : Mv} {b : Bool} (hB : BdC V) : Ex L (d + 2) 51 [.inr (.inr 1)] V b (Ans (some (.inl (sumN (fun i => pcm (V (14 + 15 * i + 6))) 3))) V b) := by
  refine Ev.blk 4 (B51_0 _ _ _) rfl ?_
  exact allM_lp hB ⟨rfl, rfl, rfl⟩ 3 0 rfl
def cCount (V : Mv) (w : Int) : Int := if w = 0 then V 2 0 else if w = 1 then V 69 0 else if w = 2 then sumN (fun i => pcm (V (14 + 15 * i + 6))) 3 else -2
def rCount (V : Mv) (w : Int) : Int := if w = 0 then V 120 10 else if w = 1 then V 120 37 else if w = 2 then pcm (fun j => V 126 (4 * (0 : Int).toNat + j)) + pcm (fun j => V 126 (4 * (1 : Int).toNat + j)) + pcm (fun j => V 126 (4 * (2 : Int).toNat + j)) else -2
theorem x_countC {L d : Nat} {V : Mv} {b : Bool} {w : Int} (hB : BdC V) (hw : in32 w) : Ex L (d + 3) 50 [.inr (.inr 1), .inl w] V b (Ans (some (.inl (cCount V w))) V b) := by
  refine Ev.blk 2 (S50_0 _ _ _ _ (by first | assumption | omega | exact ⟨by omega, by omega⟩)) rfl ?_
  split
  · skip
    refine Ev.blk 3 (B50_28 _ _ _ _) rfl ?_
    refine Ev.ret rfl rfl rfl (by first | rfl | exact decide_eq_true (b01_or _)) ?_
    refine ⟨?_, rfl, rfl⟩
    congr 2
    unfold cCount
    repeat (first | rw [if_pos (by omega)] | rw [if_neg (by omega)])
  · skip
    split
    · skip
      refine Ev.blk 3 (B50_36 _ _ _ _) rfl ?_
      refine Ev.ret rfl rfl rfl (by first | rfl | exact decide_eq_true (b01_or _)) ?_
      refine ⟨?_, rfl, rfl⟩
      congr 2
      unfold cCount
      repeat (first | rw [if_pos (by omega)] | rw [if_neg (by omega)])
    · skip
      split
      · skip
        refine Ev.blk 1 (B50_44 _ _ _ _) rfl ?_
        refine Ev.call rfl rfl (rfl) (x_allM (d := d) hB) (by omega) ?_
        rintro v V' b' ⟨rfl, rfl, rfl⟩
        refine Ev.ret rfl rfl rfl (by first | rfl | exact decide_eq_true (b01_or _)) ?_
        refine ⟨?_, rfl, rfl⟩
        congr 2
        unfold cCount
        repeat (first | rw [if_pos (by omega)] | rw [if_neg (by omega)])
      · skip
        refine Ev.blk 1 (B50_49 _ _ _ _) rfl ?_
        refine Ev.ret rfl rfl rfl (by first | rfl | exact decide_eq_true (b01_or _)) ?_
        refine ⟨?_, rfl, rfl⟩
        congr 2
        unfold cCount
        repeat (first | rw [if_pos (by omega)] | rw [if_neg (by omega)])

theorem x_countR {L d : Nat} {V : Mv} {b : Bool} {w : Int} (hB : BdR V) (hw : in32 w) : Ex L (d + 2) 229 [.inr (.inr 120), .inl w] V b (Ans (some (.inl (rCount V w))) V b) := by
  refine Ev.blk 2 (S229_0 _ _ _ _ (by first | assumption | omega | exact ⟨by omega, by omega⟩)) rfl ?_
  split
  · skip
    refine Ev.blk 2 (B229_28 _ _ _ _) rfl ?_
    refine Ev.ret rfl rfl rfl (by first | rfl | exact decide_eq_true (b01_or _)) ?_
    refine ⟨?_, rfl, rfl⟩
    congr 2
    unfold rCount
    repeat (first | rw [if_pos (by omega)] | rw [if_neg (by omega)])
  · skip
    split
    · skip
      refine Ev.blk 2 (B229_33 _ _ _ _) rfl ?_
      refine Ev.ret rfl rfl rfl (by first | rfl | exact decide_eq_true (b01_or _)) ?_
      refine ⟨?_, rfl, rfl⟩
      congr 2
      unfold rCount
      repeat (first | rw [if_pos (by omega)] | rw [if_neg (by omega)])
    · skip
      split
      · skip
        refine Ev.blk 2 (B229_38 _ _ _ _) rfl ?_
        refine Ev.call rfl rfl (rfl) (x_many (d := d) hB (by decide)) (by omega) ?_
        rintro v V' b' ⟨rfl, rfl, rfl⟩
        refine Ev.blk 2 (B229_43 _ _ _ _ _) rfl ?_
        refine Ev.call rfl rfl (rfl) (x_many (d := d) hB (by decide)) (by omega) ?_
        rintro v V' b' ⟨rfl, rfl, rfl⟩
        refine Ev.blk 3 (B229_48 _ _ _ _ _ _) rfl ?_
        refine Ev.call rfl rfl (rfl) (x_many (d := d) hB (by decide)) (by omega) ?_
        rintro v V' b' ⟨rfl, rfl, rfl⟩
        refine Ev.blk 1 (B229_54 _ _ _ _ _ _) rfl ?_
        refine Ev.ret rfl rfl rfl (by first | rfl | exact decide_eq_true (b01_or _)) ?_
        refine ⟨?_, rfl, rfl⟩
        congr 2
        unfold rCount
        repeat (first | rw [if_pos (by omega)] | rw [if_neg (by omega)])
      · skip
        refine Ev.blk 1 (B229_56 _ _ _ _) rfl ?_
        refine Ev.ret rfl rfl rfl (by first | rfl | exact decide_eq_true (b01_or _)) ?_
        refine ⟨?_, rfl, rfl⟩
        congr 2
        unfold rCount
        repeat (first | rw [if_pos (by omega)] | rw [if_neg (by omega)])

theorem op_count (a0 : Int) (h0 : in32 a0) : OpI 50 229 [.inl a0] := by
  refine opI_ro (fun L N V b hI => ?_)
  have e : in32 (rCount V a0) ∧ rCount V a0 = cCount V a0 := by
    unfold rCount cCount
    have t1 := hI.1.tl
    have t2 := hI.1.ll
    by_cases w0 : a0 = 0
    · rw [if_pos w0, if_pos w0]
      exact ⟨⟨by omega, by omega⟩, t1.1.symm⟩
    · rw [if_neg w0, if_neg w0]
      by_cases w1 : a0 = 1
      · rw [if_pos w1, if_pos w1]
        exact ⟨⟨by omega, by omega⟩, t2.1.symm⟩
      · rw [if_neg w1, if_neg w1]
        by_cases w2 : a0 = 2
        · rw [if_pos w2, if_pos w2]
          have p : ∀ i, i < 3 → pcm (fun j => V 126 (4 * i + j)) = pcm (V (14 + 15 * i + 6)) := fun i hi => pcm_congr (fun j hj => ((hI.1.kd i hi).mw j hj).1.symm)
          have p0 := p 0 (by omega)
          have p1 := p 1 (by omega)
          have p2 := p 2 (by omega)
          have r0 := pcm_in (fun j => V 126 (4 * 0 + j))
          have r1 := pcm_in (fun j => V 126 (4 * 1 + j))
          have r2 := pcm_in (fun j => V 126 (4 * 2 + j))
          show in32 (pcm (fun j => V 126 (4 * 0 + j)) + pcm (fun j => V 126 (4 * 1 + j)) + pcm (fun j => V 126 (4 * 2 + j))) ∧ pcm (fun j => V 126 (4 * 0 + j)) + pcm (fun j => V 126 (4 * 1 + j)) + pcm (fun j => V 126 (4 * 2 + j)) = 0 + pcm (V (14 + 15 * 0 + 6)) + pcm (V (14 + 15 * 1 + 6)) + pcm (V (14 + 15 * 2 + 6))
          exact ⟨⟨by omega, by omega⟩, by omega⟩
        · rw [if_neg w2, if_neg w2]
          exact ⟨by decide, rfl⟩
  exact ⟨_, e.1, e.2 ▸ x_countC (d := 26) hI.1.bdC h0, x_countR (d := 27) hI.1.bdR h0⟩
