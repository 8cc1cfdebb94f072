/-! the 38 calls, 6 (by program, specs7.py) -/
/-- how many mendings are there -/
def pcm (f : Nat → Int) : Int := (if f 0 = -9 then 0 else 1) + (if f 1 = -9 then 0 else 1) + (if f 2 = -9 then 0 else 1) + (if f 3 = -9 then 0 else 1)
theorem pcm_in (f : Nat → Int) : 0 ≤ pcm f ∧ pcm f ≤ 4 := by
  unfold pcm
  repeat' split
  all_goals omega
theorem pcm_congr {f g : Nat → Int} (h : ∀ j, j < 4 → f j = g j) : pcm f = pcm g := by
  unfold pcm
  rw [h 0 (by omega), h 1 (by omega), h 2 (by omega), h 3 (by omega)]
def mv (f : Nat → Int) : Int := (if f 0 = -9 then 0 else 1) + (if f 1 = -9 then 0 else 2) + (if f 2 = -9 then 0 else 4) + (if f 3 = -9 then 0 else 8)
theorem mb_val (f : Nat → Int) : mb f 4 = mv f := by
  show oOr (oOr (oOr (oOr 0 (if f 0 = -9 then 0 else oShl 1 0)) (if f 1 = -9 then 0 else oShl 1 1)) (if f 2 = -9 then 0 else oShl 1 2)) (if f 3 = -9 then 0 else oShl 1 3) = _
  unfold mv
  by_cases h0 : f 0 = -9 <;> by_cases h1 : f 1 = -9 <;> by_cases h2 : f 2 = -9 <;> by_cases h3 : f 3 = -9
  all_goals ((repeat (first | rw [if_pos h0] | rw [if_neg h0])); (repeat (first | rw [if_pos h1] | rw [if_neg h1])); (repeat (first | rw [if_pos h2] | rw [if_neg h2])); (repeat (first | rw [if_pos h3] | rw [if_neg h3])))
  all_goals decide
theorem x_bc {L d : Nat} {V : Mv} {b : Bool} (f : Nat → Int) : Ex L d 231 [.inl (mb f 4)] V b (Ans (some (.inl (pcm f))) V b) := by
  refine Ev.blk 41 (B231_0 _ _ _ _) rfl ?_
  refine Ev.ret rfl rfl rfl rfl ⟨?_, rfl, rfl⟩
  congr 2
  rw [mb_val]
  unfold mv pcm
  by_cases h0 : f 0 = -9 <;> by_cases h1 : f 1 = -9 <;> by_cases h2 : f 2 = -9 <;> by_cases h3 : f 3 = -9
  all_goals ((repeat (first | rw [if_pos h0] | rw [if_neg h0])); (repeat (first | rw [if_pos h1] | rw [if_neg h1])); (repeat (first | rw [if_pos h2] | rw [if_neg h2])); (repeat (first | rw [if_pos h3] | rw [if_neg h3])))
  all_goals decide
theorem x_many {L d : Nat} {V : Mv} {b : Bool} {m : Int} (hB : BdR V) (hm : 0 ≤ m ∧ m ≤ 2) : Ex L (d + 1) 184 [.inr (.inr 120), .inl m] V b (Ans (some (.inl (pcm (fun j => V 126 (4 * m.toNat + j))))) V b) := by
  refine Ev.blk 2 (B184_0 _ _ _ _) rfl ?_
  refine Ev.call rfl rfl rfl (x_bitsR' (d := d) hB hm) (by omega) ?_
  rintro v V' b' ⟨rfl, rfl, rfl⟩
  refine Ev.blk 20 (B184_5 _ _ _ _ _) rfl ?_
  refine Ev.ret rfl rfl rfl rfl ⟨?_, rfl, rfl⟩
  congr 2
  rw [mb_val]
  generalize (fun j => V' 126 (4 * m.toNat + j)) = f
  unfold mv pcm
  by_cases h0 : f 0 = -9 <;> by_cases h1 : f 1 = -9 <;> by_cases h2 : f 2 = -9 <;> by_cases h3 : f 3 = -9
  all_goals ((repeat (first | rw [if_pos h0] | rw [if_neg h0])); (repeat (first | rw [if_pos h1] | rw [if_neg h1])); (repeat (first | rw [if_pos h2] | rw [if_neg h2])); (repeat (first | rw [if_pos h3] | rw [if_neg h3])))
  all_goals decide
