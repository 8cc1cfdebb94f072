/-! bits of ints -/
def bit (m : Int) (v : Nat) : Bool := (BitVec.ofInt 32 m).getLsbD v
theorem i32_in (x : Int32) : in32 x.toInt := ⟨Int32.le_toInt x, by have := Int32.toInt_lt x; omega⟩
theorem oOr_in (x y : Int) : in32 (oOr x y) := i32_in _
theorem oXor_in (x y : Int) : in32 (oXor x y) := i32_in _
theorem oShl_in (x y : Int) : in32 (oShl x y) := i32_in _
theorem oShr_in (x y : Int) : in32 (oShr x y) := i32_in _
theorem bv_of (x : Int32) : BitVec.ofInt 32 x.toInt = x.toBitVec := by
  show BitVec.ofInt 32 x.toBitVec.toInt = _
  exact BitVec.ofInt_toInt
theorem bit_and (x y : Int) (v : Nat) : bit (oAnd x y) v = (bit x v && bit y v) := by
  unfold bit oAnd
  rw [bv_of]
  exact BitVec.getLsbD_and
theorem bit_or (x y : Int) (v : Nat) : bit (oOr x y) v = (bit x v || bit y v) := by
  unfold bit oOr
  rw [bv_of]
  exact BitVec.getLsbD_or
theorem bit_xor (x y : Int) (v : Nat) : bit (oXor x y) v = (bit x v ^^ bit y v) := by
  unfold bit oXor
  rw [bv_of]
  exact BitVec.getLsbD_xor
theorem bit_not (x : Int) {v : Nat} (h : v < 32) : bit (oXor x (-1)) v = !bit x v := by
  rw [bit_xor]
  have : bit (-1) v = true := by
    have h2 : ∀ v, v < 32 → bit (-1) v = true := by decide
    exact h2 v h
  rw [this, Bool.xor_true]
theorem bit_ext {x y : Int} (hx : in32 x) (hy : in32 y) (h : ∀ v, v < 32 → bit x v = bit y v) : x = y := by
  have e : BitVec.ofInt 32 x = BitVec.ofInt 32 y := BitVec.eq_of_getLsbD_eq (fun i hi => h i hi)
  have e2 : (BitVec.ofInt 32 x).toInt = (BitVec.ofInt 32 y).toInt := by rw [e]
  rw [BitVec.toInt_ofInt, BitVec.toInt_ofInt] at e2
  have := hx
  have := hy
  unfold in32 at *
  rw [Int.bmod_eq_of_le (by omega) (by omega), Int.bmod_eq_of_le (by omega) (by omega)] at e2
  exact e2
theorem bit_0 (v : Nat) : bit 0 v = false := by
  unfold bit
  exact BitVec.getLsbD_zero
theorem or_0 {x : Int} (h : in32 x) : oOr x 0 = x := bit_ext (oOr_in _ _) h (fun v _ => by rw [bit_or, bit_0, Bool.or_false])
theorem bit_shl : ∀ (k : Nat), k < 10 → ∀ v, v < 32 → (bit (oShl 1 (k : Int)) v = true ↔ v = k) := by decide
theorem bit_all : ∀ (k : Nat), k < 10 → ∀ v, v < 32 → (bit (oShl 1 (k : Int) - 1) v = true ↔ v < k) := by decide
theorem tst_1 (z : Int32) : (z &&& 1).toInt = 0 ↔ z.toBitVec.getLsbD 0 = false := by
  constructor
  · intro h
    have h2 := congrArg (fun x => bit x 0) h
    simp only [bit_0] at h2
    unfold bit at h2
    rw [bv_of] at h2
    have h3 : (z &&& 1).toBitVec.getLsbD 0 = (z.toBitVec.getLsbD 0 && (1 : Int32).toBitVec.getLsbD 0) := BitVec.getLsbD_and
    rw [h3] at h2
    rw [show (1 : Int32).toBitVec.getLsbD 0 = true by decide, Bool.and_true] at h2
    exact h2
  · intro h
    refine bit_ext (i32_in _) (by decide) (fun v hv => ?_)
    rw [bit_0]
    unfold bit
    rw [bv_of]
    have h3 : (z &&& 1).toBitVec.getLsbD v = (z.toBitVec.getLsbD v && (1 : Int32).toBitVec.getLsbD v) := BitVec.getLsbD_and
    rw [h3]
    by_cases q : v = 0
    · rw [q, h, Bool.false_and]
    · have h4 : ∀ v, v < 32 → v ≠ 0 → (1 : Int32).toBitVec.getLsbD v = false := by decide
      rw [h4 v hv q, Bool.and_false]
/-- the test of a figure -/
theorem tst {m v : Int} (h : 0 ≤ v ∧ v ≤ 9) : (¬ oAnd (oShr m v) 1 = 0) ↔ bit m v.toNat = true := by
  have e : oAnd (oShr m v) 1 = ((Int32.ofInt m >>> (Int32.ofInt v &&& 31)) &&& 1).toInt := by
    unfold oAnd oShr
    rw [Int32.ofInt_toInt]
    rfl
  rw [e, tst_1]
  have e2 : (Int32.ofInt m >>> (Int32.ofInt v &&& 31)).toBitVec.getLsbD 0 = bit m v.toNat := by
    obtain ⟨k, rfl⟩ : ∃ k : Nat, v = (k : Int) := ⟨v.toNat, by omega⟩
    have : k = 0 ∨ k = 1 ∨ k = 2 ∨ k = 3 ∨ k = 4 ∨ k = 5 ∨ k = 6 ∨ k = 7 ∨ k = 8 ∨ k = 9 := by omega
    rw [Int32.toBitVec_shiftRight]
    rcases this with rfl | rfl | rfl | rfl | rfl | rfl | rfl | rfl | rfl | rfl <;> exact BitVec.getLsbD_sshiftRight ..
  rw [e2]
  cases bit m v.toNat <;> simp
