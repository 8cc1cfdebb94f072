/-! BLOCKS: where objects lie; ranges -/
abbrev in32 (z : Int) : Prop := -2147483648 ≤ z ∧ z < 2147483648
abbrev in64 (z : Int) : Prop := -9223372036854775808 ≤ z ∧ z < 9223372036854775808
theorem r32_of {z : Int} (h : in32 z) : r32 z = true := by
  simp only [r32, Bool.and_eq_true, decide_eq_true_eq]
  exact h
theorem r64_of {z : Int} (h : in64 z) : r64 z = true := by
  simp only [r64, Bool.and_eq_true, decide_eq_true_eq]
  exact h
theorem rr32_of {a b : Int} (h : in32 a) (h' : in32 b) : (r32 a && r32 b) = true := by rw [r32_of h, r32_of h']; rfl
theorem rr64_of {a b : Int} (h : in64 a) (h' : in64 b) : (r64 a && r64 b) = true := by rw [r64_of h, r64_of h']; rfl
theorem gD_of {a b : Int} (h : in32 a) (h' : in32 b) (h0 : ¬ b = 0) : gD a b = true := by
  unfold gD
  rw [r32_of h, r32_of h']
  simp [h0]
theorem gL_of {a b : Int} (h : in64 a) (h' : in64 b) (h0 : ¬ b = 0) : gL a b = true := by
  unfold gL
  rw [r64_of h, r64_of h']
  simp [h0]
theorem gx_of {μ : Mm} {a k n : Nat} {i : Int} (hT : aT μ a = (k, n)) (h : 0 ≤ i ∧ i < (n : Int)) : gX μ a k i = true := by
  unfold gX
  rw [hT]
  simp [h.1, h.2]
theorem an {a c : Bool} (h : a = true) (h' : c = true) : (a && c) = true := by rw [h, h']; rfl
theorem gs_of {μ : Mm} {a k : Nat} {i : Int} (h : gX μ a k i = true) (h0 : a ≠ 0) : (gX μ a k i && !Nat.beq a 0) = true := by
  rw [h, beqF h0]
  rfl
theorem gb_of {μ : Mm} {a k : Nat} {i : Int} {q : Bool} (h : gX μ a k i = true) (h0 : (!Nat.beq a 0 && q) = true) : (gX μ a k i && (!Nat.beq a 0 && q)) = true := by
  rw [h, h0]
  rfl
theorem cls_of {L a y n : Nat} (h : TT L a = (64 + y, n)) : decide ((TT L a).1 = 64 + y) = true := by
  rw [h]
  simp
theorem clr_of {L a y n w o : Nat} {b : Bool} (h : TT L a = (64 + y, n)) (hr : RR b a w = some (a + o)) : (decide ((TT L a).1 = 64 + y) && decide (RR b a w = some (a + o))) = true := by
  rw [h, hr]
  simp
def isK (a : Nat) : Prop := a = 4 ∨ a = 14 ∨ a = 29 ∨ a = 44
theorem isK_T {L a : Nat} (h : isK a) : TT L a = (64 + 2, 10) := by
  rcases h with rfl | rfl | rfl | rfl <;> rfl
theorem isK_0 {a : Nat} (h : isK a) : a ≠ 0 := by
  rcases h with rfl | rfl | rfl | rfl <;> decide
theorem isK_R4 {b : Bool} {a : Nat} (h : isK a) : RR b a 4 = some (a + 1) := by
  rcases h with rfl | rfl | rfl | rfl <;> rfl
theorem isK_A4 {L a : Nat} (h : isK a) : TT L (a + 1) = (1, 64) := by
  rcases h with rfl | rfl | rfl | rfl <;> rfl
theorem isK_R5 {b : Bool} {a : Nat} (h : isK a) : RR b a 5 = some (a + 2) := by
  rcases h with rfl | rfl | rfl | rfl <;> rfl
theorem isK_A5 {L a : Nat} (h : isK a) : TT L (a + 2) = (1, 8) := by
  rcases h with rfl | rfl | rfl | rfl <;> rfl
theorem isK_R6 {b : Bool} {a : Nat} (h : isK a) : RR b a 6 = some (a + 3) := by
  rcases h with rfl | rfl | rfl | rfl <;> rfl
theorem isK_A6 {L a : Nat} (h : isK a) : TT L (a + 3) = (1, 8) := by
  rcases h with rfl | rfl | rfl | rfl <;> rfl
theorem isK_R7 {b : Bool} {a : Nat} (h : isK a) : RR b a 7 = some (a + 4) := by
  rcases h with rfl | rfl | rfl | rfl <;> rfl
theorem isK_A7 {L a : Nat} (h : isK a) : TT L (a + 4) = (1, 8) := by
  rcases h with rfl | rfl | rfl | rfl <;> rfl
theorem isK_R8 {b : Bool} {a : Nat} (h : isK a) : RR b a 8 = some (a + 5) := by
  rcases h with rfl | rfl | rfl | rfl <;> rfl
theorem isK_A8 {L a : Nat} (h : isK a) : TT L (a + 5) = (1, 4) := by
  rcases h with rfl | rfl | rfl | rfl <;> rfl
theorem isK_R9 {b : Bool} {a : Nat} (h : isK a) : RR b a 9 = some (a + 6) := by
  rcases h with rfl | rfl | rfl | rfl <;> rfl
theorem isK_A9 {L a : Nat} (h : isK a) : TT L (a + 6) = (1, 4) := by
  rcases h with rfl | rfl | rfl | rfl <;> rfl
def isT (a : Nat) : Prop := a = 21 ∨ a = 36 ∨ a = 51 ∨ a = 59 ∨ a = 77 ∨ a = 80 ∨ a = 83 ∨ a = 91 ∨ a = 94 ∨ a = 97
theorem isT_T {L a : Nat} (h : isT a) : TT L a = (64 + 3, 2) := by
  rcases h with rfl | rfl | rfl | rfl | rfl | rfl | rfl | rfl | rfl | rfl <;> rfl
theorem isT_0 {a : Nat} (h : isT a) : a ≠ 0 := by
  rcases h with rfl | rfl | rfl | rfl | rfl | rfl | rfl | rfl | rfl | rfl <;> decide
theorem isT_R0 {b : Bool} {a : Nat} (h : isT a) : RR b a 0 = some (a + 1) := by
  rcases h with rfl | rfl | rfl | rfl | rfl | rfl | rfl | rfl | rfl | rfl <;> rfl
theorem isT_A0 {L a : Nat} (h : isT a) : TT L (a + 1) = (2, 8) := by
  rcases h with rfl | rfl | rfl | rfl | rfl | rfl | rfl | rfl | rfl | rfl <;> rfl
theorem isT_R1 {b : Bool} {a : Nat} (h : isT a) : RR b a 1 = some (a + 2) := by
  rcases h with rfl | rfl | rfl | rfl | rfl | rfl | rfl | rfl | rfl | rfl <;> rfl
theorem isT_A1 {L a : Nat} (h : isT a) : TT L (a + 2) = (2, 8) := by
  rcases h with rfl | rfl | rfl | rfl | rfl | rfl | rfl | rfl | rfl | rfl <;> rfl
def isL4 (a : Nat) : Prop := a = 69 ∨ a = 75 ∨ a = 89
theorem isL4_T {L a : Nat} (h : isL4 a) : TT L a = (64 + 4, 2) := by
  rcases h with rfl | rfl | rfl <;> rfl
theorem isL4_0 {a : Nat} (h : isL4 a) : a ≠ 0 := by
  rcases h with rfl | rfl | rfl <;> decide
theorem isL4_R1 {b : Bool} {a : Nat} (h : isL4 a) : RR b a 1 = some (a + 1) := by
  rcases h with rfl | rfl | rfl <;> rfl
theorem isL4_A1 {L a : Nat} (h : isL4 a) : TT L (a + 1) = (1, 16) := by
  rcases h with rfl | rfl | rfl <;> rfl
def isS (a : Nat) : Prop := a = 72 ∨ a = 86
theorem isS_T {L a : Nat} (h : isS a) : TT L a = (64 + 5, 4) := by
  rcases h with rfl | rfl <;> rfl
theorem isS_0 {a : Nat} (h : isS a) : a ≠ 0 := by
  rcases h with rfl | rfl <;> decide
theorem isS_R1 {b : Bool} {a : Nat} (h : isS a) : RR b a 1 = some (a + 1) := by
  rcases h with rfl | rfl <;> rfl
theorem isS_A1 {L a : Nat} (h : isS a) : TT L (a + 1) = (35, 3) := by
  rcases h with rfl | rfl <;> rfl
theorem isS_R2 {b : Bool} {a : Nat} (h : isS a) : RR b a 2 = some (a + 2) := by
  rcases h with rfl | rfl <;> rfl
theorem isS_A2 {L a : Nat} (h : isS a) : TT L (a + 2) = (1, 3) := by
  rcases h with rfl | rfl <;> rfl
theorem isS_R3 {b : Bool} {a : Nat} (h : isS a) : RR b a 3 = some (a + 3) := by
  rcases h with rfl | rfl <;> rfl
def isB (a : Nat) : Prop := a = 24 ∨ a = 39 ∨ a = 54
theorem isB_T {L a : Nat} (h : isB a) : TT L a = (64 + 7, 7) := by
  rcases h with rfl | rfl | rfl <;> rfl
theorem isB_0 {a : Nat} (h : isB a) : a ≠ 0 := by
  rcases h with rfl | rfl | rfl <;> decide
theorem isB_R1 {b : Bool} {a : Nat} (h : isB a) : RR b a 1 = some (a + 1) := by
  rcases h with rfl | rfl | rfl <;> rfl
theorem isB_R2 {b : Bool} {a : Nat} (h : isB a) : RR b a 2 = some (a + 2) := by
  rcases h with rfl | rfl | rfl <;> rfl
theorem isB_R3 {b : Bool} {a : Nat} (h : isB a) : RR b a 3 = some (a + 3) := by
  rcases h with rfl | rfl | rfl <;> rfl
theorem isB_A3 {L a : Nat} (h : isB a) : TT L (a + 3) = (1, 8) := by
  rcases h with rfl | rfl | rfl <;> rfl
theorem isB_R4 {b : Bool} {a : Nat} (h : isB a) : RR b a 4 = some (a + 4) := by
  rcases h with rfl | rfl | rfl <;> rfl
theorem isB_A4 {L a : Nat} (h : isB a) : TT L (a + 4) = (1, 5) := by
  rcases h with rfl | rfl | rfl <;> rfl
def isF (a : Nat) : Prop := a = 25 ∨ a = 26 ∨ a = 40 ∨ a = 41 ∨ a = 55 ∨ a = 56 ∨ a = 107
theorem isF_T {L a : Nat} (h : isF a) : TT L a = (64 + 8, 2) := by
  rcases h with rfl | rfl | rfl | rfl | rfl | rfl | rfl <;> rfl
theorem isF_0 {a : Nat} (h : isF a) : a ≠ 0 := by
  rcases h with rfl | rfl | rfl | rfl | rfl | rfl | rfl <;> decide
theorem isS_C3 {a : Nat} (h : isS a) : isL4 (a + 3) := by
  rcases h with rfl | rfl <;> (unfold isL4; decide)
theorem isB_C1 {a : Nat} (h : isB a) : isF (a + 1) := by
  rcases h with rfl | rfl | rfl <;> (unfold isF; decide)
theorem isB_C2 {a : Nat} (h : isB a) : isF (a + 2) := by
  rcases h with rfl | rfl | rfl <;> (unfold isF; decide)
def gA (μ : Mm) (a y w : Nat) (i : Int) : Bool := (decide (4 ≤ (aT μ a).1 ∧ (aT μ a).1 < 64)) && (decide (0 ≤ i) && (decide (i < ((aT μ a).2 : Int)) && decide (aR μ a i.toNat = some (a + y + w * i.toNat))))
theorem gA_11 (L : Nat) (V : Mv) (b : Bool) {i : Int} (h : 0 ≤ i ∧ i < 3) : gA (M0 L V b) 11 3 15 i = true := by
  obtain rfl | rfl | rfl : i = 0 ∨ i = 1 ∨ i = 2 := by omega
  all_goals rfl
theorem k_11 {i : Int} (h : 0 ≤ i ∧ i < 3) : isK (14 + 15 * i.toNat) := by
  obtain rfl | rfl | rfl : i = 0 ∨ i = 1 ∨ i = 2 := by omega
  all_goals (unfold isK; decide)
theorem gA_12 (L : Nat) (V : Mv) (b : Bool) {i : Int} (h : 0 ≤ i ∧ i < 3) : gA (M0 L V b) 12 9 15 i = true := by
  obtain rfl | rfl | rfl : i = 0 ∨ i = 1 ∨ i = 2 := by omega
  all_goals rfl
theorem k_12 {i : Int} (h : 0 ≤ i ∧ i < 3) : isT (21 + 15 * i.toNat) := by
  obtain rfl | rfl | rfl : i = 0 ∨ i = 1 ∨ i = 2 := by omega
  all_goals (unfold isT; decide)
theorem gA_13 (L : Nat) (V : Mv) (b : Bool) {i : Int} (h : 0 ≤ i ∧ i < 3) : gA (M0 L V b) 13 11 15 i = true := by
  obtain rfl | rfl | rfl : i = 0 ∨ i = 1 ∨ i = 2 := by omega
  all_goals rfl
theorem k_13 {i : Int} (h : 0 ≤ i ∧ i < 3) : isB (24 + 15 * i.toNat) := by
  obtain rfl | rfl | rfl : i = 0 ∨ i = 1 ∨ i = 2 := by omega
  all_goals (unfold isB; decide)
theorem gA_71 (L : Nat) (V : Mv) (b : Bool) {i : Int} (h : 0 ≤ i ∧ i < 2) : gA (M0 L V b) 71 1 14 i = true := by
  obtain rfl | rfl : i = 0 ∨ i = 1 := by omega
  all_goals rfl
theorem k_71 {i : Int} (h : 0 ≤ i ∧ i < 2) : isS (72 + 14 * i.toNat) := by
  obtain rfl | rfl : i = 0 ∨ i = 1 := by omega
  all_goals (unfold isS; decide)
theorem gA_63 (L : Nat) (V : Mv) (b : Bool) {i : Int} (h : 0 ≤ i ∧ i < 4) : gA (M0 L V b) 63 1 1 i = true := by
  obtain rfl | rfl | rfl | rfl : i = 0 ∨ i = 1 ∨ i = 2 ∨ i = 3 := by omega
  all_goals rfl
theorem k_63 {i : Int} (h : 0 ≤ i ∧ i < 4) : 0 ≤ i ∧ i < 4 := h
theorem r_63 (L : Nat) {i : Int} (h : 0 ≤ i ∧ i < 4) : TT L (64 + 1 * i.toNat) = (1, 8) := by
  obtain rfl | rfl | rfl | rfl : i = 0 ∨ i = 1 ∨ i = 2 ∨ i = 3 := by omega
  all_goals rfl
theorem gA_S (L : Nat) (V : Mv) (b : Bool) {a : Nat} {i : Int} (c : isS a) (h : 0 ≤ i ∧ i < 3) : gA (M0 L V b) (a + 1) 4 3 i = true := by
  rcases c with rfl | rfl
  all_goals (obtain rfl | rfl | rfl : i = 0 ∨ i = 1 ∨ i = 2 := by omega)
  all_goals rfl
theorem k_S {a : Nat} {i : Int} (c : isS a) (h : 0 ≤ i ∧ i < 3) : isT (a + 1 + 4 + 3 * i.toNat) := by
  rcases c with rfl | rfl
  all_goals (obtain rfl | rfl | rfl : i = 0 ∨ i = 1 ∨ i = 2 := by omega)
  all_goals (unfold isT; decide)
