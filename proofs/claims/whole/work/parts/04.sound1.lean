/-! SOUNDNESS, 1: values, locals, instructions on the stack, on locals, jumps -/
/-- script's cell, first cell of our own, length and ints of the script, classes and slots, array classes -/
abbrev Cx : Type := Nat × Nat × Nat × (Nat → Int32) × va_G × (Nat → ClassId)
def ph (X : Cx) (a : Nat) : Nat := cond (Nat.beq a 0) X.1 (X.2.1 + (a - 1))
def vC (X : Cx) (v : AV) : Value := match v with
  | .inl z => .int (Int32.ofInt z)
  | .inr (.inl z) => .long (Int64.ofInt z)
  | .inr (.inr a) => .ref (ph X a)
def LR (X : Cx) (n : Nat) (ls : LSt) (lc : Array Slot) : Prop := lc.size = n ∧ lv_wf lc ∧ ∀ i v, lget ls i = some v → lc[i]? = some (.val (vC X v))
def lvO (X : Cx) : Nat → LSt → List (Nat × Value)
  | _, [] => []
  | i, none :: l => lvO X (i + 1) l
  | i, some v :: l => (i, vC X v) :: lvO X (i + 1) l
theorem lvO_mem (X : Cx) : ∀ (ls : LSt) (i : Nat) (q : Nat × Value), q ∈ lvO X i ls → ∃ k v, q = (i + k, vC X v) ∧ lget ls k = some v
  | [], _, _, h => by simp [lvO] at h
  | none :: l, i, q, h => by
    obtain ⟨k, v, e, g⟩ := lvO_mem X l (i + 1) q h
    exact ⟨k + 1, v, by rw [e]; congr 1; omega, g⟩
  | some v :: l, i, q, h => by
    rcases List.mem_cons.mp h with e | h
    · exact ⟨0, v, e, rfl⟩
    · obtain ⟨k, w, e, g⟩ := lvO_mem X l (i + 1) q h
      exact ⟨k + 1, w, by rw [e]; congr 1; omega, g⟩
theorem lvO_in (X : Cx) : ∀ (ls : LSt) (i k : Nat) (v : AV), lget ls k = some v → (i + k, vC X v) ∈ lvO X i ls
  | [], _, _, _, h => by simp [lget] at h
  | none :: l, i, 0, v, h => by simp [lget] at h
  | none :: l, i, k + 1, v, h => by
    have := lvO_in X l (i + 1) k v h
    rw [show i + (k + 1) = i + 1 + k by omega]
    exact this
  | some w :: l, i, 0, v, h => by
    have e : w = v := Option.some.inj h
    subst e
    exact List.mem_cons_self
  | some w :: l, i, k + 1, v, h => by
    have := lvO_in X l (i + 1) k v h
    rw [show i + (k + 1) = i + 1 + k by omega]
    exact List.mem_cons_of_mem _ this
theorem lget_set_same : ∀ (l : LSt) (i : Nat) (w : Option AV) (v : AV), lget (lset l i w) i = some v → w = some v
  | [], _, _, _, h => by simp [lset, lget] at h
  | _ :: _, 0, _, _, h => h
  | _ :: l, i + 1, w, v, h => lget_set_same l i w v h
theorem lget_set_ne : ∀ (l : LSt) (i j : Nat) (w : Option AV), j ≠ i → lget (lset l i w) j = lget l j
  | [], _, _, _, _ => rfl
  | _ :: _, 0, 0, _, h => absurd rfl h
  | _ :: _, 0, _ + 1, _, _ => rfl
  | _ :: _, _ + 1, 0, _, _ => rfl
  | _ :: l, i + 1, j + 1, w, h => lget_set_ne l i j w (fun e => h (by rw [e]))
theorem lget_kill {ls : LSt} {i j : Nat} {v : AV} (h : lget (lkill ls i) j = some v) : lget ls j = some v ∧ ¬ (j + 1 = i ∧ isL (some v) = true) := by
  cases i with
  | zero => exact ⟨h, fun e => by omega⟩
  | succ k =>
    simp only [lkill] at h
    cases hL : isL (lget ls k) with
    | false =>
      rw [hL] at h
      refine ⟨h, fun e => ?_⟩
      have ej : j = k := by omega
      subst ej
      have h2 : lget ls j = some v := h
      rw [h2, e.2] at hL
      cases hL
    | true =>
      rw [hL] at h
      by_cases ej : j = k
      · subst ej
        exact absurd (lget_set_same ls j none v h) (by simp)
      · have h2 : lget (lset ls k none) j = some v := h
        rw [lget_set_ne ls k j none ej] at h2
        exact ⟨h2, fun e => ej (by omega)⟩
theorem vC_cat (X : Cx) (v : AV) : ((vC X v).category = 2) ↔ isL (some v) = true := by
  rcases v with z | z | a <;> simp [vC, isL, Value.category]
theorem LR.has {X : Cx} {n : Nat} {ls : LSt} {lc : Array Slot} (h : LR X n ls lc) : lv_has lc n (lvO X 0 ls) := ⟨h.1, h.2.1, fun q hq => by
  obtain ⟨k, v, e, g⟩ := lvO_mem X ls 0 q hq
  rw [e]
  have := h.2.2 k v g
  simpa using this⟩
theorem LR.one {X : Cx} {n i : Nat} {ls : LSt} {lc : Array Slot} {v : AV} (h : lv_has lc n ((i, vC X v) :: (lvO X 0 ls).filter (fun q => !(q.1 == i) && !(q.1 + 1 == i && q.2.category == 2)))) : LR X n (lsto ls i v) lc := by
  refine ⟨h.1, h.2.1, fun j w hj => ?_⟩
  by_cases e : j = i
  · subst e
    have e2 := lget_set_same _ _ _ _ hj
    rw [← Option.some.inj e2]
    exact h.2.2 _ List.mem_cons_self
  · have h1 : lget (lset (lkill ls i) i (some v)) j = some w := hj
    rw [lget_set_ne _ _ _ _ e] at h1
    obtain ⟨h2, h3⟩ := lget_kill h1
    refine h.2.2 (j, vC X w) (List.mem_cons_of_mem _ (List.mem_filter.mpr ⟨by simpa using lvO_in X ls 0 j w h2, ?_⟩))
    by_cases e1 : j + 1 = i
    · have : ¬ (vC X w).category = 2 := fun q => h3 ⟨e1, (vC_cat X w).mp q⟩
      simp [e, this]
    · simp [e, e1]
theorem LR.two {X : Cx} {n i : Nat} {ls : LSt} {lc : Array Slot} {v : AV} (h : lv_has lc n ((i, vC X v) :: (lvO X 0 ls).filter (fun q => !(q.1 == i) && (!(q.1 == i + 1) && !(q.1 + 1 == i && q.2.category == 2))))) : LR X n (lst2 ls i v) lc := by
  refine ⟨h.1, h.2.1, fun j w hj => ?_⟩
  by_cases e : j = i
  · subst e
    have e2 := lget_set_same _ _ _ _ hj
    rw [← Option.some.inj e2]
    exact h.2.2 _ List.mem_cons_self
  · have h1 : lget (lset (lset (lkill ls i) (i + 1) none) i (some v)) j = some w := hj
    rw [lget_set_ne _ _ _ _ e] at h1
    by_cases e4 : j = i + 1
    · subst e4
      exact absurd (lget_set_same _ _ _ _ h1) (by simp)
    rw [lget_set_ne _ _ _ _ e4] at h1
    obtain ⟨h2, h3⟩ := lget_kill h1
    refine h.2.2 (j, vC X w) (List.mem_cons_of_mem _ (List.mem_filter.mpr ⟨by simpa using lvO_in X ls 0 j w h2, ?_⟩))
    by_cases e1 : j + 1 = i
    · have : ¬ (vC X w).category = 2 := fun q => h3 ⟨e1, (vC_cat X w).mp q⟩
      simp [e, e4, this]
    · simp [e, e1, e4]
theorem r32_in {z : Int} (h : r32 z = true) : -2 ^ 31 ≤ z ∧ z < 2 ^ 31 := by
  simp only [r32, Bool.and_eq_true, decide_eq_true_eq] at h
  omega
theorem r64_in {z : Int} (h : r64 z = true) : -2 ^ 63 ≤ z ∧ z < 2 ^ 63 := by
  simp only [r64, Bool.and_eq_true, decide_eq_true_eq] at h
  omega
theorem t32 {z : Int} (h : r32 z = true) : (Int32.ofInt z).toInt = z := Int32.toInt_ofInt_of_le (r32_in h).1 (r32_in h).2
theorem t64 {z : Int} (h : r64 z = true) : (Int64.ofInt z).toInt = z := Int64.toInt_ofInt_of_le (r64_in h).1 (r64_in h).2
theorem e32 {a b : Int} (ha : r32 a = true) (hb : r32 b = true) : (Int32.ofInt a = Int32.ofInt b) ↔ a = b := by rw [← Int32.toInt_inj, t32 ha, t32 hb]
theorem l32 {a b : Int} (ha : r32 a = true) (hb : r32 b = true) : (Int32.ofInt a < Int32.ofInt b) ↔ a < b := by rw [Int32.lt_iff_toInt_lt, t32 ha, t32 hb]
theorem g32 {a b : Int} (ha : r32 a = true) (hb : r32 b = true) : (Int32.ofInt a ≤ Int32.ofInt b) ↔ a ≤ b := by rw [Int32.le_iff_toInt_le, t32 ha, t32 hb]
theorem i2_inv {g : Int → Int → Bool} {f : Int → Int → Int} {st st' : St} {q : Bool} (h : i2 g f st = some (q, st')) : ∃ a b r, st = .inl b :: .inl a :: r ∧ g a b = q ∧ st' = .inl (f a b) :: r := by
  match st, h with
  | .inl b :: .inl a :: r, h =>
    simp only [i2, Option.some.injEq, Prod.mk.injEq] at h
    exact ⟨a, b, r, rfl, h.1, h.2.symm⟩
theorem l2_inv {g : Int → Int → Bool} {f : Int → Int → Int} {st st' : St} {q : Bool} (h : l2 g f st = some (q, st')) : ∃ a b r, st = .inr (.inl b) :: .inr (.inl a) :: r ∧ g a b = q ∧ st' = .inr (.inl (f a b)) :: r := by
  match st, h with
  | .inr (.inl b) :: .inr (.inl a) :: r, h =>
    simp only [l2, Option.some.injEq, Prod.mk.injEq] at h
    exact ⟨a, b, r, rfl, h.1, h.2.symm⟩
theorem ls2_inv {f : Int → Int → Int} {st st' : St} {q : Bool} (h : ls2 f st = some (q, st')) : ∃ a b r, st = .inl b :: .inr (.inl a) :: r ∧ st' = .inr (.inl (f a b)) :: r := by
  match st, h with
  | .inl b :: .inr (.inl a) :: r, h =>
    simp only [ls2, Option.some.injEq, Prod.mk.injEq] at h
    exact ⟨a, b, r, rfl, h.2.symm⟩
theorem gD_in {a b : Int} (h : gD a b = true) : r32 a = true ∧ r32 b = true ∧ ¬ b = 0 := by
  simpa [gD] using h
theorem gL_in {a b : Int} (h : gL a b = true) : r64 a = true ∧ r64 b = true ∧ ¬ b = 0 := by
  simpa [gL] using h
theorem div32 {a b : Int} (h : gD a b = true) : Int32.ofInt a / Int32.ofInt b = Int32.ofInt (a.tdiv b) := by
  obtain ⟨h1, h2, -⟩ := gD_in h
  have h1 := r32_in h1
  have h2 := r32_in h2
  exact (Int32.ofInt_tdiv (show (-2147483648 : Int) ≤ a by omega) (show a ≤ 2147483647 by omega) (show (-2147483648 : Int) ≤ b by omega) (show b ≤ 2147483647 by omega)).symm
theorem div64 {a b : Int} (h : gL a b = true) : Int64.ofInt a / Int64.ofInt b = Int64.ofInt (a.tdiv b) := by
  obtain ⟨h1, h2, -⟩ := gL_in h
  have h1 := r64_in h1
  have h2 := r64_in h2
  exact (Int64.ofInt_tdiv (show (-9223372036854775808 : Int) ≤ a by omega) (show a ≤ 9223372036854775807 by omega) (show (-9223372036854775808 : Int) ≤ b by omega) (show b ≤ 9223372036854775807 by omega)).symm
theorem rem32 {a b : Int} (h : gD a b = true) : Int32.ofInt a - Int32.ofInt a / Int32.ofInt b * Int32.ofInt b = Int32.ofInt (a.tmod b) := by
  rw [div32 h, ← Int32.ofInt_mul, ← Int32.ofInt_sub]
  congr 1
  have := Int.mul_tdiv_add_tmod a b
  rw [Int.mul_comm] at this
  omega
theorem rem64 {a b : Int} (h : gL a b = true) : Int64.ofInt a - Int64.ofInt a / Int64.ofInt b * Int64.ofInt b = Int64.ofInt (a.tmod b) := by
  rw [div64 h, ← Int64.ofInt_mul, ← Int64.ofInt_sub]
  congr 1
  have := Int.mul_tdiv_add_tmod a b
  rw [Int.mul_comm] at this
  omega
theorem nz32 {b : Int} (h : r32 b = true) (h0 : ¬ b = 0) : ¬ Int32.ofInt b = 0 := fun e => h0 ((e32 h (show r32 0 = true from rfl)).mp e)
theorem nz64 {b : Int} (h : r64 b = true) (h0 : ¬ b = 0) : ¬ Int64.ofInt b = 0 := fun e => h0 (by
  have := congrArg Int64.toInt e
  rw [t64 h] at this
  exact this)
theorem i2l_of {a : Int} (h : r32 a = true) : (Int32.ofInt a).toInt64 = Int64.ofInt a := by
  have h1 := r32_in h
  exact Int32.toInt64_ofInt (show (-2147483648 : Int) ≤ a by omega) (show a ≤ 2147483647 by omega)
theorem cmp_of {a b : Int} (ha : r64 a = true) (hb : r64 b = true) : lg_cmp (Int64.ofInt a) (Int64.ofInt b) = Int32.ofInt (cmpI a b) := by
  unfold lg_cmp cmpI
  simp only [gt_iff_lt, Int64.lt_iff_toInt_lt, ← Int64.toInt_inj, t64 ha, t64 hb]
  by_cases h1 : b < a
  · simp [h1]
  · by_cases h2 : a = b
    · simp [h2]
    · simp [h1, h2]
/-- what the tables give of an instruction that pushes a constant -/
def kA (own : String) (args : Array Value) (s : State) (z : Int) (ins : Instr) : Prop := match ins with
  | .bipush n => (Int8.ofInt n).toInt32 = Int32.ofInt n
  | .sipush n => (Int16.ofInt n).toInt32 = Int32.ofInt n
  | .ldc_w i => (Cond.constant own i (Int32.ofInt z)).before args s = true
  | .ldc2_w i => (Cond.constantLong own i (Int64.ofInt z)).before args s = true
  | _ => True
section SA
variable {p : Program} {l : Launch} {e : Env} {R : Room} {s : State} {m : MethodId} {args : Array Value} {below : List Frame} {meth : Method} {c : Code} {H : Heap} {locs : List Loc} {cells slots : Nat} {Q : State → Prop} {cc : ByteArray} {own : String}
theorem st_A (X : Cx) (hx : p.tables.exec = Jvm.exec) (hb : c.code = cc) (hown : s.vm.findClass own = some m.cls) {ins : Instr} {z : Int} {st st' : St} {pc : Nat} {lc : Array Slot} (hd : decode cc pc = .ok (ins, ilen ins)) (hw : kA own args s z ins) (h : fA ins z st = some (true, st'))
    (k : W p l e R s m args below meth c H locs cells slots Q (F0 m (pc + ilen ins) lc (st'.map (vC X)))) : W p l e R s m args below meth c H locs cells slots Q (F0 m pc lc (st.map (vC X))) := by
  cases ins
  all_goals try (exfalso; simp [fA] at h; done)
  case iconst n =>
    simp only [fA, Option.some.injEq, Prod.mk.injEq, true_and] at h
    subst h
    exact lv_iconst hx hb hd rfl k
  case bipush n =>
    simp only [fA, Option.some.injEq, Prod.mk.injEq, true_and] at h
    subst h
    exact lv_bipush hx hb hd hw k
  case sipush n =>
    simp only [fA, Option.some.injEq, Prod.mk.injEq, true_and] at h
    subst h
    exact lv_sipush hx hb hd hw k
  case lconst n =>
    simp only [fA, Option.some.injEq, Prod.mk.injEq, true_and] at h
    subst h
    exact lv_lconst hx hb hd Int64.ofInt_eq_ofNat.symm k
  case ldc_w i =>
    simp only [fA, Option.some.injEq, Prod.mk.injEq, true_and] at h
    subst h
    exact lv_ldcw hx hb hown hw hd k
  case ldc2_w i =>
    simp only [fA, Option.some.injEq, Prod.mk.injEq, true_and] at h
    subst h
    exact lv_ldc2 hx hb hown hw hd k
  case iadd =>
    obtain ⟨a, b, r, rfl, -, rfl⟩ := i2_inv h
    refine lv_iadd hx hb hd ?_
    rw [← Int32.ofInt_add]; exact k
  case isub =>
    obtain ⟨a, b, r, rfl, -, rfl⟩ := i2_inv h
    refine lv_isub hx hb hd ?_
    rw [← Int32.ofInt_sub]; exact k
  case imul =>
    obtain ⟨a, b, r, rfl, -, rfl⟩ := i2_inv h
    refine lv_imul hx hb hd ?_
    rw [← Int32.ofInt_mul]; exact k
  case idiv =>
    obtain ⟨a, b, r, rfl, hg, rfl⟩ := i2_inv h
    refine lv_idiv hx hb hd (nz32 (gD_in hg).2.1 (gD_in hg).2.2) ?_
    rw [div32 hg]; exact k
  case irem =>
    obtain ⟨a, b, r, rfl, hg, rfl⟩ := i2_inv h
    refine lv_irem hx hb hd (nz32 (gD_in hg).2.1 (gD_in hg).2.2) ?_
    rw [rem32 hg]; exact k
  case iand =>
    obtain ⟨a, b, r, rfl, -, rfl⟩ := i2_inv h
    refine lv_iand hx hb hd ?_
    rw [← Int32.ofInt_toInt (Int32.ofInt a &&& Int32.ofInt b)]; exact k
  case ior =>
    obtain ⟨a, b, r, rfl, -, rfl⟩ := i2_inv h
    refine lv_ior hx hb hd ?_
    rw [← Int32.ofInt_toInt (Int32.ofInt a ||| Int32.ofInt b)]; exact k
  case ixor =>
    obtain ⟨a, b, r, rfl, -, rfl⟩ := i2_inv h
    refine lv_ixor hx hb hd ?_
    rw [← Int32.ofInt_toInt (Int32.ofInt a ^^^ Int32.ofInt b)]; exact k
  case ishl =>
    obtain ⟨a, b, r, rfl, -, rfl⟩ := i2_inv h
    refine lv_ishl hx hb hd ?_
    rw [← Int32.ofInt_toInt (Int32.ofInt a <<< (Int32.ofInt b &&& 31))]; exact k
  case ishr =>
    obtain ⟨a, b, r, rfl, -, rfl⟩ := i2_inv h
    refine lv_ishr hx hb hd ?_
    rw [← Int32.ofInt_toInt (Int32.ofInt a >>> (Int32.ofInt b &&& 31))]; exact k
  case iushr =>
    obtain ⟨a, b, r, rfl, -, rfl⟩ := i2_inv h
    exact lv_iushr hx hb hd (Int32.ofInt_toInt _).symm k
  case ladd =>
    obtain ⟨a, b, r, rfl, -, rfl⟩ := l2_inv h
    refine lv_ladd hx hb hd ?_
    rw [← Int64.ofInt_add]; exact k
  case lsub =>
    obtain ⟨a, b, r, rfl, -, rfl⟩ := l2_inv h
    refine lv_lsub hx hb hd ?_
    rw [← Int64.ofInt_sub]; exact k
  case lmul =>
    obtain ⟨a, b, r, rfl, -, rfl⟩ := l2_inv h
    refine lv_lmul hx hb hd ?_
    rw [← Int64.ofInt_mul]; exact k
  case ldiv =>
    obtain ⟨a, b, r, rfl, hg, rfl⟩ := l2_inv h
    refine lv_ldiv hx hb hd (nz64 (gL_in hg).2.1 (gL_in hg).2.2) ?_
    rw [div64 hg]; exact k
  case lrem =>
    obtain ⟨a, b, r, rfl, hg, rfl⟩ := l2_inv h
    refine lv_lrem hx hb hd (nz64 (gL_in hg).2.1 (gL_in hg).2.2) ?_
    rw [rem64 hg]; exact k
  case land =>
    obtain ⟨a, b, r, rfl, -, rfl⟩ := l2_inv h
    refine lv_land hx hb hd ?_
    rw [← Int64.ofInt_toInt (Int64.ofInt a &&& Int64.ofInt b)]; exact k
  case lor =>
    obtain ⟨a, b, r, rfl, -, rfl⟩ := l2_inv h
    refine lv_lor hx hb hd ?_
    rw [← Int64.ofInt_toInt (Int64.ofInt a ||| Int64.ofInt b)]; exact k
  case lshl =>
    obtain ⟨a, b, r, rfl, rfl⟩ := ls2_inv h
    exact lv_lshl hx hb hd (Int64.ofInt_toInt _).symm k
  case lshr =>
    obtain ⟨a, b, r, rfl, rfl⟩ := ls2_inv h
    exact lv_lshr hx hb hd (Int64.ofInt_toInt _).symm k
  case lushr =>
    obtain ⟨a, b, r, rfl, rfl⟩ := ls2_inv h
    exact lv_lushr hx hb hd (Int64.ofInt_toInt _).symm k
  case ineg =>
    match st, h with
    | .inl a :: r, h =>
      simp only [fA, Option.some.injEq, Prod.mk.injEq, true_and] at h
      subst h
      refine lv_ineg hx hb hd ?_
      rw [← Int32.ofInt_neg]; exact k
  case i2l =>
    match st, h with
    | .inl a :: r, h =>
      simp only [fA, Option.some.injEq, Prod.mk.injEq] at h
      obtain ⟨hg, rfl⟩ := h
      exact lv_i2l hx hb hd (i2l_of hg) k
  case l2i =>
    match st, h with
    | .inr (.inl a) :: r, h =>
      simp only [fA, Option.some.injEq, Prod.mk.injEq, true_and] at h
      subst h
      exact lv_l2i hx hb hd Int64.toInt32_ofInt k
  case lcmp =>
    match st, h with
    | .inr (.inl b) :: .inr (.inl a) :: r, h =>
      simp only [fA, Option.some.injEq, Prod.mk.injEq, Bool.and_eq_true] at h
      obtain ⟨hg, rfl⟩ := h
      refine W.lcmp hx hb hd ?_
      rw [cmp_of hg.1 hg.2]; exact k
  case dup =>
    match st, h with
    | .inl a :: r, h =>
      simp only [fA, Option.some.injEq, Prod.mk.injEq, true_and] at h
      subst h
      exact lv_dup hx hb hd rfl k
    | .inr (.inr a) :: r, h =>
      simp only [fA, Option.some.injEq, Prod.mk.injEq, true_and] at h
      subst h
      exact lv_dup hx hb hd rfl k
  case dup2 =>
    match st, h with
    | .inr (.inl a) :: r, h =>
      simp only [fA, Option.some.injEq, Prod.mk.injEq, true_and] at h
      subst h
      exact lv_dup2_2 hx hb hd rfl k
    | .inl a :: .inr (.inr b) :: r, h =>
      simp only [fA, Option.some.injEq, Prod.mk.injEq, true_and] at h
      subst h
      exact lv_dup2_11 hx hb hd rfl rfl k
  case pop2 =>
    match st, h with
    | .inr (.inl a) :: r, h =>
      simp only [fA, Option.some.injEq, Prod.mk.injEq, true_and] at h
      subst h
      exact lv_pop2_2 hx hb hd rfl k
  case pop =>
    match st, h with
    | .inl a :: r, h =>
      simp only [fA, Option.some.injEq, Prod.mk.injEq, true_and] at h
      subst h
      exact lv_pop hx hb hd rfl k
theorem gI_inv {v : Option AV} {ls ls' : LSt} {st st' : St} {q : Bool} (h : gI v ls st = some (q, ls', st')) : ∃ a, v = some (.inl a) ∧ ls' = ls ∧ st' = .inl a :: st := by
  match v, h with
  | some (.inl a), h =>
    simp only [gI, Option.some.injEq, Prod.mk.injEq] at h
    exact ⟨a, rfl, h.2.1.symm, h.2.2.symm⟩
theorem gJ_inv {v : Option AV} {ls ls' : LSt} {st st' : St} {q : Bool} (h : gJ v ls st = some (q, ls', st')) : ∃ a, v = some (.inr (.inl a)) ∧ ls' = ls ∧ st' = .inr (.inl a) :: st := by
  match v, h with
  | some (.inr (.inl a)), h =>
    simp only [gJ, Option.some.injEq, Prod.mk.injEq] at h
    exact ⟨a, rfl, h.2.1.symm, h.2.2.symm⟩
theorem gR_inv {v : Option AV} {ls ls' : LSt} {st st' : St} {q : Bool} (h : gR v ls st = some (q, ls', st')) : ∃ a, v = some (.inr (.inr a)) ∧ ls' = ls ∧ st' = .inr (.inr a) :: st := by
  match v, h with
  | some (.inr (.inr a)), h =>
    simp only [gR, Option.some.injEq, Prod.mk.injEq] at h
    exact ⟨a, rfl, h.2.1.symm, h.2.2.symm⟩
theorem pI_inv {i : Nat} {ls ls' : LSt} {st st' : St} {q : Bool} (h : pI i ls st = some (q, ls', st')) : ∃ a, st = .inl a :: st' ∧ ls' = lsto ls i (.inl a) := by
  match st, h with
  | .inl a :: r, h =>
    simp only [pI, Option.some.injEq, Prod.mk.injEq] at h
    exact ⟨a, by rw [h.2.2], h.2.1.symm⟩
theorem pJ_inv {i : Nat} {ls ls' : LSt} {st st' : St} {q : Bool} (h : pJ i ls st = some (q, ls', st')) : ∃ a, st = .inr (.inl a) :: st' ∧ ls' = lst2 ls i (.inr (.inl a)) := by
  match st, h with
  | .inr (.inl a) :: r, h =>
    simp only [pJ, Option.some.injEq, Prod.mk.injEq] at h
    exact ⟨a, by rw [h.2.2], h.2.1.symm⟩
theorem pR_inv {i : Nat} {ls ls' : LSt} {st st' : St} {q : Bool} (h : pR i ls st = some (q, ls', st')) : ∃ a, st = .inr (.inr a) :: st' ∧ ls' = lsto ls i (.inr (.inr a)) := by
  match st, h with
  | .inr (.inr a) :: r, h =>
    simp only [pR, Option.some.injEq, Prod.mk.injEq] at h
    exact ⟨a, by rw [h.2.2], h.2.1.symm⟩
/-- what the tables give of an instruction on locals -/
def kL (n : Nat) (ins : Instr) : Prop := match ins with
  | .istore i => i < n
  | .istore_n i => i.val < n
  | .astore i => i < n
  | .astore_n i => i.val < n
  | .lstore i => i + 1 < n
  | .lstore_n i => i.val + 1 < n
  | .iinc i _ => i < n
  | _ => True
theorem st_L (X : Cx) (hx : p.tables.exec = Jvm.exec) (hb : c.code = cc) {n : Nat} {ins : Instr} {ls ls' : LSt} {st st' : St} {q : Bool} {pc : Nat} {lc : Array Slot} (hd : decode cc pc = .ok (ins, ilen ins)) (hw : kL n ins) (h : fL ins ls st = some (q, ls', st')) (hL : LR X n ls lc)
    (k : ∀ lc', LR X n ls' lc' → W p l e R s m args below meth c H locs cells slots Q (F0 m (pc + ilen ins) lc' (st'.map (vC X)))) : W p l e R s m args below meth c H locs cells slots Q (F0 m pc lc (st.map (vC X))) := by
  cases ins
  all_goals try (exfalso; simp [fL] at h; done)
  case iload i =>
    obtain ⟨a, e, rfl, rfl⟩ := gI_inv h
    exact lv_iload hx hb hd (hL.2.2 _ _ e) (k lc hL)
  case iload_n i =>
    obtain ⟨a, e, rfl, rfl⟩ := gI_inv h
    exact lv_iload_n hx hb hd rfl (hL.2.2 _ _ e) (k lc hL)
  case lload i =>
    obtain ⟨a, e, rfl, rfl⟩ := gJ_inv h
    exact lv_lload hx hb hd (hL.2.2 _ _ e) (k lc hL)
  case lload_n i =>
    obtain ⟨a, e, rfl, rfl⟩ := gJ_inv h
    exact lv_lload_n hx hb hd rfl (hL.2.2 _ _ e) (k lc hL)
  case aload i =>
    obtain ⟨a, e, rfl, rfl⟩ := gR_inv h
    exact lv_aload hx hb hd (hL.2.2 _ _ e) (k lc hL)
  case aload_n i =>
    obtain ⟨a, e, rfl, rfl⟩ := gR_inv h
    exact lv_aload_n hx hb hd rfl (hL.2.2 _ _ e) (k lc hL)
  case istore i =>
    obtain ⟨a, rfl, rfl⟩ := pI_inv h
    exact lv_istore hx hb hd hL.has hw rfl (fun lc' h' => k lc' (LR.one (v := .inl a) h'))
  case istore_n i =>
    obtain ⟨a, rfl, rfl⟩ := pI_inv h
    exact lv_istore_n hx hb hd rfl hL.has hw rfl (fun lc' h' => k lc' (LR.one (v := .inl a) h'))
  case lstore i =>
    obtain ⟨a, rfl, rfl⟩ := pJ_inv h
    exact lv_lstore hx hb hd hL.has hw rfl (fun lc' h' => k lc' (LR.two (v := .inr (.inl a)) h'))
  case lstore_n i =>
    obtain ⟨a, rfl, rfl⟩ := pJ_inv h
    exact lv_lstore_n hx hb hd rfl hL.has hw rfl (fun lc' h' => k lc' (LR.two (v := .inr (.inl a)) h'))
  case astore i =>
    obtain ⟨a, rfl, rfl⟩ := pR_inv h
    exact lv_astore hx hb hd hL.has hw rfl (fun lc' h' => k lc' (LR.one (v := .inr (.inr a)) h'))
  case astore_n i =>
    obtain ⟨a, rfl, rfl⟩ := pR_inv h
    exact lv_astore_n hx hb hd rfl hL.has hw rfl (fun lc' h' => k lc' (LR.one (v := .inr (.inr a)) h'))
  case iinc i j =>
    simp only [fL] at h
    split at h
    · rename_i a e
      simp only [Option.some.injEq, Prod.mk.injEq] at h
      obtain ⟨-, rfl, rfl⟩ := h
      have hm := lvO_in X ls 0 i _ e
      rw [Nat.zero_add] at hm
      obtain ⟨kk, hk, he⟩ := List.getElem_of_mem hm
      exact lv_iinc (v := Int32.ofInt (a + j)) hx hb hd hL.has (k := kk) (by rw [List.getElem?_eq_getElem hk, he]; rfl) (Int32.ofInt_add a j).symm hw rfl (fun lc' h' => k lc' (LR.one (v := .inl (a + j)) h'))
    · cases h
/-- what the tables give of a jump -/
def kJ (pc y : Nat) (ins : Instr) : Prop := match ins with
  | .goto off => (pc : Int) + off = (y : Int)
  | .if_icmp _ off => (pc : Int) + off = (y : Int)
  | .ifCond _ off => (pc : Int) + off = (y : Int)
  | .tableswitch _ lo hi offs => (offs.toList.length : Int) = hi - lo + 1
  | .lookupswitch _ ps => (ps.toList.zip (ps.toList.drop 1)).all (fun (a, next) => a.1 < next.1) = true
  | _ => True
theorem st_J (X : Cx) (hx : p.tables.exec = Jvm.exec) (hb : c.code = cc) {ins : Instr} {st st' : St} {pc pc' nx y : Nat} {lc : Array Slot} (hd : decode cc pc = .ok (ins, nx - pc)) (hn : isSw ins = false → nx = pc + ilen ins) (hw : kJ pc y ins) (h : fJ ins pc nx y st = some (true, pc', st'))
    (k : W p l e R s m args below meth c H locs cells slots Q (F0 m pc' lc (st'.map (vC X)))) : W p l e R s m args below meth c H locs cells slots Q (F0 m pc lc (st.map (vC X))) := by
  cases ins
  all_goals try (exfalso; simp [fJ] at h; done)
  case goto off =>
    simp only [fJ, Option.some.injEq, Prod.mk.injEq, true_and] at h
    obtain ⟨rfl, rfl⟩ := h
    have hn := hn rfl
    subst hn
    rw [Nat.add_sub_cancel_left] at hd
    exact lv_goto hx hb hd hw k
  case if_icmp cd off =>
    match st, h with
    | .inl b :: .inl a :: r, h =>
      simp only [fJ, Option.some.injEq, Prod.mk.injEq, Bool.and_eq_true] at h
      obtain ⟨⟨ha, hb2⟩, rfl, rfl⟩ := h
      have hn := hn rfl
      subst hn
      rw [Nat.add_sub_cancel_left] at hd
      cases cd
      case eq => exact lv_icmp_eq hx hb hd hw (fun q => by simpa [cmpC, ilen, (e32 ha hb2).mp q] using k) (fun q => by simpa [cmpC, ilen, show ¬ a = b from fun z => q ((e32 ha hb2).mpr z)] using k)
      case ne => exact lv_icmp_ne hx hb hd hw (fun q => by simpa [cmpC, ilen, show ¬ a = b from fun z => q ((e32 ha hb2).mpr z)] using k) (fun q => by simpa [cmpC, ilen, (e32 ha hb2).mp q] using k)
      case lt => exact lv_icmp_lt hx hb hd hw (fun q => by simpa [cmpC, ilen, (l32 ha hb2).mp q] using k) (fun q => by simpa [cmpC, ilen, show ¬ a < b from fun z => q ((l32 ha hb2).mpr z)] using k)
      case ge => exact lv_icmp_ge hx hb hd hw (fun q => by simpa [cmpC, ilen, (g32 hb2 ha).mp q] using k) (fun q => by simpa [cmpC, ilen, show ¬ b ≤ a from fun z => q ((g32 hb2 ha).mpr z)] using k)
      case gt => exact lv_icmp_gt hx hb hd hw (fun q => by simpa [cmpC, ilen, (l32 hb2 ha).mp q] using k) (fun q => by simpa [cmpC, ilen, show ¬ b < a from fun z => q ((l32 hb2 ha).mpr z)] using k)
      case le => exact lv_icmp_le hx hb hd hw (fun q => by simpa [cmpC, ilen, (g32 ha hb2).mp q] using k) (fun q => by simpa [cmpC, ilen, show ¬ a ≤ b from fun z => q ((g32 ha hb2).mpr z)] using k)
  case ifCond cd off =>
    match st, h with
    | .inl a :: r, h =>
      simp only [fJ, Option.some.injEq, Prod.mk.injEq] at h
      obtain ⟨ha, rfl, rfl⟩ := h
      have h0 : r32 0 = true := rfl
      have hn := hn rfl
      subst hn
      rw [Nat.add_sub_cancel_left] at hd
      cases cd
      case eq => exact lv_if_eq hx hb hd hw (fun q => by simpa [cmpC, ilen, (e32 ha h0).mp q] using k) (fun q => by simpa [cmpC, ilen, show ¬ a = 0 from fun z => q ((e32 ha h0).mpr z)] using k)
      case ne => exact lv_if_ne hx hb hd hw (fun q => by simpa [cmpC, ilen, show ¬ a = 0 from fun z => q ((e32 ha h0).mpr z)] using k) (fun q => by simpa [cmpC, ilen, (e32 ha h0).mp q] using k)
      case lt => exact lv_if_lt hx hb hd hw (fun q => by simpa [cmpC, ilen, (l32 ha h0).mp q] using k) (fun q => by simpa [cmpC, ilen, show ¬ a < 0 from fun z => q ((l32 ha h0).mpr z)] using k)
      case ge => exact lv_if_ge hx hb hd hw (fun q => by simpa [cmpC, ilen, (g32 h0 ha).mp q] using k) (fun q => by simpa [cmpC, ilen, show ¬ 0 ≤ a from fun z => q ((g32 h0 ha).mpr z)] using k)
      case gt => exact lv_if_gt hx hb hd hw (fun q => by simpa [cmpC, ilen, (l32 h0 ha).mp q] using k) (fun q => by simpa [cmpC, ilen, show ¬ 0 < a from fun z => q ((l32 h0 ha).mpr z)] using k)
      case le => exact lv_if_le hx hb hd hw (fun q => by simpa [cmpC, ilen, (g32 ha h0).mp q] using k) (fun q => by simpa [cmpC, ilen, show ¬ a ≤ 0 from fun z => q ((g32 ha h0).mpr z)] using k)
  case tableswitch d lo hi offs =>
    match st, h with
    | .inl a :: r, h =>
      simp only [fJ, Option.some.injEq, Prod.mk.injEq, Bool.and_eq_true, decide_eq_true_eq] at h
      obtain ⟨⟨ha, hz⟩, rfl, rfl⟩ := h
      by_cases ho : a < lo ∨ hi < a
      · refine lv_tableOut (tgt := (tsw pc d lo hi offs.toList a).toNat) hx hb hd (by rw [t32 ha]; exact ho) ?_ k
        rw [Int.toNat_of_nonneg hz]
        unfold tsw
        rcases ho with ho | ho <;> simp [ho]
      · have hw : (offs.toList.length : Int) = hi - lo + 1 := hw
        have hlt : (a - lo).toNat < offs.toList.length := by omega
        refine lv_tableIn (tgt := (tsw pc d lo hi offs.toList a).toNat) (off := offs.toList.getD (a - lo).toNat d) hx hb hd (by rw [t32 ha]; omega) (by rw [t32 ha]; omega) ?_ ?_ k
        · rw [t32 ha, ← Array.getElem?_toList, List.getElem?_eq_getElem hlt, List.getD_eq_getElem?_getD, List.getElem?_eq_getElem hlt]
          rfl
        · rw [Int.toNat_of_nonneg hz]
          unfold tsw
          have h1 : ¬ a < lo := fun q => ho (Or.inl q)
          have h2 : ¬ hi < a := fun q => ho (Or.inr q)
          simp [h1, h2]
  case lookupswitch d ps =>
    match st, h with
    | .inl a :: r, h =>
      simp only [fJ, Option.some.injEq, Prod.mk.injEq, Bool.and_eq_true, decide_eq_true_eq] at h
      obtain ⟨⟨ha, hz⟩, rfl, rfl⟩ := h
      refine lv_lookup (tgt := (lsw pc d ps.toList a).toNat) hx hb hd hw (by rw [t32 ha]) ?_ k
      rw [Int.toNat_of_nonneg hz]
      rfl
end SA
