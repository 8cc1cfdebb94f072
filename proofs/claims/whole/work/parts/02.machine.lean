/-! THE ABSTRACT MACHINE. Values: ints and longs as integers, references as abstract addresses. -/
abbrev AV : Type := Int ⊕ (Int ⊕ Nat)
abbrev LSt : Type := List (Option AV)
/-- next address (0: nothing more is made), slots made, kind and length of each cell, numbers, references -/
abbrev Mm : Type := Nat × Nat × (Nat → Nat × Nat) × (Nat → Nat → Int) × (Nat → Nat → Option Nat)
abbrev aT (μ : Mm) : Nat → Nat × Nat := μ.2.2.1
abbrev aV (μ : Mm) : Nat → Nat → Int := μ.2.2.2.1
abbrev aR (μ : Mm) : Nat → Nat → Option Nat := μ.2.2.2.2
def uV (V : Nat → Nat → Int) (a k : Nat) (z : Int) : Nat → Nat → Int := fun a' k' => cond (Nat.beq a' a && Nat.beq k' k) z (V a' k')
def uR (R : Nat → Nat → Option Nat) (a k : Nat) (z : Option Nat) : Nat → Nat → Option Nat := fun a' k' => cond (Nat.beq a' a && Nat.beq k' k) z (R a' k')
def uT (T : Nat → Nat × Nat) (a : Nat) (t : Nat × Nat) : Nat → Nat × Nat := fun a' => cond (Nat.beq a' a) t (T a')
/-- cells a, a+1 .. a+n with nothing in them -/
def zV (V : Nat → Nat → Int) (a n : Nat) : Nat → Nat → Int := fun a' k' => cond (Nat.ble a a' && Nat.ble a' (a + n)) 0 (V a' k')
def zR (R : Nat → Nat → Option Nat) (a n : Nat) : Nat → Nat → Option Nat := fun a' k' => cond (Nat.ble a a' && Nat.ble a' (a + n)) none (R a' k')
/-- a stretch copied -/
def cV (V : Nat → Nat → Int) (s sp d dp n : Nat) : Nat → Nat → Int := fun a' k' => cond (Nat.beq a' d && (Nat.ble dp k' && Nat.blt k' (dp + n))) (V s (sp + (k' - dp))) (V a' k')
def r32 (z : Int) : Bool := decide (-2147483648 ≤ z) && decide (z < 2147483648)
def r64 (z : Int) : Bool := decide (-9223372036854775808 ≤ z) && decide (z < 9223372036854775808)
def lget : LSt → Nat → Option AV
  | [], _ => none
  | v :: _, 0 => v
  | _ :: l, n + 1 => lget l n
def lset : LSt → Nat → Option AV → LSt
  | [], _, _ => []
  | _ :: l, 0, w => w :: l
  | v :: l, n + 1, w => v :: lset l n w
def isL (v : Option AV) : Bool := match v with
  | some (.inr (.inl _)) => true
  | _ => false
def lkill (ls : LSt) (i : Nat) : LSt := match i with
  | 0 => ls
  | j + 1 => cond (isL (lget ls j)) (lset ls j none) ls
def lsto (ls : LSt) (i : Nat) (v : AV) : LSt := lset (lkill ls i) i (some v)
def lst2 (ls : LSt) (i : Nat) (v : AV) : LSt := lset (lset (lkill ls i) (i + 1) none) i (some v)
abbrev St : Type := List AV
def i2 (g : Int → Int → Bool) (f : Int → Int → Int) (st : St) : Option (Bool × St) := match st with
  | .inl b :: .inl a :: r => some (g a b, .inl (f a b) :: r)
  | _ => none
def l2 (g : Int → Int → Bool) (f : Int → Int → Int) (st : St) : Option (Bool × St) := match st with
  | .inr (.inl b) :: .inr (.inl a) :: r => some (g a b, .inr (.inl (f a b)) :: r)
  | _ => none
def ls2 (f : Int → Int → Int) (st : St) : Option (Bool × St) := match st with
  | .inl b :: .inr (.inl a) :: r => some (true, .inr (.inl (f a b)) :: r)
  | _ => none
def gT (_ _ : Int) : Bool := true
def gD (a b : Int) : Bool := r32 a && (r32 b && !(decide (b = 0)))
def gL (a b : Int) : Bool := r64 a && (r64 b && !(decide (b = 0)))
def oAnd (a b : Int) : Int := (Int32.ofInt a &&& Int32.ofInt b).toInt
def oOr (a b : Int) : Int := (Int32.ofInt a ||| Int32.ofInt b).toInt
def oXor (a b : Int) : Int := (Int32.ofInt a ^^^ Int32.ofInt b).toInt
def oShl (a b : Int) : Int := (Int32.ofInt a <<< (Int32.ofInt b &&& 31)).toInt
def oShr (a b : Int) : Int := (Int32.ofInt a >>> (Int32.ofInt b &&& 31)).toInt
def oUshr (a b : Int) : Int := ((Int32.ofInt a).toUInt32 >>> ((Int32.ofInt b).toUInt32 &&& Int32.toUInt32 31)).toInt32.toInt
def oLand (a b : Int) : Int := (Int64.ofInt a &&& Int64.ofInt b).toInt
def oLor (a b : Int) : Int := (Int64.ofInt a ||| Int64.ofInt b).toInt
def oLshl (a b : Int) : Int := (Int64.ofInt a <<< ((Int32.ofInt b).toInt64 &&& 63)).toInt
def oLshr (a b : Int) : Int := (Int64.ofInt a >>> ((Int32.ofInt b).toInt64 &&& 63)).toInt
def oLushr (a b : Int) : Int := ((Int64.ofInt a).toUInt64 >>> ((Int32.ofInt b).toInt64.toUInt64 &&& Int64.toUInt64 63)).toInt64.toInt
def cmpI (a b : Int) : Int := cond (decide (b < a)) 1 (cond (decide (a = b)) 0 (-1))
/-- on the stack alone -/
def fA (ins : Instr) (z : Int) (st : St) : Option (Bool × St) := match ins with
  | .iconst n => some (true, .inl n :: st)
  | .bipush n => some (true, .inl n :: st)
  | .sipush n => some (true, .inl n :: st)
  | .lconst n => some (true, .inr (.inl n.val) :: st)
  | .ldc_w _ => some (true, .inl z :: st)
  | .ldc2_w _ => some (true, .inr (.inl z) :: st)
  | .iadd => i2 gT (fun a b => a + b) st
  | .isub => i2 gT (fun a b => a - b) st
  | .imul => i2 gT (fun a b => a * b) st
  | .idiv => i2 gD Int.tdiv st
  | .irem => i2 gD Int.tmod st
  | .iand => i2 gT oAnd st
  | .ior => i2 gT oOr st
  | .ixor => i2 gT oXor st
  | .ishl => i2 gT oShl st
  | .ishr => i2 gT oShr st
  | .iushr => i2 gT oUshr st
  | .ladd => l2 gT (fun a b => a + b) st
  | .lsub => l2 gT (fun a b => a - b) st
  | .lmul => l2 gT (fun a b => a * b) st
  | .ldiv => l2 gL Int.tdiv st
  | .lrem => l2 gL Int.tmod st
  | .land => l2 gT oLand st
  | .lor => l2 gT oLor st
  | .lshl => ls2 oLshl st
  | .lshr => ls2 oLshr st
  | .lushr => ls2 oLushr st
  | .ineg => (match st with
    | .inl a :: r => some (true, .inl (-a) :: r)
    | _ => none)
  | .i2l => (match st with
    | .inl a :: r => some (r32 a, .inr (.inl a) :: r)
    | _ => none)
  | .l2i => (match st with
    | .inr (.inl a) :: r => some (true, .inl a :: r)
    | _ => none)
  | .lcmp => (match st with
    | .inr (.inl b) :: .inr (.inl a) :: r => some (r64 a && r64 b, .inl (cmpI a b) :: r)
    | _ => none)
  | .dup => (match st with
    | .inl a :: r => some (true, .inl a :: .inl a :: r)
    | .inr (.inr a) :: r => some (true, .inr (.inr a) :: .inr (.inr a) :: r)
    | _ => none)
  | .dup2 => (match st with
    | .inr (.inl a) :: r => some (true, .inr (.inl a) :: .inr (.inl a) :: r)
    | .inl a :: .inr (.inr b) :: r => some (true, .inl a :: .inr (.inr b) :: .inl a :: .inr (.inr b) :: r)
    | _ => none)
  | .pop2 => (match st with
    | .inr (.inl _) :: r => some (true, r)
    | _ => none)
  | .pop => (match st with
    | .inl _ :: r => some (true, r)
    | _ => none)
  | _ => none
def gI (v : Option AV) (ls : LSt) (st : St) : Option (Bool × LSt × St) := match v with
  | some (.inl a) => some (true, ls, .inl a :: st)
  | _ => none
def gJ (v : Option AV) (ls : LSt) (st : St) : Option (Bool × LSt × St) := match v with
  | some (.inr (.inl a)) => some (true, ls, .inr (.inl a) :: st)
  | _ => none
def gR (v : Option AV) (ls : LSt) (st : St) : Option (Bool × LSt × St) := match v with
  | some (.inr (.inr a)) => some (true, ls, .inr (.inr a) :: st)
  | _ => none
def pI (i : Nat) (ls : LSt) (st : St) : Option (Bool × LSt × St) := match st with
  | .inl a :: r => some (true, lsto ls i (.inl a), r)
  | _ => none
def pJ (i : Nat) (ls : LSt) (st : St) : Option (Bool × LSt × St) := match st with
  | .inr (.inl a) :: r => some (true, lst2 ls i (.inr (.inl a)), r)
  | _ => none
def pR (i : Nat) (ls : LSt) (st : St) : Option (Bool × LSt × St) := match st with
  | .inr (.inr a) :: r => some (true, lsto ls i (.inr (.inr a)), r)
  | _ => none
/-- locals -/
def fL (ins : Instr) (ls : LSt) (st : St) : Option (Bool × LSt × St) := match ins with
  | .iload i => gI (lget ls i) ls st
  | .iload_n i => gI (lget ls i.val) ls st
  | .lload i => gJ (lget ls i) ls st
  | .lload_n i => gJ (lget ls i.val) ls st
  | .aload i => gR (lget ls i) ls st
  | .aload_n i => gR (lget ls i.val) ls st
  | .istore i => pI i ls st
  | .istore_n i => pI i.val ls st
  | .lstore i => pJ i ls st
  | .lstore_n i => pJ i.val ls st
  | .astore i => pR i ls st
  | .astore_n i => pR i.val ls st
  | .iinc i n => (match lget ls i with
    | some (.inl a) => some (true, lsto ls i (.inl (a + n)), st)
    | _ => none)
  | _ => none
def cmpC (cd : ClassFile.Cond) (a b : Int) : Bool := match cd with
  | .eq => decide (a = b)
  | .ne => !decide (a = b)
  | .lt => decide (a < b)
  | .ge => decide (b ≤ a)
  | .gt => decide (b < a)
  | .le => decide (a ≤ b)
def tsw (pc : Nat) (d lo hi : Int) (offs : List Int) (a : Int) : Int := cond (decide (a < lo) || decide (hi < a)) (pc + d) (pc + offs.getD (a - lo).toNat d)
def lsw (pc : Nat) (d : Int) (ps : List (Int × Int)) (a : Int) : Int := pc + Op.lookupswitch.offset ps d a
/-- jumps -/
def fJ (ins : Instr) (pc nx y : Nat) (st : St) : Option (Bool × Nat × St) := match ins with
  | .goto _ => some (true, y, st)
  | .if_icmp cd _ => (match st with
    | .inl b :: .inl a :: r => some (r32 a && r32 b, cond (cmpC cd a b) y nx, r)
    | _ => none)
  | .ifCond cd _ => (match st with
    | .inl a :: r => some (r32 a, cond (cmpC cd a 0) y nx, r)
    | _ => none)
  | .tableswitch d lo hi offs => (match st with
    | .inl a :: r => some (r32 a && decide (0 ≤ tsw pc d lo hi offs.toList a), (tsw pc d lo hi offs.toList a).toNat, r)
    | _ => none)
  | .lookupswitch d ps => (match st with
    | .inl a :: r => some (r32 a && decide (0 ≤ lsw pc d ps.toList a), (lsw pc d ps.toList a).toNat, r)
    | _ => none)
  | _ => none
/-- an index into a cell of a kind -/
def gX (μ : Mm) (a k : Nat) (i : Int) : Bool := decide ((aT μ a).1 = k) && (decide (0 ≤ i) && decide (i < ((aT μ a).2 : Int)))
def wV (μ : Mm) (a k : Nat) (z : Int) : Mm := (μ.1, μ.2.1, μ.2.2.1, uV (aV μ) a k z, aR μ)
def wR (μ : Mm) (a k : Nat) (z : Nat) : Mm := (μ.1, μ.2.1, μ.2.2.1, aV μ, uR (aR μ) a k (some z))
def nw (μ : Mm) (k n : Nat) : Mm := (μ.1 + 1, μ.2.1 + n, uT (aT μ) μ.1 (k, n), zV (aV μ) μ.1 0, zR (aR μ) μ.1 0)
def nw2T (T : Nat → Nat × Nat) (a n k : Nat) : Nat → Nat × Nat := fun a' => cond (Nat.beq a' a) (4, n) (cond (Nat.blt a a' && Nat.ble a' (a + n)) (1, k) (T a'))
def nw2R (R : Nat → Nat → Option Nat) (a n : Nat) : Nat → Nat → Option Nat := fun a' k' => cond (Nat.beq a' a && Nat.blt k' n) (some (a + 1 + k')) (zR R a n a' k')
def nw2 (μ : Mm) (n k : Nat) : Mm := (μ.1 + 1 + n, μ.2.1 + n + n * k, nw2T (aT μ) μ.1 n k, zV (aV μ) μ.1 n, nw2R (aR μ) μ.1 n)
def atk (t : ArrayType) : Nat := match t with
  | .int => 1
  | .long => 2
  | .boolean => 3
  | _ => 0
/-- a field read -/
def fG (μ : Mm) (a y w c : Nat) (r : St) : Option (Bool × St × Mm) := match c with
  | 0 => some (decide ((aT μ a).1 = 64 + y), .inl (aV μ a w) :: r, μ)
  | 1 => some (decide ((aT μ a).1 = 64 + y), .inr (.inl (aV μ a w)) :: r, μ)
  | 2 => (match aR μ a w with
    | some q => some (decide ((aT μ a).1 = 64 + y), .inr (.inr q) :: r, μ)
    | none => none)
  | 3 => some (decide ((aT μ a).1 = 64 + y), .inl (aV μ a w) :: r, μ)
  | o + 4 => some (decide ((aT μ a).1 = 64 + y) && decide (aR μ a w = some (a + o)), .inr (.inr (a + o)) :: r, μ)
/-- memory -/
def fM (ins : Instr) (y w c : Nat) (st : St) (μ : Mm) : Option (Bool × St × Mm) := match ins with
  | .iaload => (match st with
    | .inl i :: .inr (.inr a) :: r => some (gX μ a 1 i, .inl (aV μ a i.toNat) :: r, μ)
    | _ => none)
  | .laload => (match st with
    | .inl i :: .inr (.inr a) :: r => some (gX μ a 2 i, .inr (.inl (aV μ a i.toNat)) :: r, μ)
    | _ => none)
  | .baload => (match st with
    | .inl i :: .inr (.inr a) :: r => some (gX μ a 3 i, .inl (aV μ a i.toNat) :: r, μ)
    | _ => none)
  | .aaload => (match st with
    | .inl i :: .inr (.inr a) :: r => some ((decide (4 ≤ (aT μ a).1 ∧ (aT μ a).1 < 64)) && (decide (0 ≤ i) && (decide (i < ((aT μ a).2 : Int)) && decide (aR μ a i.toNat = some (a + y + w * i.toNat)))), .inr (.inr (a + y + w * i.toNat)) :: r, μ)
    | _ => none)
  | .iastore => (match st with
    | .inl z :: .inl i :: .inr (.inr a) :: r => some (gX μ a 1 i && !Nat.beq a 0, r, wV μ a i.toNat z)
    | _ => none)
  | .lastore => (match st with
    | .inr (.inl z) :: .inl i :: .inr (.inr a) :: r => some (gX μ a 2 i && !Nat.beq a 0, r, wV μ a i.toNat z)
    | _ => none)
  | .bastore => (match st with
    | .inl z :: .inl i :: .inr (.inr a) :: r => some (gX μ a 3 i && (!Nat.beq a 0 && decide (z = 0 ∨ z = 1)), r, wV μ a i.toNat z)
    | _ => none)
  | .aastore => (match st with
    | .inr (.inr q) :: .inl i :: .inr (.inr a) :: r => some (decide (32 ≤ (aT μ a).1 ∧ (aT μ a).1 < 64) && (decide (0 ≤ i) && (decide (i < ((aT μ a).2 : Int)) && (decide ((aT μ q).1 = (aT μ a).1 + 32) && (!Nat.beq a 0 && !Nat.beq q 0)))), r, wR μ a i.toNat q)
    | _ => none)
  | .arraylength => (match st with
    | .inr (.inr a) :: r => some (decide (0 < (aT μ a).1 ∧ (aT μ a).1 < 64), .inl ((aT μ a).2 : Int) :: r, μ)
    | _ => none)
  | .getfield _ => (match st with
    | .inr (.inr a) :: r => fG μ a y w c r
    | _ => none)
  | .putfield _ => (match st with
    | .inl z :: .inr (.inr a) :: r => some (decide ((aT μ a).1 = 64 + y) && decide (c = 0 ∨ c = 3 ∧ (z = 0 ∨ z = 1)), r, wV μ a w z)
    | .inr (.inl z) :: .inr (.inr a) :: r => some (decide ((aT μ a).1 = 64 + y) && decide (c = 1), r, wV μ a w z)
    | .inr (.inr q) :: .inr (.inr a) :: r => some (decide ((aT μ a).1 = 64 + y) && decide (c = 2 ∨ 4 ≤ c), r, wR μ a w q)
    | _ => none)
  | .new _ => some (!Nat.beq μ.1 0, .inr (.inr μ.1) :: st, nw μ (64 + y) (nf y))
  | .newarray t => (match st with
    | .inl n :: r => some (!Nat.beq μ.1 0 && (decide (0 ≤ n) && decide (n < 100000)), .inr (.inr μ.1) :: r, nw μ (atk t) n.toNat)
    | _ => none)
  | .anewarray _ => (match st with
    | .inl n :: r => some (!Nat.beq μ.1 0 && (decide (0 ≤ n) && decide (n < 100000)), .inr (.inr μ.1) :: r, nw μ (32 + y) n.toNat)
    | _ => none)
  | .multianewarray _ _ => (match st with
    | .inl k :: .inl n :: r => some (!Nat.beq μ.1 0 && (decide (n = 4) && decide (k = 8)), .inr (.inr μ.1) :: r, nw2 μ 4 8)
    | _ => none)
  | .invokespecial _ => (match c, st with
    | 10, .inr (.inr _) :: r => some (decide ((r.map (fun v => cond (isL (some v)) 2 1)).sum ≤ 8), r, μ)
    | _, _ => none)
  | .invokestatic _ => (match c, st with
    | 11, .inl n :: .inl dp :: .inr (.inr d) :: .inl sp :: .inr (.inr s) :: r => some (Nat.beq μ.1 0 && (decide ((r.map (fun v => cond (isL (some v)) 2 1)).sum ≤ 8) && (decide ((aT μ s).1 = (aT μ d).1 ∧ ((aT μ d).1 = 1 ∨ (aT μ d).1 = 2)) && (!Nat.beq s 0 && (!Nat.beq d 0 && (decide (0 ≤ sp ∧ 0 ≤ dp ∧ 0 ≤ n) && (decide (sp + n ≤ ((aT μ s).2 : Int) ∧ sp + n < 100000) && decide (dp + n ≤ ((aT μ d).2 : Int) ∧ dp + n < 100000))))))), r, (μ.1, μ.2.1, μ.2.2.1, cV (aV μ) s sp.toNat d dp.toNat n.toNat, aR μ))
    | 12, .inr (.inl b) :: .inr (.inl a) :: r => some (r64 a && (r64 b && decide ((r.map (fun v => cond (isL (some v)) 2 1)).sum ≤ 8)), .inr (.inl (cond (decide (b < a)) a b)) :: r, μ)
    | 13, .inr (.inl b) :: .inr (.inl a) :: r => some (r64 a && (r64 b && decide ((r.map (fun v => cond (isL (some v)) 2 1)).sum ≤ 8)), .inr (.inl (cond (decide (b < a)) b a)) :: r, μ)
    | 14, .inl b :: .inl a :: r => some (r32 a && (r32 b && decide ((r.map (fun v => cond (isL (some v)) 2 1)).sum ≤ 8)), .inl (cond (decide (a < b)) b a) :: r, μ)
    | _, _ => none)
  | _ => none
/-- one instruction that is no call and no return -/
def fN (ins : Instr) (pc nx y w c : Nat) (z : Int) (ls : LSt) (st : St) (μ : Mm) : Option (Bool × Nat × LSt × St × Mm) := match fA ins z st with
  | some (g, st') => some (g, nx, ls, st', μ)
  | none => (match fL ins ls st with
    | some (g, ls', st') => some (g, nx, ls', st', μ)
    | none => (match fM ins y w c st μ with
      | some (g, st', μ') => some (g, nx, ls, st', μ')
      | none => (match fJ ins pc nx y st with
        | some (g, pc', st') => some (g, pc', ls, st', μ)
        | none => none)))
def nx1 (m pc : Nat) (ls : LSt) (st : St) (μ : Mm) : Option (Bool × Nat × LSt × St × Mm) := match cdd m pc with
  | some (ins, nx, y, w, c, z, _) => fN ins pc nx y w c z ls st μ
  | none => none
def entL : List AV → LSt
  | [] => []
  | .inr (.inl z) :: r => some (.inr (.inl z)) :: none :: entL r
  | .inl z :: r => some (.inl z) :: entL r
  | .inr (.inr a) :: r => some (.inr (.inr a)) :: entL r
def ent (n : Nat) (as : List AV) : LSt := entL as ++ List.replicate (n - (entL as).length) none
/-- a call: callee, guard, arguments, the rest of the stack, where it goes on -/
def fC (m pc : Nat) (st : St) (μ : Mm) : Option (Nat × Bool × List AV × St × Nat) := match cdd m pc with
  | some (.invokestatic _, nx, y, w, c, _, _) => cond (Nat.blt c 2) (some (y, decide (((st.drop w).map (fun v => cond (isL (some v)) 2 1)).sum ≤ 8) && (decide (w ≤ st.length) && Nat.ble (entL (st.take w).reverse).length (mL y)), (st.take w).reverse, st.drop w, nx)) none
  | some (.invokespecial _, nx, y, w, c, _, _) => cond (Nat.beq c 3 || Nat.beq c 4) (match (st.take w).reverse with
    | .inr (.inr a) :: as => some (y, decide (((st.drop w).map (fun v => cond (isL (some v)) 2 1)).sum ≤ 8) && (decide (w ≤ st.length) && Nat.ble (entL (.inr (.inr a) :: as)).length (mL y)), .inr (.inr a) :: as, st.drop w, nx)
    | _ => none) none
  | some (.invokevirtual _, nx, y, w, c, _, _) => cond (Nat.beq c 2) (match (st.take w).reverse with
    | .inr (.inr a) :: as => some (y, decide (((st.drop w).map (fun v => cond (isL (some v)) 2 1)).sum ≤ 8) && (decide (w ≤ st.length) && (!Nat.beq a 0 && (decide ((aT μ a).1 = 64 + mC y) && Nat.ble (entL (.inr (.inr a) :: as)).length (mL y)))), .inr (.inr a) :: as, st.drop w, nx)
    | _ => none) none
  | _ => none
/-- a return -/
def fR (m pc : Nat) (st : St) : Option (Bool × Option AV) := match cdd m pc with
  | some (.ireturn, _) => (match st, rM m with
    | [.inl z], some .int => some (true, some (.inl z))
    | [.inl z], some .boolean => some (decide (z = 0 ∨ z = 1), some (.inl z))
    | _, _ => none)
  | some (.lreturn, _) => (match st, rM m with
    | [.inr (.inl z)], some .long => some (true, some (.inr (.inl z)))
    | _, _ => none)
  | some (.return_, _) => (match st, rM m with
    | [], none => some (true, none)
    | _, _ => none)
  | _ => none
/-- the machine: fuel, depth, method, place, locals, stack, memory: the answer and the memory behind it -/
def run : Nat → Nat → Nat → Nat → LSt → St → Mm → Option (Option AV × Mm)
  | 0, _, _, _, _, _, _ => none
  | n + 1, d, m, pc, ls, st, μ => match nx1 m pc ls st μ with
    | some (g, pc', ls', st', μ') => cond g (run n d m pc' ls' st' μ') none
    | none => (match fC m pc st μ with
      | some (y, g, as, rest, nx) => (match d with
        | 0 => none
        | d' + 1 => cond g (match run n d' y 0 (ent (mL y) as) [] μ with
          | some (v, μ') => run n d m nx ls (v.toList ++ rest) μ'
          | none => none) none)
      | none => (match fR m pc st with
        | some (g, v) => cond g (some (v, μ)) none
        | none => none))
