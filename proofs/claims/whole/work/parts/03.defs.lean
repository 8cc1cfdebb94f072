/-! WHAT EACH INSTRUCTION NEEDS OF THE TABLES -/
def isRf (t : FieldType) : Bool := match t with
  | .object _ => true
  | .array _ => true
  | _ => false
def okF (c : Nat) (t : FieldType) : Bool := match c with
  | 0 => decide (t = .int)
  | 1 => decide (t = .long)
  | 2 => isRf t
  | 3 => decide (t = .boolean)
  | _ => isRf t
def okL (m q i y w : Nat) : Bool := Nat.blt y 13 && (Nat.blt w (nf y) && (decide (tw q = some (.fieldLink (yM m).cls i (Rc y) (Tc y w).2.1 (Tc y w).2.2.1)) && decide ((Tc y w).1 = Rc y)))
def okW (m pc : Nat) (e : En) : Bool := match e with
  | (.bipush n, _) => decide ((Int8.ofInt n).toInt32 = Int32.ofInt n)
  | (.sipush n, _) => decide ((Int16.ofInt n).toInt32 = Int32.ofInt n)
  | (.ldc_w i, _, _, _, _, z, q) => decide (tw q = some (.constant (yM m).cls i (Int32.ofInt z)))
  | (.ldc2_w i, _, _, _, _, z, q) => decide (tw q = some (.constantLong (yM m).cls i (Int64.ofInt z)))
  | (.istore i, _) => Nat.blt i (mL m)
  | (.istore_n i, _) => Nat.blt i.val (mL m)
  | (.astore i, _) => Nat.blt i (mL m)
  | (.astore_n i, _) => Nat.blt i.val (mL m)
  | (.lstore i, _) => Nat.blt (i + 1) (mL m)
  | (.lstore_n i, _) => Nat.blt (i.val + 1) (mL m)
  | (.iinc i _, _) => Nat.blt i (mL m)
  | (.goto off, _, y, _) => decide ((pc : Int) + off = (y : Int))
  | (.if_icmp _ off, _, y, _) => decide ((pc : Int) + off = (y : Int))
  | (.ifCond _ off, _, y, _) => decide ((pc : Int) + off = (y : Int))
  | (.tableswitch _ lo hi offs, _) => decide ((offs.toList.length : Int) = hi - lo + 1)
  | (.lookupswitch _ ps, _) => (ps.toList.zip (ps.toList.drop 1)).all (fun (a, next) => a.1 < next.1)
  | (.getfield i, _, y, w, c, _, q) => okL m q i y w && okF c (tc y w)
  | (.putfield i, _, y, w, c, _, q) => okL m q i y w && (okF c (tc y w) && (cond (Tc y w).2.2.2 (decide ((yM m).name = "<init>") && decide (Rc y = (yM m).cls)) true))
  | (.new i, _, y, _, _, _, q) => Nat.blt y 13 && decide (tw q = some (.classLink (yM m).cls i (Rc y)))
  | (.newarray t, _) => Nat.blt 0 (atk t)
  | (.anewarray i, _, y, _, _, _, q) => (Nat.beq y 2 || (Nat.beq y 3 || (Nat.beq y 5 || Nat.beq y 7))) && decide (tw q = some (.classLink (yM m).cls i (Rc y)))
  | (.multianewarray i n, _, _, _, _, _, q) => Nat.beq n 2 && decide (tw q = some (.classLink (yM m).cls i "[[I"))
  | (.invokespecial i, _, y, w, c, _, q) => (match c with
    | 10 => decide (tw q = some (.methodLink (yM m).cls i objectInit))
    | 3 => Nat.blt 0 y && (Nat.blt y 232 && (Nat.beq w (mN y + 1) && (decide ((yM y).name = "<init>") && (decide (rM y = none) && decide (tw q = some (.methodLink (yM m).cls i (yM y)))))))
    | 4 => Nat.blt 0 y && (Nat.blt y 232 && (Nat.beq w (mN y + 1) && (decide ((yM y).name = "<init>") && (decide (rM y = none) && decide (tw q = some (.methodLinkNest (yM m).cls i (yM y) "MendedOrNew"))))))
    | _ => true)
  | (.invokestatic i, _, y, w, c, _, q) => (match c with
    | 11 => decide (tw q = some (.methodLink (yM m).cls i arraycopyName))
    | 12 => decide (tw q = some (.methodLink (yM m).cls i Lib.MathLoose.max_long.x))
    | 13 => decide (tw q = some (.methodLink (yM m).cls i Lib.MathLoose.min_long.x))
    | 14 => decide (tw q = some (.methodLink (yM m).cls i Lib.Math.max.name))
    | 0 => Nat.blt 0 y && (Nat.blt y 232 && (Nat.beq w (mN y) && (decide (tw (mQ y).1 = some (.static (yM y))) && decide (tw q = some (.methodLink (yM m).cls i (yM y))))))
    | 1 => Nat.blt 0 y && (Nat.blt y 232 && (Nat.beq w (mN y) && (decide (tw (mQ y).1 = some (.static (yM y))) && decide (tw q = some (.methodLinkNest (yM m).cls i (yM y) "MendedOrNew")))))
    | _ => true)
  | (.invokevirtual i, _, y, w, c, _, q) => (match c with
    | 2 => Nat.blt 0 y && (Nat.blt y 232 && (Nat.beq w (mN y + 1) && (Nat.blt (mC y) 13 && (decide ((yM y).cls = Rc (mC y)) && (decide (tw (mQ y).2.1 = some (.selects (yM y).cls (yM y) (yM y))) && (decide (tw (mQ y).1 = some (.instanceMethod (yM y))) && decide (tw q = some (.methodLink (yM m).cls i (yM y)))))))))
    | _ => true)
  | _ => true
def ilen (ins : Instr) : Nat := match ins with
  | .bipush _ => 2
  | .sipush _ => 3
  | .ldc_w _ => 3
  | .ldc2_w _ => 3
  | .iload _ => 2
  | .lload _ => 2
  | .aload _ => 2
  | .istore _ => 2
  | .lstore _ => 2
  | .astore _ => 2
  | .iinc _ _ => 3
  | .if_icmp _ _ => 3
  | .ifCond _ _ => 3
  | .goto _ => 3
  | .getfield _ => 3
  | .putfield _ => 3
  | .invokespecial _ => 3
  | .invokestatic _ => 3
  | .invokevirtual _ => 3
  | .new _ => 3
  | .newarray _ => 2
  | .anewarray _ => 3
  | .multianewarray _ _ => 4
  | _ => 1
def isSw (ins : Instr) : Bool := match ins with
  | .tableswitch _ _ _ _ => true
  | .lookupswitch _ _ => true
  | _ => false
def okI (m pc : Nat) (e : En) : Bool := decide (decode (bM m) pc = .ok (e.1, e.2.1 - pc)) && ((isSw e.1 || Nat.beq e.2.1 (pc + ilen e.1)) && okW m pc e)
def okP (m pc : Nat) : Bool := match cd m pc with
  | none => true
  | some e => okI m pc e
def okB (m lo n : Nat) : Bool := (List.range n).all (fun i => okP m (lo + i))
/-- of a method: its words -/
def okMt (m : Nat) : Bool := decide (tw (mQ m).2.2.2 = some (.initialized (yM m).cls)) && (plainName (yM m).cls && (decide ((yM m).cls ≠ "java/lang/invoke/MethodHandle") && (decide ((yM m).cls ≠ "java/lang/invoke/VarHandle") && (decide ((parseMethodDescriptor (yM m).desc).map (fun d => d.parameters.length) = some (mN m)) && (Nat.ble (mL m) 45 && (decide ((yM m).name = "<init>") == false || decide (tw (mQ m).1 = some (.instanceMethod (yM m)))))))))
