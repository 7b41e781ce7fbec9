/-! ===== What a resolved instruction must be of the bytes and of the tables, by program ===== -/
def xwd (i : xI) (k : Nat) (w : Jvm.Cond) : Bool := match i.2.2.2.2.2[k]? with
  | some p => decide (lw_tbl[p]? = some w) && goodWord w
  | none => false
def xLen (i : Instr) : Option Nat := match i with
  | .aload _ | .iload _ | .lload _ | .istore _ | .lstore _ | .astore _ | .bipush _ | .ldc _ | .newarray _ => some 2
  | .iinc _ _ | .sipush _ | .ldc_w _ | .ldc2_w _ | .goto _ | .ifCond _ _ | .if_icmp _ _ | .ifnull _ | .ifnonnull _ | .getfield _ | .putfield _ | .getstatic _ | .anewarray _ | .new _ | .invokevirtual _ | .invokestatic _ | .invokespecial _ | .checkcast _ => some 3
  | .tableswitch _ _ _ _ | .lookupswitch _ _ => none
  | _ => some 1
def xNn (pc : Nat) (off : Int) : Bool := decide (0 ≤ (pc : Int) + off)
/-- the kind of a field's type -/
def xKd (ty : FieldType) (k : Int) : Bool := match ty with
  | .int => k == 0
  | .long => k == 1
  | .boolean => k == 3
  | .object _ => k == 2
  | .array _ => k == 2
  | _ => false
def xChk2 (own mname : String) (nL pc : Nat) (i : xI) : Bool := match i.1 with
  | .istore n => decide (n < nL)
  | .istore_n n => decide (n.val < nL)
  | .lstore n => decide (n + 1 < nL)
  | .lstore_n n => decide (n.val + 1 < nL)
  | .astore n => decide (n < nL)
  | .astore_n n => decide (n.val < nL)
  | .iinc n _ => decide (n < nL)
  | .bipush n => decide ((Int8.ofInt n).toInt32 = Int32.ofInt n)
  | .sipush n => decide ((Int16.ofInt n).toInt32 = Int32.ofInt n)
  | .ldc idx => bif Nat.beq i.2.2.1 0 then xwd i 0 (.constant own idx (Int32.ofInt i.2.2.2.2.1)) else
      (decide (own = RX9) && Nat.beq idx 74 && Nat.beq i.2.2.2.1 2) || (decide (own = RX9) && Nat.beq idx 67 && Nat.beq i.2.2.2.1 3) || (decide (own = RX4) && Nat.beq idx 50 && Nat.beq i.2.2.2.1 4)
  | .ldc_w idx => xwd i 0 (.constant own idx (Int32.ofInt i.2.2.2.2.1))
  | .ldc2_w idx => xwd i 0 (.constantLong own idx (Int64.ofInt i.2.2.2.2.1))
  | .goto off => xNn pc off
  | .ifCond _ off => xNn pc off
  | .if_icmp _ off => xNn pc off
  | .ifnull off => xNn pc off
  | .ifnonnull off => xNn pc off
  | .tableswitch d _ _ offs => xNn pc d && offs.toList.all (xNn pc)
  | .lookupswitch d ps => xNn pc d && ps.toList.all (fun q => xNn pc q.2) && (ps.toList.zip (ps.toList.drop 1)).all (fun (a, next) => decide (a.1 < next.1))
  | .getfield idx => bif i.2.2.2.2.1 == 5 then xwd i 0 (.fieldLink own idx "java/lang/String" "value" "[B") else bif i.2.2.2.2.1 == 6 then xwd i 0 (.fieldLink own idx "java/lang/String" "coder" "B") else match vwCl[i.2.2.1]? with
    | some q => decide (i.2.2.2.1 < q.2.2) && xwd i 0 (.fieldLink own idx (q.2.1 i.2.2.2.1).1 (q.2.1 i.2.2.2.1).2.1 (q.2.1 i.2.2.2.1).2.2.1)
    | none => false
  | .putfield idx => match vwCl[i.2.2.1]? with
    | some q => decide (i.2.2.2.1 < q.2.2) && xwd i 0 (.fieldLink own idx (q.2.1 i.2.2.2.1).1 (q.2.1 i.2.2.2.1).2.1 (q.2.1 i.2.2.2.1).2.2.1) && xKd (xTy i.2.2.1 i.2.2.2.1) i.2.2.2.2.1 &&
        (!(q.2.1 i.2.2.2.1).2.2.2 || (decide (mname = "<init>") && decide ((q.2.1 i.2.2.2.1).1 = own)))
    | none => false
  | .getstatic idx => bif i.2.2.2.2.1 == 1 then xwd i 0 (.fieldLink own idx "java/lang/String" "COMPACT_STRINGS" "Z") else bif i.2.2.2.2.1 == 2 then xwd i 0 (.fieldLink own idx "jdk/internal/util/Preconditions" "SIOOBE_FORMATTER" "Ljava/util/function/BiFunction;") else Nat.beq i.2.2.2.1 1 && xwd i 0 (.fieldLink own idx "MagpieAccounts" "GAME_PARTS" "[I")
  | .newarray t => xwd i 0 (.arrayClass (newarray.typeOf t))
  | .anewarray idx => (Nat.beq i.2.2.1 3 && xwd i 0 (.classLink own idx RX2)) || (Nat.beq i.2.2.1 4 && xwd i 0 (.classLink own idx RX10))
  | .new idx => match vwCl[i.2.2.1]? with
    | some q => Nat.beq i.2.2.2.1 q.2.2 && xwd i 0 (.classLink own idx q.1) && xwd i 1 (.instantiable q.1 q.2.2) && xwd i 2 (.initialized q.1)
    | none => false
  | .invokevirtual idx => bif i.2.2.2.2.1 == 8 then xwd i 0 (.methodLink own idx ⟨"[I", "clone", "()Ljava/lang/Object;"⟩) && xwd i 1 (.sameMethod "[I" "java/lang/Object" "clone" "()Ljava/lang/Object;") && xwd i 2 (.native ⟨"java/lang/Object", "clone", "()Ljava/lang/Object;"⟩) && xwd i 3 (.instanceMethod ⟨"java/lang/Object", "clone", "()Ljava/lang/Object;"⟩) && xwd i 4 (.selects "[I" ⟨"[I", "clone", "()Ljava/lang/Object;"⟩ ⟨"java/lang/Object", "clone", "()Ljava/lang/Object;"⟩) else true
  | .checkcast idx => xwd i 0 (.classLink own idx "[I")
  | .invokestatic idx => bif i.2.2.2.2.1 == 9 then xwd i 0 (.methodLink own idx arraycopyName) && xwd i 1 (.native arraycopyName) && xwd i 2 (.static arraycopyName) && xwd i 3 (.initialized "java/lang/System")
    else bif i.2.2.2.2.1 == 10 then xwd i 0 (.methodLink own idx Lib.Math.max.name) && xwd i 1 (.static Lib.Math.max.name) && xwd i 2 (.initialized "java/lang/Math") && xwd i 3 (.code Lib.Math.max.name Lib.Math.max.code 2 (some .int))
    else bif i.2.2.2.2.1 == 11 then xwd i 0 (.methodLink own idx Lib.Math.min.name) && xwd i 1 (.static Lib.Math.min.name) && xwd i 2 (.initialized "java/lang/Math") && xwd i 3 (.code Lib.Math.min.name Lib.Math.min.code 2 (some .int))
    else bif i.2.2.2.2.1 == 12 then xwd i 0 (.methodLink own idx Lib.MathLoose.max_long.x) && xwd i 1 (.static Lib.MathLoose.max_long.x) && xwd i 2 (.initialized "java/lang/Math") && xwd i 3 (.code Lib.MathLoose.max_long.x Lib.MathLoose.max_long.code 4 (some .long))
    else bif i.2.2.2.2.1 == 13 then xwd i 0 (.methodLink own idx Lib.MathLoose.min_long.x) && xwd i 1 (.static Lib.MathLoose.min_long.x) && xwd i 2 (.initialized "java/lang/Math") && xwd i 3 (.code Lib.MathLoose.min_long.x Lib.MathLoose.min_long.code 4 (some .long))
    else true
  | .invokespecial idx => bif i.2.2.2.2.1 == 8 then xwd i 0 (.methodLink own idx Lib.objectInit) && xwd i 1 (.instanceMethod Lib.objectInit) && xwd i 2 (.code Lib.objectInit ⟨#[0xb1]⟩ 1 none) else true
  | _ => true
def xChk (own mname : String) (cc : ByteArray) (nL pc : Nat) (i : xI) : Bool :=
  decide (decode cc pc = .ok (i.1, i.2.1)) && (match xLen i.1 with
    | some n => Nat.beq i.2.1 n
    | none => true) && xChk2 own mname nL pc i
def xNests : List Cond := lw_tbl.filter (fun w => match w with
  | .methodLinkNest _ _ _ _ => true
  | _ => false)
/-- a method: its name, bytes, locals, type of answer, resolved code -/
abbrev xMeth : Type := MethodName × ByteArray × Nat × Option FieldType × xC
/-- a call: the method's number, how many values it takes off the stack -/
def xCallee (i : xI) : Option (Nat × Nat) := match i.1 with
  | .invokevirtual _ => bif Nat.blt i.2.2.2.2.1.toNat 8 then some (i.2.2.1, i.2.2.2.1) else none
  | .invokestatic _ => bif Nat.blt i.2.2.2.2.1.toNat 8 then some (i.2.2.1, i.2.2.2.1) else none
  | .invokespecial _ => bif Nat.blt i.2.2.2.2.1.toNat 8 then some (i.2.2.1, i.2.2.2.1) else none
  | _ => none
/-- how a call's words stand -/
def xChkC (P : Nat → Option xMeth) (own : String) (i : xI) : Bool := match xCallee i with
  | none => true
  | some (j, k) => match P j with
    | none => false
    | some M => decide (M.1.cls ≠ "java/lang/invoke/MethodHandle") && decide (M.1.cls ≠ "java/lang/invoke/VarHandle") && Nat.ble M.2.2.1 100 && xwd i 2 (.initialized M.1.cls) &&
      (match i.1 with
      | .invokevirtual idx => xwd i 0 (.methodLink own idx M.1) && xwd i 3 (.instanceMethod M.1) && xwd i 4 (.selects M.1.cls M.1 M.1) && decide ((parseMethodDescriptor M.1.desc).map (fun d => d.parameters.length + 1) = some k) && (match vwCl[i.2.2.2.2.2.getD 5 0]? with
          | some q => decide (q.1 = M.1.cls)
          | none => Nat.beq (i.2.2.2.2.2.getD 5 0) 99 && decide (M.1.cls = "java/lang/String"))
      | .invokestatic idx => xwd i 3 (.static M.1) && decide ((parseMethodDescriptor M.1.desc).map (fun d => d.parameters.length) = some k) && (bif i.2.2.2.2.1 == 0 then xwd i 0 (.methodLink own idx M.1) else decide (Jvm.Cond.methodLinkNest own idx M.1 "MagpieAccounts" ∈ xNests))
      | .invokespecial idx => xwd i 3 (.instanceMethod M.1) && decide (M.1.name = "<init>" ∧ M.2.2.2.1 = none) && decide ((parseMethodDescriptor M.1.desc).map (fun d => d.parameters.length + 1) = some k) && (bif i.2.2.2.2.1 == 0 then xwd i 0 (.methodLink own idx M.1) else decide (Jvm.Cond.methodLinkNest own idx M.1 "MagpieAccounts" ∈ xNests))
      | _ => false)
/-- a program's method is as the bytes and the tables have it -/
def xChkM (P : Nat → Option xMeth) (M : xMeth) : Bool := decide (plainName M.1.cls = true) && M.2.2.2.2.all (fun l => l.all (fun q => xChk M.1.cls M.1.name M.2.1 M.2.2.1 q.1 q.2 && xChkC P M.1.cls q.2))
