/-! ===== A small machine over an abstract heap: what a method's resolved instructions do. Later: it is what the JVM does. ===== -/
/-- the abstract heap: the next number, slots used, what each number holds. Numbers below 16 are cells that were there before. -/
abbrev xH : Type := Nat × Nat × (Nat → Option va_E)
abbrev xL : Type := List (Nat × Value)
/-- an instruction, its length, two numbers, a constant, places of its words in lw_tbl -/
abbrev xI : Type := Instr × Nat × Nat × Nat × Int × List Nat
abbrev xC : Type := List (List (Nat × xI))
abbrev xS : Type := Nat × xL × List Value × xH
abbrev xRo : Type := Nat → Option (Nat × (Nat → Int32))
def xFind {α : Type} : List (Nat × α) → Nat → Option α
  | [], _ => none
  | q :: l, k => bif Nat.beq q.1 k then some q.2 else xFind l k
def xAt (c : xC) (pc : Nat) : Option xI := match c[pc / 32]? with
  | none => none
  | some l => xFind l pc
def xP1 (ls : xL) (i : Nat) (v : Value) : xL := (i, v) :: ls.filter (fun q => !(q.1 == i) && !(q.1 + 1 == i && q.2.category == 2))
def xP2 (ls : xL) (i : Nat) (v : Value) : xL := (i, v) :: ls.filter (fun q => !(q.1 == i) && (!(q.1 == i + 1) && !(q.1 + 1 == i && q.2.category == 2)))
def xUp (h : xH) (i : Nat) (e : va_E) : xH := (h.1, h.2.1, fun j => if j = i then some e else h.2.2 j)
def xNw (h : xH) (n : Nat) (e : va_E) : xH := (h.1 + 1, h.2.1 + n, fun j => if j = h.1 then some e else h.2.2 j)
def xi {α : Type} (st : List Value) (k : Int32 → List Value → Option α) : Option α := match st with
  | .int x :: r => k x r
  | _ => none
def xii {α : Type} (st : List Value) (k : Int32 → Int32 → List Value → Option α) : Option α := match st with
  | .int y :: .int x :: r => k x y r
  | _ => none
def xl {α : Type} (st : List Value) (k : Int64 → List Value → Option α) : Option α := match st with
  | .long x :: r => k x r
  | _ => none
def xll {α : Type} (st : List Value) (k : Int64 → Int64 → List Value → Option α) : Option α := match st with
  | .long y :: .long x :: r => k x y r
  | _ => none
def xli {α : Type} (st : List Value) (k : Int64 → Int32 → List Value → Option α) : Option α := match st with
  | .int y :: .long x :: r => k x y r
  | _ => none
def xa {α : Type} (st : List Value) (k : Nat → List Value → Option α) : Option α := match st with
  | .ref a :: r => k a r
  | _ => none
def xai {α : Type} (st : List Value) (k : Nat → Int32 → List Value → Option α) : Option α := match st with
  | .int i :: .ref a :: r => k a i r
  | _ => none
/-- a reference or null on top -/
def xq {α : Type} (st : List Value) (k : Option Nat → List Value → Option α) : Option α := match st with
  | .ref a :: r => k (some a) r
  | .null :: r => k none r
  | _ => none
/-- the object at a number, of class ci -/
def xob {α : Type} (h : xH) (a ci : Nat) (k : List Value → Option α) : Option α := match h.2.2 a with
  | some (.inr (c, fs)) => bif Nat.beq c ci then k fs else none
  | _ => none
/-- an int (or boolean) array at a number, of kind t -/
def xar {α : Type} (h : xH) (a t : Nat) (k : Nat → (Nat → Int32) → Option α) : Option α := match h.2.2 a with
  | some (.inl (c, n, .inl f)) => bif Nat.beq c t then k n f else none
  | _ => none
def xarl {α : Type} (h : xH) (a : Nat) (k : Nat → (Nat → Int64) → Option α) : Option α := match h.2.2 a with
  | some (.inl (c, n, .inr (.inl f))) => bif Nat.beq c 1 then k n f else none
  | _ => none
def xarq {α : Type} (h : xH) (a : Nat) (k : Nat → Nat → (Nat → Option Nat) → Option α) : Option α := match h.2.2 a with
  | some (.inl (c, n, .inr (.inr (.inr (.inr f))))) => bif Nat.beq c 3 || Nat.beq c 4 then k c n f else none
  | _ => none
def xin {α : Type} (i : Int32) (n : Nat) (k : Nat → Option α) : Option α := if i < 0 ∨ n ≤ i.toNatClampNeg then none else k i.toNatClampNeg
def xgt (ls : xL) (k : Nat) : Option Value := xFind ls k
def xTgt (pc : Nat) (off : Int) : Nat := ((pc : Int) + off).toNat
/-- the value fits its field: kind 0 int, 1 long, 2 a reference, 3 boolean -/
def xfit (k : Int) (v : Value) : Bool := match v with
  | .int x => k == 0 || (k == 3 && (x == 0 || x == 1))
  | .long _ => k == 1
  | .ref _ => k == 2
  | .null => k == 2
  | _ => false
def xTy (ci : Nat) : Nat → FieldType := match ci with
  | 0 => tyX0
  | 1 => tyX1
  | 2 => tyX2
  | 3 => tyX3
  | 4 => tyX4
  | 5 => tyX5
  | 6 => tyX6
  | 7 => tyX7
  | 8 => tyX8
  | 9 => tyX9
  | 10 => tyX10
  | 11 => tyX11
  | _ => tyX12
/-- the fields of a new object, by its class -/
def xNew (ci N : Nat) : List Value := (List.range N).map (fun k => defaultValue (xTy ci k))
/-- the element class of an array kind -/
def xEl (t : Nat) : Nat := bif Nat.beq t 3 then 2 else 10
def xTag (a : ArrayType) : Option Nat := match a with
  | .int => some 0
  | .long => some 1
  | .boolean => some 2
  | _ => none
def xZero (t n : Nat) : vp_A := bif Nat.beq t 1 then (n, .inr (.inl (fun _ => 0))) else (n, .inl (fun _ => 0))
/-- the bytes of the three texts -/
def xBy0 : List Int32 := [100, 97, 121, 32, 32, 32, 102, 117, 110, 100, 32, 32, 108, 97, 115, 116, 32, 32, 103, 111, 110, 101, 32, 32, 110, 117, 109, 98, 101, 114, 111, 100, 100, 115, 32, 32, 112, 101, 114, 105, 111, 100, 99, 111, 117, 110, 116, 32, 116, 104, 105, 110, 103, 32, 114, 104, 121, 109, 101, 32, 99, 97, 109, 101, 32, 32, 110, 111, 116, 32, 32, 32, 97, 110, 100, 32, 32, 32, 111, 114, 32, 32, 32, 32, 105, 102, 32, 32, 32, 32, 116, 104, 101, 110, 32, 32, 101, 108, 115, 101, 32, 32, 101, 110, 100, 32, 32, 32, 99, 104, 97, 110, 99, 101, 98, 114, 105, 110, 103, 115, 98, 105, 114, 100, 32, 32, 116, 104, 105, 110, 32, 32, 99, 97, 108, 108, 32, 32, 103, 114, 97, 110, 116, 32, 98, 121, 32, 32, 32, 32]
def xBy1 : List Int32 := [60, 62, 61, 35, 43, 45, 42, 47, 40, 41, 59]
def xBy2 : List Int32 := [48, 49, 50, 51, 48, 49, 51, 50, 48, 50, 49, 51, 48, 50, 51, 49, 48, 51, 49, 50, 48, 51, 50, 49, 49, 48, 50, 51, 49, 48, 51, 50, 49, 50, 48, 51, 49, 50, 51, 48, 49, 51, 48, 50, 49, 51, 50, 48, 50, 48, 49, 51, 50, 48, 51, 49, 50, 49, 48, 51, 50, 49, 51, 48, 50, 51, 48, 49, 50, 51, 49, 48, 51, 48, 49, 50, 51, 48, 50, 49, 51, 49, 48, 50, 51, 49, 50, 48, 51, 50, 48, 49, 51, 50, 49, 48]
def xStB (a : Nat) : Option (Nat × (Nat → Int32)) := match a with
  | 5 => some (150, fun j => xBy0.getD j 0)
  | 6 => some (11, fun j => xBy1.getD j 0)
  | 7 => some (96, fun j => xBy2.getD j 0)
  | _ => none
def xLn (ro : xRo) (a : Nat) : Option Nat := match xStB a with
  | some q => some q.1
  | none => bif Nat.blt a 2 then (ro a).map (fun q => q.1) else none
/-- one instruction that calls nothing -/
def xStep (ro : xRo) (i : xI) (pc : Nat) (ls : xL) (st : List Value) (h : xH) : Option xS :=
  match i.1 with
  | .aconst_null => some (pc + 1, ls, .null :: st, h)
  | .aload n => (xgt ls n).bind fun v => match v with
    | .ref a => some (pc + 2, ls, .ref a :: st, h)
    | .null => some (pc + 2, ls, .null :: st, h)
    | _ => none
  | .aload_n n => (xgt ls n).bind fun v => match v with
    | .ref a => some (pc + 1, ls, .ref a :: st, h)
    | .null => some (pc + 1, ls, .null :: st, h)
    | _ => none
  | .iload n => (xgt ls n).bind fun v => match v with
    | .int a => some (pc + 2, ls, .int a :: st, h)
    | _ => none
  | .iload_n n => (xgt ls n).bind fun v => match v with
    | .int a => some (pc + 1, ls, .int a :: st, h)
    | _ => none
  | .lload n => (xgt ls n).bind fun v => match v with
    | .long a => some (pc + 2, ls, .long a :: st, h)
    | _ => none
  | .lload_n n => (xgt ls n).bind fun v => match v with
    | .long a => some (pc + 1, ls, .long a :: st, h)
    | _ => none
  | .istore n => xi st fun x r => some (pc + 2, xP1 ls n (.int x), r, h)
  | .istore_n n => xi st fun x r => some (pc + 1, xP1 ls n (.int x), r, h)
  | .lstore n => xl st fun x r => some (pc + 2, xP2 ls n (.long x), r, h)
  | .lstore_n n => xl st fun x r => some (pc + 1, xP2 ls n (.long x), r, h)
  | .astore n => xq st fun x r => some (pc + 2, xP1 ls n (va_rf x), r, h)
  | .astore_n n => xq st fun x r => some (pc + 1, xP1 ls n (va_rf x), r, h)
  | .iinc n k => (xgt ls n).bind fun v => match v with
    | .int x => some (pc + 3, xP1 ls n (.int (x + Int32.ofInt k)), st, h)
    | _ => none
  | .iconst n => some (pc + 1, ls, .int (Int32.ofInt n) :: st, h)
  | .bipush n => some (pc + 2, ls, .int (Int32.ofInt n) :: st, h)
  | .sipush n => some (pc + 3, ls, .int (Int32.ofInt n) :: st, h)
  | .lconst n => some (pc + 1, ls, .long (Int64.ofNat n) :: st, h)
  | .ldc _ => bif Nat.beq i.2.2.1 0 then some (pc + 2, ls, .int (Int32.ofInt i.2.2.2.2.1) :: st, h) else some (pc + 2, ls, .ref i.2.2.2.1 :: st, h)
  | .ldc_w _ => some (pc + 3, ls, .int (Int32.ofInt i.2.2.2.2.1) :: st, h)
  | .ldc2_w _ => some (pc + 3, ls, .long (Int64.ofInt i.2.2.2.2.1) :: st, h)
  | .iadd => xii st fun x y r => some (pc + 1, ls, .int (x + y) :: r, h)
  | .isub => xii st fun x y r => some (pc + 1, ls, .int (x - y) :: r, h)
  | .imul => xii st fun x y r => some (pc + 1, ls, .int (x * y) :: r, h)
  | .iand => xii st fun x y r => some (pc + 1, ls, .int (x &&& y) :: r, h)
  | .ior => xii st fun x y r => some (pc + 1, ls, .int (x ||| y) :: r, h)
  | .ixor => xii st fun x y r => some (pc + 1, ls, .int (x ^^^ y) :: r, h)
  | .ishl => xii st fun x y r => some (pc + 1, ls, .int (x <<< (y &&& 31)) :: r, h)
  | .ishr => xii st fun x y r => some (pc + 1, ls, .int (x >>> (y &&& 31)) :: r, h)
  | .iushr => xii st fun x y r => some (pc + 1, ls, .int (x.toUInt32 >>> (y.toUInt32 &&& Int32.toUInt32 31)).toInt32 :: r, h)
  | .idiv => xii st fun x y r => if y = 0 then none else some (pc + 1, ls, .int (x / y) :: r, h)
  | .irem => xii st fun x y r => if y = 0 then none else some (pc + 1, ls, .int (x - x / y * y) :: r, h)
  | .ineg => xi st fun x r => some (pc + 1, ls, .int (-x) :: r, h)
  | .ladd => xll st fun x y r => some (pc + 1, ls, .long (x + y) :: r, h)
  | .lsub => xll st fun x y r => some (pc + 1, ls, .long (x - y) :: r, h)
  | .lmul => xll st fun x y r => some (pc + 1, ls, .long (x * y) :: r, h)
  | .lor => xll st fun x y r => some (pc + 1, ls, .long (x ||| y) :: r, h)
  | .ldiv => xll st fun x y r => if y = 0 then none else some (pc + 1, ls, .long (x / y) :: r, h)
  | .lrem => xll st fun x y r => if y = 0 then none else some (pc + 1, ls, .long (x - x / y * y) :: r, h)
  | .lneg => xl st fun x r => some (pc + 1, ls, .long (-x) :: r, h)
  | .lshl => xli st fun x y r => some (pc + 1, ls, .long (x <<< (y.toInt64 &&& 63)) :: r, h)
  | .lshr => xli st fun x y r => some (pc + 1, ls, .long (x >>> (y.toInt64 &&& 63)) :: r, h)
  | .lcmp => xll st fun x y r => some (pc + 1, ls, .int (lg_cmp x y) :: r, h)
  | .i2l => xi st fun x r => some (pc + 1, ls, .long x.toInt64 :: r, h)
  | .l2i => xl st fun x r => some (pc + 1, ls, .int x.toInt32 :: r, h)
  | .i2c => xi st fun x r => some (pc + 1, ls, .int (x.toUInt32 % 65536).toInt32 :: r, h)
  | .i2b => xi st fun x r => some (pc + 1, ls, .int x.toInt8.toInt32 :: r, h)
  | .dup => match st with
    | .int x :: r => some (pc + 1, ls, .int x :: .int x :: r, h)
    | .ref x :: r => some (pc + 1, ls, .ref x :: .ref x :: r, h)
    | _ => none
  | .dup2 => match st with
    | .int x :: .ref y :: r => some (pc + 1, ls, .int x :: .ref y :: .int x :: .ref y :: r, h)
    | _ => none
  | .pop => match st with
    | .int _ :: r => some (pc + 1, ls, r, h)
    | .ref _ :: r => some (pc + 1, ls, r, h)
    | _ => none
  | .goto off => some (xTgt pc off, ls, st, h)
  | .ifCond c off => xi st fun x r => match c with
    | .eq => some (if x = 0 then xTgt pc off else pc + 3, ls, r, h)
    | .ne => some (if ¬ x = 0 then xTgt pc off else pc + 3, ls, r, h)
    | .lt => some (if x < 0 then xTgt pc off else pc + 3, ls, r, h)
    | .ge => some (if 0 ≤ x then xTgt pc off else pc + 3, ls, r, h)
    | .gt => some (if 0 < x then xTgt pc off else pc + 3, ls, r, h)
    | .le => some (if x ≤ 0 then xTgt pc off else pc + 3, ls, r, h)
  | .if_icmp c off => xii st fun x y r => match c with
    | .eq => some (if x = y then xTgt pc off else pc + 3, ls, r, h)
    | .ne => some (if ¬ x = y then xTgt pc off else pc + 3, ls, r, h)
    | .lt => some (if x < y then xTgt pc off else pc + 3, ls, r, h)
    | .ge => some (if y ≤ x then xTgt pc off else pc + 3, ls, r, h)
    | .gt => some (if y < x then xTgt pc off else pc + 3, ls, r, h)
    | .le => some (if x ≤ y then xTgt pc off else pc + 3, ls, r, h)
  | .ifnull off => xq st fun a r => match a with
    | some _ => some (pc + 3, ls, r, h)
    | none => some (xTgt pc off, ls, r, h)
  | .ifnonnull off => xq st fun a r => match a with
    | some _ => some (xTgt pc off, ls, r, h)
    | none => some (pc + 3, ls, r, h)
  | .tableswitch d lo hi offs => xi st fun x r =>
    if x.toInt < lo ∨ hi < x.toInt then some (xTgt pc d, ls, r, h) else (offs[(x.toInt - lo).toNat]?).bind fun off => some (xTgt pc off, ls, r, h)
  | .lookupswitch d ps => xi st fun x r => some (xTgt pc (Op.lookupswitch.offset ps.toList d x.toInt), ls, r, h)
  | .getfield _ => bif i.2.2.2.2.1 == 5 then xa st fun a r => bif Nat.ble 2 a && Nat.ble a 4 then some (pc + 3, ls, .ref (a + 3) :: r, h) else none
    else bif i.2.2.2.2.1 == 6 then xa st fun a r => bif Nat.ble 2 a && Nat.ble a 4 then some (pc + 3, ls, .int 0 :: r, h) else none
    else xa st fun a r => xob h a i.2.2.1 fun fs => (fs[i.2.2.2.1]?).bind fun v => some (pc + 3, ls, v :: r, h)
  | .putfield _ => match st with
    | v :: .ref a :: r => xob h a i.2.2.1 fun fs => bif xfit i.2.2.2.2.1 v && Nat.blt i.2.2.2.1 fs.length then some (pc + 3, ls, r, xUp h a (.inr (i.2.2.1, fs.set i.2.2.2.1 v))) else none
    | _ => none
  | .getstatic _ => bif i.2.2.2.2.1 == 1 then some (pc + 3, ls, .int 1 :: st, h)
    else bif i.2.2.2.2.1 == 2 then match ro 8 with
      | some _ => some (pc + 3, ls, .ref 8 :: st, h)
      | none => some (pc + 3, ls, .null :: st, h)
    else some (pc + 3, ls, .ref i.2.2.2.1 :: st, h)
  | .iaload => xai st fun a k r => bif Nat.blt a 2 then (ro a).bind fun q => xin k q.1 fun j => some (pc + 1, ls, .int (q.2 j) :: r, h)
      else xar h a 0 fun n f => xin k n fun j => some (pc + 1, ls, .int (f j) :: r, h)
  | .baload => xai st fun a k r => bif Nat.blt a 16 then (xStB a).bind fun q => xin k q.1 fun j => some (pc + 1, ls, .int (q.2 j) :: r, h)
      else xar h a 2 fun n f => xin k n fun j => some (pc + 1, ls, .int (f j) :: r, h)
  | .laload => xai st fun a k r => xarl h a fun n f => xin k n fun j => some (pc + 1, ls, .long (f j) :: r, h)
  | .aaload => xai st fun a k r => xarq h a fun _ n f => xin k n fun j => some (pc + 1, ls, va_rf (f j) :: r, h)
  | .iastore => xi st fun x r => xai r fun a k r => xar h a 0 fun n f => xin k n fun j => some (pc + 1, ls, r, xUp h a (.inl (0, n, .inl (upd f j x))))
  | .bastore => xi st fun x r => xai r fun a k r => xar h a 2 fun n f => xin k n fun j => if x = 0 ∨ x = 1 then some (pc + 1, ls, r, xUp h a (.inl (2, n, .inl (upd f j x)))) else none
  | .lastore => xl st fun x r => xai r fun a k r => xarl h a fun n f => xin k n fun j => some (pc + 1, ls, r, xUp h a (.inl (1, n, .inr (.inl (vp_updL f j x)))))
  | .aastore => xq st fun v r => xai r fun a k r => xarq h a fun t n f => xin k n fun j => match v with
    | none => some (pc + 1, ls, r, xUp h a (.inl (t, n, .inr (.inr (.inr (.inr (va_up f j none)))))))
    | some o => xob h o (xEl t) fun _ => some (pc + 1, ls, r, xUp h a (.inl (t, n, .inr (.inr (.inr (.inr (va_up f j (some o))))))))
  | .arraylength => xa st fun a r => bif Nat.blt a 16 then (xLn ro a).bind fun n => some (pc + 1, ls, .int (Int32.ofNat n) :: r, h)
      else match h.2.2 a with
        | some (.inl (t, n, _)) => bif Nat.blt t 5 then some (pc + 1, ls, .int (Int32.ofNat n) :: r, h) else none
        | _ => none
  | .newarray at_ => xi st fun x r => (xTag at_).bind fun t => if x < 0 ∨ 100000 < x.toNatClampNeg then none else some (pc + 2, ls, .ref h.1 :: r, xNw h x.toNatClampNeg (.inl (t, xZero t x.toNatClampNeg)))
  | .anewarray _ => xi st fun x r => if x < 0 ∨ 100000 < x.toNatClampNeg then none else some (pc + 3, ls, .ref h.1 :: r, xNw h x.toNatClampNeg (.inl (i.2.2.1, x.toNatClampNeg, .inr (.inr (.inr (.inr (fun _ => none)))))))
  | .new _ => some (pc + 3, ls, .ref h.1 :: st, xNw h i.2.2.2.1 (.inr (i.2.2.1, xNew i.2.2.1 i.2.2.2.1)))
  | .invokestatic _ => bif i.2.2.2.2.1 == 9 then match st with
      | .int n :: .int dp :: .ref a :: .int sp :: .ref a0 :: r => xar h a0 0 fun n0 f => xar h a 0 fun n1 f1 =>
          if sp < 0 ∨ dp < 0 ∨ n < 0 ∨ n0 < sp.toNatClampNeg + n.toNatClampNeg ∨ n1 < dp.toNatClampNeg + n.toNatClampNeg ∨ 8 < (r.map fun v => v.category).sum then none
          else some (pc + 3, ls, r, xUp h a (.inl (0, n1, .inl (va_cpy f f1 sp.toNatClampNeg dp.toNatClampNeg n.toNatClampNeg))))
      | _ => none
    else bif i.2.2.2.2.1 == 10 then xii st fun x y r => if 8 < (r.map fun v => v.category).sum then none else some (pc + 3, ls, .int (if x < y then y else x) :: r, h)
    else bif i.2.2.2.2.1 == 11 then xii st fun x y r => if 8 < (r.map fun v => v.category).sum then none else some (pc + 3, ls, .int (if y < x then y else x) :: r, h)
    else bif i.2.2.2.2.1 == 12 then xll st fun x y r => if 8 < (r.map fun v => v.category).sum then none else some (pc + 3, ls, .long (if y < x then x else y) :: r, h)
    else bif i.2.2.2.2.1 == 13 then xll st fun x y r => if 8 < (r.map fun v => v.category).sum then none else some (pc + 3, ls, .long (if y < x then y else x) :: r, h)
    else none
  | .invokevirtual _ => bif i.2.2.2.2.1 == 8 then xa st fun a r => xar h a 0 fun n f => if 8 < (r.map fun v => v.category).sum ∨ 100000 < n then none else some (pc + 3, ls, .ref h.1 :: r, xNw h n (.inl (0, n, .inl f))) else none
  | .checkcast _ => xa st fun a r => xar h a 0 fun _ _ => some (pc + 3, ls, .ref a :: r, h)
  | .invokespecial _ => bif i.2.2.2.2.1 == 8 then xa st fun _ r => if 8 < (r.map fun v => v.category).sum then none else some (pc + 3, ls, r, h) else none
  | _ => none
