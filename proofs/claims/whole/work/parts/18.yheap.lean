/-! ===== A heap of a fixed shape: what its objects and arrays hold, as functions ===== -/
/-- the shape: an object's class and the kinds of its fields (0 an int, 1 a long, n + 2 the cell n); an array's kind and length -/
abbrev yK : Type := Nat → Option ((Nat × List Nat) ⊕ (Nat × Nat))
/-- ints of objects, longs of objects, ints of arrays, longs of arrays, references of arrays -/
abbrev yS : Type := (Nat → Nat → Int32) × (Nat → Nat → Int64) × (Nat → Nat → Int32) × (Nat → Nat → Int64) × (Nat → Nat → Option Nat)
def yF (S : yS) (i : Nat) : Nat → List Nat → List Value
  | _, [] => []
  | k, 0 :: r => .int (S.1 i k) :: yF S i (k + 1) r
  | k, 1 :: r => .long (S.2.1 i k) :: yF S i (k + 1) r
  | k, (n + 2) :: r => .ref n :: yF S i (k + 1) r
def yA (S : yS) (i t n : Nat) : vp_A := bif Nat.beq t 1 then (n, .inr (.inl (S.2.2.2.1 i))) else bif Nat.beq t 3 || Nat.beq t 4 then (n, .inr (.inr (.inr (.inr (S.2.2.2.2 i))))) else (n, .inl (S.2.2.1 i))
def yE (K : yK) (S : yS) (i : Nat) : Option va_E := match K i with
  | none => none
  | some (.inl (ci, ks)) => some (.inr (ci, yF S i 0 ks))
  | some (.inr (t, n)) => some (.inl (t, yA S i t n))
def yH (K : yK) (z : Nat × Nat) (S : yS) : xH := (z.1, z.2, yE K S)
def yU {α : Type} (f : Nat → α) (k : Nat) (x : α) : Nat → α := fun j => if j = k then x else f j
def ySi (S : yS) (i k : Nat) (v : Int32) : yS := (yU S.1 i (yU (S.1 i) k v), S.2)
def ySj (S : yS) (i k : Nat) (v : Int64) : yS := (S.1, yU S.2.1 i (yU (S.2.1 i) k v), S.2.2)
def ySa (S : yS) (a : Nat) (f : Nat → Int32) : yS := (S.1, S.2.1, yU S.2.2.1 a f, S.2.2.2)
def ySl (S : yS) (a : Nat) (f : Nat → Int64) : yS := (S.1, S.2.1, S.2.2.1, yU S.2.2.2.1 a f, S.2.2.2.2)
def ySq (S : yS) (a : Nat) (f : Nat → Option Nat) : yS := (S.1, S.2.1, S.2.2.1, S.2.2.2.1, yU S.2.2.2.2 a f)
def yob {α : Type} (K : yK) (a ci : Nat) (k : List Nat → Option α) : Option α := match K a with
  | some (.inl (c, ks)) => bif Nat.beq c ci then k ks else none
  | _ => none
def yar {α : Type} (K : yK) (a t : Nat) (k : Nat → Option α) : Option α := match K a with
  | some (.inr (c, n)) => bif Nat.beq c t then k n else none
  | _ => none
def yarq {α : Type} (K : yK) (a : Nat) (k : Nat → Nat → Option α) : Option α := match K a with
  | some (.inr (c, n)) => bif Nat.beq c 3 || Nat.beq c 4 then k c n else none
  | _ => none
abbrev yT : Type := Nat × xL × List Value × yS
/-- one instruction that calls and makes nothing, over a shape -/
def yStep (ro : xRo) (K : yK) (i : xI) (pc : Nat) (ls : xL) (st : List Value) (S : yS) : Option yT :=
  match i.1 with
  | .aconst_null => some (pc + 1, ls, .null :: st, S)
  | .aload n => (xgt ls n).bind fun v => match v with
    | .ref a => some (pc + 2, ls, .ref a :: st, S)
    | .null => some (pc + 2, ls, .null :: st, S)
    | _ => none
  | .aload_n n => (xgt ls n).bind fun v => match v with
    | .ref a => some (pc + 1, ls, .ref a :: st, S)
    | .null => some (pc + 1, ls, .null :: st, S)
    | _ => none
  | .iload n => (xgt ls n).bind fun v => match v with
    | .int a => some (pc + 2, ls, .int a :: st, S)
    | _ => none
  | .iload_n n => (xgt ls n).bind fun v => match v with
    | .int a => some (pc + 1, ls, .int a :: st, S)
    | _ => none
  | .lload n => (xgt ls n).bind fun v => match v with
    | .long a => some (pc + 2, ls, .long a :: st, S)
    | _ => none
  | .lload_n n => (xgt ls n).bind fun v => match v with
    | .long a => some (pc + 1, ls, .long a :: st, S)
    | _ => none
  | .istore n => xi st fun x r => some (pc + 2, xP1 ls n (.int x), r, S)
  | .istore_n n => xi st fun x r => some (pc + 1, xP1 ls n (.int x), r, S)
  | .lstore n => xl st fun x r => some (pc + 2, xP2 ls n (.long x), r, S)
  | .lstore_n n => xl st fun x r => some (pc + 1, xP2 ls n (.long x), r, S)
  | .astore n => xq st fun x r => some (pc + 2, xP1 ls n (va_rf x), r, S)
  | .astore_n n => xq st fun x r => some (pc + 1, xP1 ls n (va_rf x), r, S)
  | .iinc n k => (xgt ls n).bind fun v => match v with
    | .int x => some (pc + 3, xP1 ls n (.int (x + Int32.ofInt k)), st, S)
    | _ => none
  | .iconst n => some (pc + 1, ls, .int (Int32.ofInt n) :: st, S)
  | .bipush n => some (pc + 2, ls, .int (Int32.ofInt n) :: st, S)
  | .sipush n => some (pc + 3, ls, .int (Int32.ofInt n) :: st, S)
  | .lconst n => some (pc + 1, ls, .long (Int64.ofNat n) :: st, S)
  | .ldc _ => bif Nat.beq i.2.2.1 0 then some (pc + 2, ls, .int (Int32.ofInt i.2.2.2.2.1) :: st, S) else some (pc + 2, ls, .ref i.2.2.2.1 :: st, S)
  | .ldc_w _ => some (pc + 3, ls, .int (Int32.ofInt i.2.2.2.2.1) :: st, S)
  | .ldc2_w _ => some (pc + 3, ls, .long (Int64.ofInt i.2.2.2.2.1) :: st, S)
  | .iadd => xii st fun x y r => some (pc + 1, ls, .int (x + y) :: r, S)
  | .isub => xii st fun x y r => some (pc + 1, ls, .int (x - y) :: r, S)
  | .imul => xii st fun x y r => some (pc + 1, ls, .int (x * y) :: r, S)
  | .iand => xii st fun x y r => some (pc + 1, ls, .int (x &&& y) :: r, S)
  | .ior => xii st fun x y r => some (pc + 1, ls, .int (x ||| y) :: r, S)
  | .ixor => xii st fun x y r => some (pc + 1, ls, .int (x ^^^ y) :: r, S)
  | .ishl => xii st fun x y r => some (pc + 1, ls, .int (x <<< (y &&& 31)) :: r, S)
  | .ishr => xii st fun x y r => some (pc + 1, ls, .int (x >>> (y &&& 31)) :: r, S)
  | .iushr => xii st fun x y r => some (pc + 1, ls, .int (x.toUInt32 >>> (y.toUInt32 &&& Int32.toUInt32 31)).toInt32 :: r, S)
  | .idiv => xii st fun x y r => if y = 0 then none else some (pc + 1, ls, .int (x / y) :: r, S)
  | .irem => xii st fun x y r => if y = 0 then none else some (pc + 1, ls, .int (x - x / y * y) :: r, S)
  | .ineg => xi st fun x r => some (pc + 1, ls, .int (-x) :: r, S)
  | .ladd => xll st fun x y r => some (pc + 1, ls, .long (x + y) :: r, S)
  | .lsub => xll st fun x y r => some (pc + 1, ls, .long (x - y) :: r, S)
  | .lmul => xll st fun x y r => some (pc + 1, ls, .long (x * y) :: r, S)
  | .lor => xll st fun x y r => some (pc + 1, ls, .long (x ||| y) :: r, S)
  | .ldiv => xll st fun x y r => if y = 0 then none else some (pc + 1, ls, .long (x / y) :: r, S)
  | .lrem => xll st fun x y r => if y = 0 then none else some (pc + 1, ls, .long (x - x / y * y) :: r, S)
  | .lneg => xl st fun x r => some (pc + 1, ls, .long (-x) :: r, S)
  | .lshl => xli st fun x y r => some (pc + 1, ls, .long (x <<< (y.toInt64 &&& 63)) :: r, S)
  | .lshr => xli st fun x y r => some (pc + 1, ls, .long (x >>> (y.toInt64 &&& 63)) :: r, S)
  | .lcmp => xll st fun x y r => some (pc + 1, ls, .int (lg_cmp x y) :: r, S)
  | .i2l => xi st fun x r => some (pc + 1, ls, .long x.toInt64 :: r, S)
  | .l2i => xl st fun x r => some (pc + 1, ls, .int x.toInt32 :: r, S)
  | .i2c => xi st fun x r => some (pc + 1, ls, .int (x.toUInt32 % 65536).toInt32 :: r, S)
  | .i2b => xi st fun x r => some (pc + 1, ls, .int x.toInt8.toInt32 :: r, S)
  | .dup => match st with
    | .int x :: r => some (pc + 1, ls, .int x :: .int x :: r, S)
    | .ref x :: r => some (pc + 1, ls, .ref x :: .ref x :: r, S)
    | _ => none
  | .dup2 => match st with
    | .int x :: .ref y :: r => some (pc + 1, ls, .int x :: .ref y :: .int x :: .ref y :: r, S)
    | _ => none
  | .pop => match st with
    | .int _ :: r => some (pc + 1, ls, r, S)
    | .ref _ :: r => some (pc + 1, ls, r, S)
    | _ => none
  | .goto off => some (xTgt pc off, ls, st, S)
  | .ifCond c off => xi st fun x r => match c with
    | .eq => some (if x = 0 then xTgt pc off else pc + 3, ls, r, S)
    | .ne => some (if ¬ x = 0 then xTgt pc off else pc + 3, ls, r, S)
    | .lt => some (if x < 0 then xTgt pc off else pc + 3, ls, r, S)
    | .ge => some (if 0 ≤ x then xTgt pc off else pc + 3, ls, r, S)
    | .gt => some (if 0 < x then xTgt pc off else pc + 3, ls, r, S)
    | .le => some (if x ≤ 0 then xTgt pc off else pc + 3, ls, r, S)
  | .if_icmp c off => xii st fun x y r => match c with
    | .eq => some (if x = y then xTgt pc off else pc + 3, ls, r, S)
    | .ne => some (if ¬ x = y then xTgt pc off else pc + 3, ls, r, S)
    | .lt => some (if x < y then xTgt pc off else pc + 3, ls, r, S)
    | .ge => some (if y ≤ x then xTgt pc off else pc + 3, ls, r, S)
    | .gt => some (if y < x then xTgt pc off else pc + 3, ls, r, S)
    | .le => some (if x ≤ y then xTgt pc off else pc + 3, ls, r, S)
  | .ifnull off => xq st fun a r => match a with
    | some _ => some (pc + 3, ls, r, S)
    | none => some (xTgt pc off, ls, r, S)
  | .ifnonnull off => xq st fun a r => match a with
    | some _ => some (xTgt pc off, ls, r, S)
    | none => some (pc + 3, ls, r, S)
  | .tableswitch d lo hi offs => xi st fun x r =>
    if x.toInt < lo ∨ hi < x.toInt then some (xTgt pc d, ls, r, S) else (offs[(x.toInt - lo).toNat]?).bind fun off => some (xTgt pc off, ls, r, S)
  | .lookupswitch d ps => xi st fun x r => some (xTgt pc (Op.lookupswitch.offset ps.toList d x.toInt), ls, r, S)
  | .getstatic _ => bif i.2.2.2.2.1 == 1 then some (pc + 3, ls, .int 1 :: st, S)
    else bif i.2.2.2.2.1 == 2 then match ro 8 with
      | some _ => some (pc + 3, ls, .ref 8 :: st, S)
      | none => some (pc + 3, ls, .null :: st, S)
    else some (pc + 3, ls, .ref i.2.2.2.1 :: st, S)
  | .invokespecial _ => bif i.2.2.2.2.1 == 8 then xa st fun _ r => if 8 < (r.map fun v => v.category).sum then none else some (pc + 3, ls, r, S) else none
  | .getfield _ => bif i.2.2.2.2.1 == 5 then xa st fun a r => bif Nat.ble 2 a && Nat.ble a 4 then some (pc + 3, ls, .ref (a + 3) :: r, S) else none
    else bif i.2.2.2.2.1 == 6 then xa st fun a r => bif Nat.ble 2 a && Nat.ble a 4 then some (pc + 3, ls, .int 0 :: r, S) else none
    else xa st fun a r => yob K a i.2.2.1 fun ks => match ks[i.2.2.2.1]? with
    | some 0 => some (pc + 3, ls, .int (S.1 a i.2.2.2.1) :: r, S)
    | some 1 => some (pc + 3, ls, .long (S.2.1 a i.2.2.2.1) :: r, S)
    | some (n + 2) => some (pc + 3, ls, .ref n :: r, S)
    | none => none
  | .putfield _ => match st with
    | .int v :: .ref a :: r => yob K a i.2.2.1 fun ks => match ks[i.2.2.2.1]? with
      | some 0 => bif xfit i.2.2.2.2.1 (.int v) then some (pc + 3, ls, r, ySi S a i.2.2.2.1 v) else none
      | _ => none
    | .long v :: .ref a :: r => yob K a i.2.2.1 fun ks => match ks[i.2.2.2.1]? with
      | some 1 => bif i.2.2.2.2.1 == 1 then some (pc + 3, ls, r, ySj S a i.2.2.2.1 v) else none
      | _ => none
    | _ => none
  | .checkcast _ => xa st fun a r => yar K a 0 fun _ => some (pc + 3, ls, .ref a :: r, S)
  | .iaload => xai st fun a k r => bif Nat.blt a 2 then (ro a).bind fun q => xin k q.1 fun j => some (pc + 1, ls, .int (q.2 j) :: r, S)
      else yar K a 0 fun n => xin k n fun j => some (pc + 1, ls, .int (S.2.2.1 a j) :: r, S)
  | .baload => xai st fun a k r => bif Nat.blt a 16 then (xStB a).bind fun q => xin k q.1 fun j => some (pc + 1, ls, .int (q.2 j) :: r, S)
      else yar K a 2 fun n => xin k n fun j => some (pc + 1, ls, .int (S.2.2.1 a j) :: r, S)
  | .laload => xai st fun a k r => yar K a 1 fun n => xin k n fun j => some (pc + 1, ls, .long (S.2.2.2.1 a j) :: r, S)
  | .aaload => xai st fun a k r => yarq K a fun _ n => xin k n fun j => some (pc + 1, ls, va_rf (S.2.2.2.2 a j) :: r, S)
  | .iastore => xi st fun x r => xai r fun a k r => yar K a 0 fun n => xin k n fun j => some (pc + 1, ls, r, ySa S a (upd (S.2.2.1 a) j x))
  | .bastore => xi st fun x r => xai r fun a k r => yar K a 2 fun n => xin k n fun j => if x = 0 ∨ x = 1 then some (pc + 1, ls, r, ySa S a (upd (S.2.2.1 a) j x)) else none
  | .lastore => xl st fun x r => xai r fun a k r => yar K a 1 fun n => xin k n fun j => some (pc + 1, ls, r, ySl S a (vp_updL (S.2.2.2.1 a) j x))
  | .aastore => xq st fun v r => xai r fun a k r => yarq K a fun t n => xin k n fun j => match v with
    | none => some (pc + 1, ls, r, ySq S a (va_up (S.2.2.2.2 a) j none))
    | some o => yob K o (xEl t) fun _ => some (pc + 1, ls, r, ySq S a (va_up (S.2.2.2.2 a) j (some o)))
  | .arraylength => xa st fun a r => bif Nat.blt a 16 then (xLn ro a).bind fun n => some (pc + 1, ls, .int (Int32.ofNat n) :: r, S)
      else match K a with
        | some (.inr (t, n)) => bif Nat.blt t 5 then some (pc + 1, ls, .int (Int32.ofNat n) :: r, S) else none
        | _ => none
  | .invokestatic _ => bif i.2.2.2.2.1 == 9 then match st with
      | .int n :: .int dp :: .ref a :: .int sp :: .ref a0 :: r => yar K a0 0 fun n0 => yar K a 0 fun n1 =>
          if sp < 0 ∨ dp < 0 ∨ n < 0 ∨ n0 < sp.toNatClampNeg + n.toNatClampNeg ∨ n1 < dp.toNatClampNeg + n.toNatClampNeg ∨ 8 < (r.map fun v => v.category).sum then none
          else some (pc + 3, ls, r, ySa S a (va_cpy (S.2.2.1 a0) (S.2.2.1 a) sp.toNatClampNeg dp.toNatClampNeg n.toNatClampNeg))
      | _ => none
    else bif i.2.2.2.2.1 == 10 then xii st fun x y r => if 8 < (r.map fun v => v.category).sum then none else some (pc + 3, ls, .int (if x < y then y else x) :: r, S)
    else bif i.2.2.2.2.1 == 11 then xii st fun x y r => if 8 < (r.map fun v => v.category).sum then none else some (pc + 3, ls, .int (if y < x then y else x) :: r, S)
    else bif i.2.2.2.2.1 == 12 then xll st fun x y r => if 8 < (r.map fun v => v.category).sum then none else some (pc + 3, ls, .long (if y < x then x else y) :: r, S)
    else bif i.2.2.2.2.1 == 13 then xll st fun x y r => if 8 < (r.map fun v => v.category).sum then none else some (pc + 3, ls, .long (if y < x then y else x) :: r, S)
    else none
  | _ => none
theorem yU_ne {α : Type} {f : Nat → α} {k j : Nat} {x : α} (h : j ≠ k) : yU f k x j = f j := if_neg h
theorem yU_eq {α : Type} {f : Nat → α} {k : Nat} {x : α} : yU f k x k = x := if_pos rfl
theorem yob_inv {α : Type} {K : yK} {a ci : Nat} {k : List Nat → Option α} {s : α} (hh : yob K a ci k = some s) : ∃ ks, K a = some (.inl (ci, ks)) ∧ k ks = some s := by
  unfold yob at hh
  split at hh
  · rename_i c fs he
    cases hc : Nat.beq c ci with
    | true => rw [hc] at hh; exact ⟨fs, by rw [he, xbeq hc], hh⟩
    | false => rw [hc] at hh; cases hh
  · cases hh
theorem yar_inv {α : Type} {K : yK} {a t : Nat} {k : Nat → Option α} {s : α} (hh : yar K a t k = some s) : ∃ n, K a = some (.inr (t, n)) ∧ k n = some s := by
  unfold yar at hh
  split at hh
  · rename_i c n he
    cases hc : Nat.beq c t with
    | true => rw [hc] at hh; exact ⟨n, by rw [he, xbeq hc], hh⟩
    | false => rw [hc] at hh; cases hh
  · cases hh
theorem yarq_inv {α : Type} {K : yK} {a : Nat} {k : Nat → Nat → Option α} {s : α} (hh : yarq K a k = some s) : ∃ t n, (t = 3 ∨ t = 4) ∧ K a = some (.inr (t, n)) ∧ k t n = some s := by
  unfold yarq at hh
  split at hh
  · rename_i c n he
    cases hc : (Nat.beq c 3 || Nat.beq c 4) with
    | true =>
      rw [hc] at hh
      refine ⟨c, n, ?_, he, hh⟩
      rcases Bool.or_eq_true_iff.mp hc with h1 | h1
      · exact Or.inl (xbeq h1)
      · exact Or.inr (xbeq h1)
    | false => rw [hc] at hh; cases hh
  · cases hh
theorem yF_len (S : yS) (i : Nat) : ∀ (ks : List Nat) (k : Nat), (yF S i k ks).length = ks.length
  | [], _ => rfl
  | 0 :: r, k => by show (yF S i (k + 1) r).length + 1 = r.length + 1; rw [yF_len S i r]
  | 1 :: r, k => by show (yF S i (k + 1) r).length + 1 = r.length + 1; rw [yF_len S i r]
  | (n + 2) :: r, k => by show (yF S i (k + 1) r).length + 1 = r.length + 1; rw [yF_len S i r]
def yV (S : yS) (i k : Nat) : Nat → Value
  | 0 => .int (S.1 i k)
  | 1 => .long (S.2.1 i k)
  | n + 2 => .ref n
theorem yF_get (S : yS) (i : Nat) : ∀ (ks : List Nat) (k j : Nat), (yF S i k ks)[j]? = (ks[j]?).map (yV S i (k + j))
  | [], _, _ => by simp [yF]
  | 0 :: r, k, 0 => rfl
  | 1 :: r, k, 0 => rfl
  | (n + 2) :: r, k, 0 => rfl
  | 0 :: r, k, j + 1 => by show (yF S i (k + 1) r)[j]? = _; rw [yF_get S i r, show k + 1 + j = k + (j + 1) by omega]; rfl
  | 1 :: r, k, j + 1 => by show (yF S i (k + 1) r)[j]? = _; rw [yF_get S i r, show k + 1 + j = k + (j + 1) by omega]; rfl
  | (n + 2) :: r, k, j + 1 => by show (yF S i (k + 1) r)[j]? = _; rw [yF_get S i r, show k + 1 + j = k + (j + 1) by omega]; rfl
theorem yH_ext {z : Nat × Nat} {h : xH} {K : yK} {S : yS} (h1 : h.1 = z.1) (h2 : h.2.1 = z.2) (h3 : ∀ j, h.2.2 j = yE K S j) : h = yH K z S := by
  obtain ⟨a, b, f⟩ := h
  obtain ⟨c, d⟩ := z
  dsimp only at h1 h2 h3
  subst h1; subst h2
  show (a, b, f) = (a, b, yE K S)
  rw [show f = yE K S from funext h3]
theorem yE_other {K : yK} {S S' : yS} {j : Nat} (h1 : S'.1 j = S.1 j) (h2 : S'.2.1 j = S.2.1 j) (h3 : S'.2.2.1 j = S.2.2.1 j) (h4 : S'.2.2.2.1 j = S.2.2.2.1 j) (h5 : S'.2.2.2.2 j = S.2.2.2.2 j) : yE K S' j = yE K S j := by
  have hF : ∀ (ks : List Nat) (k : Nat), yF S' j k ks = yF S j k ks := by
    intro ks k
    apply List.ext_getElem?
    intro q
    rw [yF_get, yF_get]
    cases hq : ks[q]? with
    | none => rfl
    | some v =>
      show some (yV S' j (k + q) v) = some (yV S j (k + q) v)
      match v with
      | 0 => simp only [yV, h1]
      | 1 => simp only [yV, h2]
      | n + 2 => rfl
  unfold yE yA
  rw [h3, h4, h5]
  simp only [hF]
theorem yUp_i {K : yK} {z : Nat × Nat} {S : yS} {a ci k : Nat} {ks : List Nat} {v : Int32} (hk : K a = some (.inl (ci, ks))) (hks : ks[k]? = some 0) : xUp (yH K z S) a (.inr (ci, (yF S a 0 ks).set k (.int v))) = yH K z (ySi S a k v) := by
  refine yH_ext rfl rfl fun j => ?_
  show (if j = a then _ else yE K S j) = _
  by_cases hj : j = a
  · subst hj
    rw [if_pos rfl]
    unfold yE
    rw [hk]
    congr 3
    apply List.ext_getElem?
    intro q
    rw [yF_get, List.getElem?_set, yF_get, yF_len]
    have hlt : k < ks.length := (List.getElem?_eq_some_iff.mp hks).1
    by_cases hq : k = q
    · subst hq
      rw [if_pos rfl, if_pos hlt, hks]
      show some (Value.int v) = some (Value.int ((ySi S j k v).1 j (0 + k)))
      simp [ySi, yU]
    · rw [if_neg hq]
      cases hx : ks[q]? with
      | none => rfl
      | some w =>
        match w with
        | 0 =>
          show some (Value.int (S.1 j (0 + q))) = some (Value.int ((ySi S j k v).1 j (0 + q)))
          simp [ySi, yU, Ne.symm hq]
        | 1 => rfl
        | n + 2 => rfl
  · rw [if_neg hj]
    exact (yE_other (S := S) (S' := ySi S a k v) (yU_ne hj) rfl rfl rfl rfl).symm
theorem yUp_j {K : yK} {z : Nat × Nat} {S : yS} {a ci k : Nat} {ks : List Nat} {v : Int64} (hk : K a = some (.inl (ci, ks))) (hks : ks[k]? = some 1) : xUp (yH K z S) a (.inr (ci, (yF S a 0 ks).set k (.long v))) = yH K z (ySj S a k v) := by
  refine yH_ext rfl rfl fun j => ?_
  show (if j = a then _ else yE K S j) = _
  by_cases hj : j = a
  · subst hj
    rw [if_pos rfl]
    unfold yE
    rw [hk]
    congr 3
    apply List.ext_getElem?
    intro q
    rw [yF_get, List.getElem?_set, yF_get, yF_len]
    have hlt : k < ks.length := (List.getElem?_eq_some_iff.mp hks).1
    by_cases hq : k = q
    · subst hq
      rw [if_pos rfl, if_pos hlt, hks]
      show some (Value.long v) = some (Value.long ((ySj S j k v).2.1 j (0 + k)))
      simp [ySj, yU]
    · rw [if_neg hq]
      cases hx : ks[q]? with
      | none => rfl
      | some w =>
        match w with
        | 0 => rfl
        | 1 =>
          show some (Value.long (S.2.1 j (0 + q))) = some (Value.long ((ySj S j k v).2.1 j (0 + q)))
          simp [ySj, yU, Ne.symm hq]
        | n + 2 => rfl
  · rw [if_neg hj]
    exact (yE_other (S := S) (S' := ySj S a k v) rfl (yU_ne hj) rfl rfl rfl).symm
theorem yUp_a {K : yK} {z : Nat × Nat} {S : yS} {a t n : Nat} {f : Nat → Int32} (ht : t = 0 ∨ t = 2) (hk : K a = some (.inr (t, n))) : xUp (yH K z S) a (.inl (t, n, .inl f)) = yH K z (ySa S a f) := by
  refine yH_ext rfl rfl fun j => ?_
  show (if j = a then _ else yE K S j) = _
  by_cases hj : j = a
  · subst hj
    rw [if_pos rfl]
    unfold yE
    rw [hk]
    have hf : (ySa S j f).2.2.1 j = f := yU_eq
    rcases ht with rfl | rfl
    · show _ = some (Sum.inl (0, n, Sum.inl ((ySa S j f).2.2.1 j)))
      rw [hf]
    · show _ = some (Sum.inl (2, n, Sum.inl ((ySa S j f).2.2.1 j)))
      rw [hf]
  · rw [if_neg hj]
    exact (yE_other (S := S) (S' := ySa S a f) rfl rfl (yU_ne hj) rfl rfl).symm
theorem yUp_l {K : yK} {z : Nat × Nat} {S : yS} {a n : Nat} {f : Nat → Int64} (hk : K a = some (.inr (1, n))) : xUp (yH K z S) a (.inl (1, n, .inr (.inl f))) = yH K z (ySl S a f) := by
  refine yH_ext rfl rfl fun j => ?_
  show (if j = a then _ else yE K S j) = _
  by_cases hj : j = a
  · subst hj
    rw [if_pos rfl]
    unfold yE
    rw [hk]
    have hf : (ySl S j f).2.2.2.1 j = f := yU_eq
    show _ = some (Sum.inl (1, n, Sum.inr (Sum.inl ((ySl S j f).2.2.2.1 j))))
    rw [hf]
  · rw [if_neg hj]
    exact (yE_other (S := S) (S' := ySl S a f) rfl rfl rfl (yU_ne hj) rfl).symm
theorem yUp_q {K : yK} {z : Nat × Nat} {S : yS} {a t n : Nat} {f : Nat → Option Nat} (ht : t = 3 ∨ t = 4) (hk : K a = some (.inr (t, n))) : xUp (yH K z S) a (.inl (t, n, .inr (.inr (.inr (.inr f))))) = yH K z (ySq S a f) := by
  refine yH_ext rfl rfl fun j => ?_
  show (if j = a then _ else yE K S j) = _
  by_cases hj : j = a
  · subst hj
    rw [if_pos rfl]
    unfold yE
    rw [hk]
    have hf : (ySq S j f).2.2.2.2 j = f := yU_eq
    rcases ht with rfl | rfl
    · show _ = some (Sum.inl (3, n, Sum.inr (Sum.inr (Sum.inr (Sum.inr ((ySq S j f).2.2.2.2 j))))))
      rw [hf]
    · show _ = some (Sum.inl (4, n, Sum.inr (Sum.inr (Sum.inr (Sum.inr ((ySq S j f).2.2.2.2 j))))))
      rw [hf]
  · rw [if_neg hj]
    exact (yE_other (S := S) (S' := ySq S a f) rfl rfl rfl rfl (yU_ne hj)).symm
theorem yE_o {K : yK} {S : yS} {a ci : Nat} {ks : List Nat} (hk : K a = some (.inl (ci, ks))) : yE K S a = some (.inr (ci, yF S a 0 ks)) := by unfold yE; rw [hk]
theorem yE_i {K : yK} {S : yS} {a t n : Nat} (ht : t = 0 ∨ t = 2) (hk : K a = some (.inr (t, n))) : yE K S a = some (.inl (t, n, .inl (S.2.2.1 a))) := by unfold yE; rw [hk]; rcases ht with rfl | rfl <;> rfl
theorem yE_l {K : yK} {S : yS} {a n : Nat} (hk : K a = some (.inr (1, n))) : yE K S a = some (.inl (1, n, .inr (.inl (S.2.2.2.1 a)))) := by unfold yE; rw [hk]; rfl
theorem yE_q {K : yK} {S : yS} {a t n : Nat} (ht : t = 3 ∨ t = 4) (hk : K a = some (.inr (t, n))) : yE K S a = some (.inl (t, n, .inr (.inr (.inr (.inr (S.2.2.2.2 a)))))) := by unfold yE; rw [hk]; rcases ht with rfl | rfl <;> rfl
theorem xob_of {α : Type} {h : xH} {a ci : Nat} {k : List Value → Option α} {fs : List Value} (hh : h.2.2 a = some (.inr (ci, fs))) : xob h a ci k = k fs := by
  unfold xob; rw [hh]; show (bif Nat.beq ci ci then k fs else none) = k fs; rw [Nat.beq_refl]; rfl
theorem xar_of {α : Type} {h : xH} {a t n : Nat} {f : Nat → Int32} {k : Nat → (Nat → Int32) → Option α} (hh : h.2.2 a = some (.inl (t, n, .inl f))) : xar h a t k = k n f := by
  unfold xar; rw [hh]; show (bif Nat.beq t t then k n f else none) = k n f; rw [Nat.beq_refl]; rfl
theorem xarl_of {α : Type} {h : xH} {a n : Nat} {f : Nat → Int64} {k : Nat → (Nat → Int64) → Option α} (hh : h.2.2 a = some (.inl (1, n, .inr (.inl f)))) : xarl h a k = k n f := by
  unfold xarl; rw [hh]; rfl
theorem xarq_of {α : Type} {h : xH} {a t n : Nat} {f : Nat → Option Nat} {k : Nat → Nat → (Nat → Option Nat) → Option α} (ht : t = 3 ∨ t = 4) (hh : h.2.2 a = some (.inl (t, n, .inr (.inr (.inr (.inr f)))))) : xarq h a k = k t n f := by
  unfold xarq; rw [hh]; rcases ht with rfl | rfl <;> rfl
theorem xin_of {α : Type} {i : Int32} {n : Nat} {k : Nat → Option α} (h : vp_in i n) : xin i n k = k i.toNatClampNeg := by
  unfold xin; rw [if_neg h]
