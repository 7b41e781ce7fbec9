/-! ===== What a resolved instruction must be of the bytes and of the tables, by program ===== -/
def xwd (i : xI) (k : Nat) (w : Jvm.Cond) : Bool := match i.2.2.2.2.2[k]? with
  | some p => decide (lw_tbl[p]? = some w) && goodWord w
  | none => false
def xLen (i : Instr) : Option Nat := match i with
  | .aload _ | .iload _ | .lload _ | .istore _ | .lstore _ | .astore _ | .bipush _ | .ldc _ | .newarray _ => some 2
  | .iinc _ _ | .sipush _ | .ldc_w _ | .ldc2_w _ | .goto _ | .ifCond _ _ | .if_icmp _ _ | .ifnull _ | .ifnonnull _ | .getfield _ | .putfield _ | .getstatic _ | .anewarray _ | .new _ | .invokevirtual _ | .invokestatic _ | .invokespecial _ => some 3
  | .tableswitch _ _ _ _ | .lookupswitch _ _ => none
  | _ => some 1
def xNn (pc : Nat) (off : Int) : Bool := decide (0 ≤ (pc : Int) + off)
/-- the kind of a field's type -/
def xKd (ty : FieldType) (k : Int) : Bool := match ty with
  | .int => k == 0
  | .long => k == 1
  | .boolean => k == 3
  | .object _ => k == 2
  | .array _ => k == 2
  | _ => false
def xChk2 (own mname : String) (nL pc : Nat) (i : xI) : Bool := match i.1 with
  | .istore n => decide (n < nL)
  | .istore_n n => decide (n.val < nL)
  | .lstore n => decide (n + 1 < nL)
  | .lstore_n n => decide (n.val + 1 < nL)
  | .astore n => decide (n < nL)
  | .astore_n n => decide (n.val < nL)
  | .iinc n _ => decide (n < nL)
  | .bipush n => decide ((Int8.ofInt n).toInt32 = Int32.ofInt n)
  | .sipush n => decide ((Int16.ofInt n).toInt32 = Int32.ofInt n)
  | .ldc idx => bif Nat.beq i.2.2.1 0 then xwd i 0 (.constant own idx (Int32.ofInt i.2.2.2.2.1)) else
      (decide (own = RX9) && Nat.beq idx 71 && Nat.beq i.2.2.2.1 2) || (decide (own = RX9) && Nat.beq idx 64 && Nat.beq i.2.2.2.1 3) || (decide (own = RX4) && Nat.beq idx 50 && Nat.beq i.2.2.2.1 4)
  | .ldc_w idx => xwd i 0 (.constant own idx (Int32.ofInt i.2.2.2.2.1))
  | .ldc2_w idx => xwd i 0 (.constantLong own idx (Int64.ofInt i.2.2.2.2.1))
  | .goto off => xNn pc off
  | .ifCond _ off => xNn pc off
  | .if_icmp _ off => xNn pc off
  | .ifnull off => xNn pc off
  | .ifnonnull off => xNn pc off
  | .tableswitch d _ _ offs => xNn pc d && offs.toList.all (xNn pc)
  | .lookupswitch d ps => xNn pc d && ps.toList.all (fun q => xNn pc q.2) && (ps.toList.zip (ps.toList.drop 1)).all (fun (a, next) => decide (a.1 < next.1))
  | .getfield idx => match vwCl[i.2.2.1]? with
    | some q => decide (i.2.2.2.1 < q.2.2) && xwd i 0 (.fieldLink own idx (q.2.1 i.2.2.2.1).1 (q.2.1 i.2.2.2.1).2.1 (q.2.1 i.2.2.2.1).2.2.1)
    | none => false
  | .putfield idx => match vwCl[i.2.2.1]? with
    | some q => decide (i.2.2.2.1 < q.2.2) && xwd i 0 (.fieldLink own idx (q.2.1 i.2.2.2.1).1 (q.2.1 i.2.2.2.1).2.1 (q.2.1 i.2.2.2.1).2.2.1) && xKd (xTy i.2.2.1 i.2.2.2.1) i.2.2.2.2.1 &&
        (!(q.2.1 i.2.2.2.1).2.2.2 || (decide (mname = "<init>") && decide ((q.2.1 i.2.2.2.1).1 = own)))
    | none => false
  | .getstatic idx => Nat.beq i.2.2.2.1 1 && xwd i 0 (.fieldLink own idx "MagpieAccounts" "GAME_PARTS" "[I")
  | .newarray t => xwd i 0 (.arrayClass (newarray.typeOf t))
  | .anewarray idx => (Nat.beq i.2.2.1 3 && xwd i 0 (.classLink own idx RX2)) || (Nat.beq i.2.2.1 4 && xwd i 0 (.classLink own idx RX10))
  | .new idx => match vwCl[i.2.2.1]? with
    | some q => Nat.beq i.2.2.2.1 q.2.2 && xwd i 0 (.classLink own idx q.1) && xwd i 1 (.instantiable q.1 q.2.2) && xwd i 2 (.initialized q.1)
    | none => false
  | .invokestatic idx => bif i.2.2.2.2.1 == 9 then xwd i 0 (.methodLink own idx arraycopyName) && xwd i 1 (.native arraycopyName) && xwd i 2 (.static arraycopyName) && xwd i 3 (.initialized "java/lang/System")
    else bif i.2.2.2.2.1 == 10 then xwd i 0 (.methodLink own idx Lib.Math.max.name) && xwd i 1 (.static Lib.Math.max.name) && xwd i 2 (.initialized "java/lang/Math") && xwd i 3 (.code Lib.Math.max.name Lib.Math.max.code 2 (some .int))
    else bif i.2.2.2.2.1 == 11 then xwd i 0 (.methodLink own idx Lib.Math.min.name) && xwd i 1 (.static Lib.Math.min.name) && xwd i 2 (.initialized "java/lang/Math") && xwd i 3 (.code Lib.Math.min.name Lib.Math.min.code 2 (some .int))
    else bif i.2.2.2.2.1 == 12 then xwd i 0 (.methodLink own idx Lib.MathLoose.max_long.x) && xwd i 1 (.static Lib.MathLoose.max_long.x) && xwd i 2 (.initialized "java/lang/Math") && xwd i 3 (.code Lib.MathLoose.max_long.x Lib.MathLoose.max_long.code 4 (some .long))
    else bif i.2.2.2.2.1 == 13 then xwd i 0 (.methodLink own idx Lib.MathLoose.min_long.x) && xwd i 1 (.static Lib.MathLoose.min_long.x) && xwd i 2 (.initialized "java/lang/Math") && xwd i 3 (.code Lib.MathLoose.min_long.x Lib.MathLoose.min_long.code 4 (some .long))
    else true
  | .invokespecial idx => bif i.2.2.2.2.1 == 8 then xwd i 0 (.methodLink own idx Lib.objectInit) && xwd i 1 (.instanceMethod Lib.objectInit) && xwd i 2 (.code Lib.objectInit ⟨#[0xb1]⟩ 1 none) else true
  | _ => true
def xChk (own mname : String) (cc : ByteArray) (nL pc : Nat) (i : xI) : Bool :=
  decide (decode cc pc = .ok (i.1, i.2.1)) && (match xLen i.1 with
    | some n => Nat.beq i.2.1 n
    | none => true) && xChk2 own mname nL pc i
theorem xwd_in {i : xI} {k : Nat} {w : Jvm.Cond} (h : xwd i k w = true) : w ∈ xTb := by
  unfold xwd at h
  split at h
  · simp only [Bool.and_eq_true, decide_eq_true_eq] at h
    exact List.mem_filter.mpr ⟨List.mem_of_getElem? h.1, h.2⟩
  · cases h
theorem xTgt_eq {pc : Nat} {off : Int} (h : xNn pc off = true) : (pc : Int) + off = (xTgt pc off : Int) := by
  have h1 : 0 ≤ (pc : Int) + off := of_decide_eq_true h
  unfold xTgt
  omega
theorem xi_inv {α : Type} {st : List Value} {k : Int32 → List Value → Option α} {s : α} (h : xi st k = some s) : ∃ x r, st = .int x :: r ∧ k x r = some s := by
  unfold xi at h
  split at h
  · exact ⟨_, _, rfl, h⟩
  · cases h
theorem xii_inv {α : Type} {st : List Value} {k : Int32 → Int32 → List Value → Option α} {s : α} (h : xii st k = some s) : ∃ x y r, st = .int y :: .int x :: r ∧ k x y r = some s := by
  unfold xii at h
  split at h
  · exact ⟨_, _, _, rfl, h⟩
  · cases h
theorem xl_inv {α : Type} {st : List Value} {k : Int64 → List Value → Option α} {s : α} (h : xl st k = some s) : ∃ x r, st = .long x :: r ∧ k x r = some s := by
  unfold xl at h
  split at h
  · exact ⟨_, _, rfl, h⟩
  · cases h
theorem xll_inv {α : Type} {st : List Value} {k : Int64 → Int64 → List Value → Option α} {s : α} (h : xll st k = some s) : ∃ x y r, st = .long y :: .long x :: r ∧ k x y r = some s := by
  unfold xll at h
  split at h
  · exact ⟨_, _, _, rfl, h⟩
  · cases h
theorem xli_inv {α : Type} {st : List Value} {k : Int64 → Int32 → List Value → Option α} {s : α} (h : xli st k = some s) : ∃ x y r, st = .int y :: .long x :: r ∧ k x y r = some s := by
  unfold xli at h
  split at h
  · exact ⟨_, _, _, rfl, h⟩
  · cases h
theorem xa_inv {α : Type} {st : List Value} {k : Nat → List Value → Option α} {s : α} (h : xa st k = some s) : ∃ x r, st = .ref x :: r ∧ k x r = some s := by
  unfold xa at h
  split at h
  · exact ⟨_, _, rfl, h⟩
  · cases h
theorem xai_inv {α : Type} {st : List Value} {k : Nat → Int32 → List Value → Option α} {s : α} (h : xai st k = some s) : ∃ a i r, st = .int i :: .ref a :: r ∧ k a i r = some s := by
  unfold xai at h
  split at h
  · exact ⟨_, _, _, rfl, h⟩
  · cases h
theorem xq_inv {α : Type} {st : List Value} {k : Option Nat → List Value → Option α} {s : α} (h : xq st k = some s) : ∃ a r, st = va_rf a :: r ∧ k a r = some s := by
  unfold xq at h
  split at h
  · exact ⟨some _, _, rfl, h⟩
  · exact ⟨none, _, rfl, h⟩
  · cases h
theorem xbeq {a b : Nat} (h : Nat.beq a b = true) : a = b := Nat.eq_of_beq_eq_true h
theorem xob_inv {α : Type} {h : xH} {a ci : Nat} {k : List Value → Option α} {s : α} (hh : xob h a ci k = some s) : ∃ fs, h.2.2 a = some (.inr (ci, fs)) ∧ k fs = some s := by
  unfold xob at hh
  split at hh
  · rename_i c fs he
    cases hc : Nat.beq c ci with
    | true => rw [hc] at hh; exact ⟨fs, by rw [he, xbeq hc], hh⟩
    | false => rw [hc] at hh; cases hh
  · cases hh
theorem xar_inv {α : Type} {h : xH} {a t : Nat} {k : Nat → (Nat → Int32) → Option α} {s : α} (hh : xar h a t k = some s) : ∃ n f, h.2.2 a = some (.inl (t, n, .inl f)) ∧ k n f = some s := by
  unfold xar at hh
  split at hh
  · rename_i c n f he
    cases hc : Nat.beq c t with
    | true => rw [hc] at hh; exact ⟨n, f, by rw [he, xbeq hc], hh⟩
    | false => rw [hc] at hh; cases hh
  · cases hh
theorem xarl_inv {α : Type} {h : xH} {a : Nat} {k : Nat → (Nat → Int64) → Option α} {s : α} (hh : xarl h a k = some s) : ∃ n f, h.2.2 a = some (.inl (1, n, .inr (.inl f))) ∧ k n f = some s := by
  unfold xarl at hh
  split at hh
  · rename_i c n f he
    cases hc : Nat.beq c 1 with
    | true => rw [hc] at hh; exact ⟨n, f, by rw [he, xbeq hc], hh⟩
    | false => rw [hc] at hh; cases hh
  · cases hh
theorem xarq_inv {α : Type} {h : xH} {a : Nat} {k : Nat → Nat → (Nat → Option Nat) → Option α} {s : α} (hh : xarq h a k = some s) : ∃ t n f, (t = 3 ∨ t = 4) ∧ h.2.2 a = some (.inl (t, n, .inr (.inr (.inr (.inr f))))) ∧ k t n f = some s := by
  unfold xarq at hh
  split at hh
  · rename_i c n f he
    cases hc : (Nat.beq c 3 || Nat.beq c 4) with
    | true =>
      rw [hc] at hh
      refine ⟨c, n, f, ?_, he, hh⟩
      rcases Bool.or_eq_true_iff.mp hc with h1 | h1
      · exact Or.inl (xbeq h1)
      · exact Or.inr (xbeq h1)
    | false => rw [hc] at hh; cases hh
  · cases hh
theorem xin_inv {α : Type} {i : Int32} {n : Nat} {k : Nat → Option α} {s : α} (h : xin i n k = some s) : vp_in i n ∧ k i.toNatClampNeg = some s := by
  unfold xin at h
  split at h
  · cases h
  · exact ⟨by assumption, h⟩
