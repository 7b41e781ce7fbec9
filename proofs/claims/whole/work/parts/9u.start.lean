/-! ===== the constructors, by computation: a heap as a list of cells ===== -/
def lH (w : Nat) (L : List va_E) : xH := (16 + L.length, w, fun j => if j < 16 then none else L[j - 16]?)
abbrev zR : Type := Nat × xL × List Value × Nat × List va_E
def zStep (i : xI) (pc : Nat) (ls : xL) (st : List Value) (w : Nat) (L : List va_E) : Option zR :=
  match i.1 with
  | .aload_n n => (xgt ls n).bind fun v => match v with
    | .ref a => some (pc + 1, ls, .ref a :: st, w, L)
    | _ => none
  | .iload_n n => (xgt ls n).bind fun v => match v with
    | .int a => some (pc + 1, ls, .int a :: st, w, L)
    | _ => none
  | .istore_n n => xi st fun x r => some (pc + 1, xP1 ls n (.int x), r, w, L)
  | .iinc n k => (xgt ls n).bind fun v => match v with
    | .int x => some (pc + 3, xP1 ls n (.int (x + Int32.ofInt k)), st, w, L)
    | _ => none
  | .iconst n => some (pc + 1, ls, .int (Int32.ofInt n) :: st, w, L)
  | .bipush n => some (pc + 2, ls, .int (Int32.ofInt n) :: st, w, L)
  | .sipush n => some (pc + 3, ls, .int (Int32.ofInt n) :: st, w, L)
  | .lconst n => some (pc + 1, ls, .long (Int64.ofNat n) :: st, w, L)
  | .dup => match st with
    | .ref x :: r => some (pc + 1, ls, .ref x :: .ref x :: r, w, L)
    | _ => none
  | .goto off => some (xTgt pc off, ls, st, w, L)
  | .iadd => xii st fun x y r => some (pc + 1, ls, .int (x + y) :: r, w, L)
  | .if_icmp c off => xii st fun x y r => match c with
    | .ge => some (if y ≤ x then xTgt pc off else pc + 3, ls, r, w, L)
    | _ => none
  | .getfield _ => bif i.2.2.2.2.1 == 0 then (match st with
    | .ref a :: r => match L[a - 16]? with
      | some (.inr (c, fs)) => bif Nat.ble 16 a && Nat.beq c i.2.2.1 then (fs[i.2.2.2.1]?).bind fun v => some (pc + 3, ls, v :: r, w, L) else none
      | _ => none
    | _ => none) else none
  | .putfield _ => match st with
    | v :: .ref a :: r => match L[a - 16]? with
      | some (.inr (c, fs)) => bif Nat.ble 16 a && Nat.beq c i.2.2.1 && (xfit i.2.2.2.2.1 v && Nat.blt i.2.2.2.1 fs.length) then some (pc + 3, ls, r, w, L.set (a - 16) (.inr (i.2.2.1, fs.set i.2.2.2.1 v))) else none
      | _ => none
    | _ => none
  | .iastore => match st with
    | .int x :: .int k :: .ref a :: r => match L[a - 16]? with
      | some (.inl (c, n, .inl f)) => bif Nat.ble 16 a && Nat.beq c 0 then xin k n fun j => some (pc + 1, ls, r, w, L.set (a - 16) (.inl (0, n, .inl (upd f j x)))) else none
      | _ => none
    | _ => none
  | .aastore => match st with
    | .ref o :: .int k :: .ref a :: r => match L[a - 16]?, L[o - 16]? with
      | some (.inl (c, n, .inr (.inr (.inr (.inr f))))), some (.inr (co, _)) => bif Nat.ble 16 a && Nat.ble 16 o && (Nat.beq c 3 && Nat.beq co 2) then xin k n fun j => some (pc + 1, ls, r, w, L.set (a - 16) (.inl (c, n, .inr (.inr (.inr (.inr (va_up f j (some o)))))))) else none
      | _, _ => none
    | _ => none
  | .newarray at_ => xi st fun x r => (xTag at_).bind fun t => if x < 0 ∨ 100000 < x.toNatClampNeg then none else some (pc + 2, ls, .ref (16 + L.length) :: r, w + x.toNatClampNeg, L ++ [.inl (t, xZero t x.toNatClampNeg)])
  | .anewarray _ => xi st fun x r => if x < 0 ∨ 100000 < x.toNatClampNeg then none else some (pc + 3, ls, .ref (16 + L.length) :: r, w + x.toNatClampNeg, L ++ [.inl (i.2.2.1, x.toNatClampNeg, .inr (.inr (.inr (.inr (fun _ => none)))))])
  | .new _ => some (pc + 3, ls, .ref (16 + L.length) :: st, w + i.2.2.2.1, L ++ [.inr (i.2.2.1, xNew i.2.2.1 i.2.2.2.1)])
  | .invokespecial _ => bif i.2.2.2.2.1 == 8 then xa st fun _ r => if 8 < (r.map fun v => v.category).sum then none else some (pc + 3, ls, r, w, L) else none
  | _ => none
theorem lH_get {w : Nat} {L : List va_E} {a : Nat} (h : Nat.ble 16 a = true) : (lH w L).2.2 a = L[a - 16]? := if_neg (by have := Nat.le_of_ble_eq_true h; omega)
theorem lH_nw {w n : Nat} {L : List va_E} {e : va_E} : xNw (lH w L) n e = lH (w + n) (L ++ [e]) := by
  show (16 + L.length + 1, w + n, fun j => if j = 16 + L.length then some e else (if j < 16 then none else L[j - 16]?)) = (16 + (L ++ [e]).length, w + n, fun j => if j < 16 then none else (L ++ [e])[j - 16]?)
  have e1 : 16 + L.length + 1 = 16 + (L ++ [e]).length := by simp; omega
  rw [e1]
  congr 2
  funext j
  by_cases h1 : j = 16 + L.length
  · rw [if_pos h1, if_neg (by omega), show j - 16 = L.length by omega]
    simp
  · rw [if_neg h1]
    by_cases h2 : j < 16
    · rw [if_pos h2, if_pos h2]
    · rw [if_neg h2, if_neg h2]
      by_cases h3 : j - 16 < L.length
      · rw [List.getElem?_append_left h3]
      · rw [List.getElem?_eq_none (by omega), List.getElem?_eq_none (by simp; omega)]
theorem lH_up {w a : Nat} {L : List va_E} {e e0 : va_E} (h : Nat.ble 16 a = true) (h2 : L[a - 16]? = some e0) : xUp (lH w L) a e = lH w (L.set (a - 16) e) := by
  have ha := Nat.le_of_ble_eq_true h
  show (16 + L.length, w, fun j => if j = a then some e else (if j < 16 then none else L[j - 16]?)) = (16 + (L.set (a - 16) e).length, w, fun j => if j < 16 then none else (L.set (a - 16) e)[j - 16]?)
  rw [List.length_set]
  congr 2
  funext j
  by_cases h1 : j = a
  · subst h1
    rw [if_pos rfl, if_neg (by omega)]
    have hl : j - 16 < L.length := by
      by_cases q : j - 16 < L.length
      · exact q
      · rw [List.getElem?_eq_none (by omega)] at h2; cases h2
    rw [List.getElem?_set_self hl]
  · rw [if_neg h1]
    by_cases h3 : j < 16
    · rw [if_pos h3, if_pos h3]
    · rw [if_neg h3, if_neg h3, List.getElem?_set_ne (by omega)]
set_option maxHeartbeats 4000000 in
theorem zStep_x {ro : xRo} {i : xI} {pc pc' w w' : Nat} {ls ls' : xL} {st st' : List Value} {L L' : List va_E} (hh : zStep i pc ls st w L = some (pc', ls', st', w', L')) : xStep ro i pc ls st (lH w L) = some (pc', ls', st', lH w' L') := by
  obtain ⟨op, len, ci, k, kd, ps⟩ := i
  unfold zStep at hh
  unfold xStep
  dsimp only at hh ⊢
  cases op with
  | aload_n n =>
    dsimp only at hh ⊢
    change (xgt ls n).bind _ = _ at hh
    show (xgt ls n).bind _ = _
    cases hg : xgt ls n with
    | none => rw [hg] at hh; cases hh
    | some v =>
      rw [hg] at hh
      cases v <;> first | (cases hh; rfl) | (cases hh; done)
  | iload_n n =>
    dsimp only at hh ⊢
    change (xgt ls n).bind _ = _ at hh
    show (xgt ls n).bind _ = _
    cases hg : xgt ls n with
    | none => rw [hg] at hh; cases hh
    | some v =>
      rw [hg] at hh
      cases v <;> first | (cases hh; rfl) | (cases hh; done)
  | istore_n n =>
    dsimp only at hh ⊢
    change xi st _ = _ at hh
    show xi st _ = _
    unfold xi at hh ⊢
    split at hh
    · cases hh; rfl
    · cases hh
  | iinc n k =>
    dsimp only at hh ⊢
    change (xgt ls n).bind _ = _ at hh
    show (xgt ls n).bind _ = _
    cases hg : xgt ls n with
    | none => rw [hg] at hh; cases hh
    | some v =>
      rw [hg] at hh
      cases v <;> first | (cases hh; rfl) | (cases hh; done)
  | iconst n => cases hh; rfl
  | bipush n => cases hh; rfl
  | sipush n => cases hh; rfl
  | lconst n => cases hh; rfl
  | dup =>
    dsimp only at hh ⊢
    change (match st with | .ref x :: r => some (pc + 1, ls, Value.ref x :: .ref x :: r, w, L) | _ => none) = _ at hh
    split at hh
    · cases hh; rfl
    · cases hh
  | goto off => cases hh; rfl
  | iadd =>
    dsimp only at hh ⊢
    change xii st _ = _ at hh
    show xii st _ = _
    unfold xii at hh ⊢
    split at hh
    · cases hh; rfl
    · cases hh
  | if_icmp c off =>
    dsimp only at hh ⊢
    change xii st _ = _ at hh
    show xii st _ = _
    unfold xii at hh ⊢
    split at hh
    · cases c <;> first | (cases hh; rfl) | (cases hh; done)
    · cases hh
  | getfield idx =>
    dsimp only at hh ⊢
    change (bif kd == 0 then _ else none) = _ at hh
    cases hk : (kd == 0) with
    | false => rw [hk] at hh; cases hh
    | true =>
      rw [hk] at hh
      have hk0 : kd = 0 := by simpa using hk
      subst hk0
      change (match st with
        | .ref a :: r => match L[a - 16]? with
          | some (.inr (c, fs)) => bif Nat.ble 16 a && Nat.beq c ci then (fs[k]?).bind fun v => some (pc + 3, ls, v :: r, w, L) else none
          | _ => none
        | _ => none) = _ at hh
      split at hh
      · rename_i a r
        split at hh
        · rename_i c fs hc
          cases hb : (Nat.ble 16 a && Nat.beq c ci) with
          | false => rw [hb] at hh; cases hh
          | true =>
            rw [hb] at hh
            have hb := Bool.and_eq_true_iff.mp hb
            show xob (lH w L) a ci _ = _
            unfold xob
            rw [lH_get hb.1, hc]
            show (bif Nat.beq c ci then _ else _) = _
            rw [hb.2]
            change (fs[k]?).bind _ = _ at hh
            show (fs[k]?).bind _ = _
            cases hv : fs[k]? with
            | none => rw [hv] at hh; cases hh
            | some v => rw [hv] at hh; cases hh; rfl
        · cases hh
      · cases hh
  | putfield idx =>
    dsimp only at hh ⊢
    change (match st with
        | v :: .ref a :: r => match L[a - 16]? with
          | some (.inr (c, fs)) => bif Nat.ble 16 a && Nat.beq c ci && (xfit kd v && Nat.blt k fs.length) then some (pc + 3, ls, r, w, L.set (a - 16) (.inr (ci, fs.set k v))) else none
          | _ => none
        | _ => none) = _ at hh
    split at hh
    · rename_i v a r
      split at hh
      · rename_i c fs hc
        cases hb : (Nat.ble 16 a && Nat.beq c ci && (xfit kd v && Nat.blt k fs.length)) with
        | false => rw [hb] at hh; cases hh
        | true =>
          rw [hb] at hh
          have hb := Bool.and_eq_true_iff.mp hb
          have hb1 := Bool.and_eq_true_iff.mp hb.1
          show xob (lH w L) a ci _ = _
          unfold xob
          rw [lH_get hb1.1, hc]
          show (bif Nat.beq c ci then _ else _) = _
          rw [hb1.2]
          show (bif xfit kd v && Nat.blt k fs.length then _ else _) = _
          rw [hb.2]
          show some (pc + 3, ls, r, xUp (lH w L) a (.inr (ci, fs.set k v))) = _
          rw [lH_up hb1.1 hc]
          cases hh
          rfl
      · cases hh
    · cases hh
  | iastore =>
    dsimp only at hh ⊢
    change (match st with
        | .int x :: .int k :: .ref a :: r => match L[a - 16]? with
          | some (.inl (c, n, .inl f)) => bif Nat.ble 16 a && Nat.beq c 0 then xin k n fun j => some (pc + 1, ls, r, w, L.set (a - 16) (.inl (0, n, .inl (upd f j x)))) else none
          | _ => none
        | _ => none) = _ at hh
    split at hh
    · rename_i x k a r
      split at hh
      · rename_i c n f hc
        cases hb : (Nat.ble 16 a && Nat.beq c 0) with
        | false => rw [hb] at hh; cases hh
        | true =>
          rw [hb] at hh
          have hb := Bool.and_eq_true_iff.mp hb
          show xar (lH w L) a 0 _ = _
          unfold xar
          rw [lH_get hb.1, hc]
          show (bif Nat.beq c 0 then _ else _) = _
          rw [hb.2]
          simp only [cond_true] at hh ⊢
          unfold xin at hh ⊢
          split at hh
          · cases hh
          · rename_i hin
            rw [if_neg hin]
            show some (pc + 1, ls, r, xUp (lH w L) a (.inl (0, n, .inl (upd f k.toNatClampNeg x)))) = _
            rw [lH_up hb.1 hc]
            cases hh
            rfl
      · cases hh
    · cases hh
  | aastore =>
    dsimp only at hh ⊢
    change (match st with
      | .ref o :: .int k :: .ref a :: r => match L[a - 16]?, L[o - 16]? with
        | some (.inl (c, n, .inr (.inr (.inr (.inr f))))), some (.inr (co, _)) => bif Nat.ble 16 a && Nat.ble 16 o && (Nat.beq c 3 && Nat.beq co 2) then xin k n fun j => some (pc + 1, ls, r, w, L.set (a - 16) (.inl (c, n, .inr (.inr (.inr (.inr (va_up f j (some o)))))))) else none
        | _, _ => none
      | _ => none) = _ at hh
    split at hh
    · rename_i o k a r
      split at hh
      · rename_i c n f co fo hc ho
        cases hb : (Nat.ble 16 a && Nat.ble 16 o && (Nat.beq c 3 && Nat.beq co 2)) with
        | false => rw [hb] at hh; cases hh
        | true =>
          rw [hb] at hh
          have hb := Bool.and_eq_true_iff.mp hb
          have hb1 := Bool.and_eq_true_iff.mp hb.1
          have hb2 := Bool.and_eq_true_iff.mp hb.2
          have e3 : c = 3 := xbeq hb2.1
          have e2 : co = 2 := xbeq hb2.2
          subst e3; subst e2
          show xarq (lH w L) a _ = _
          unfold xarq
          rw [lH_get hb1.1, hc]
          simp only [cond_true] at hh
          show xin k n (fun j => xob (lH w L) o 2 fun _ => some (pc + 1, ls, r, xUp (lH w L) a (.inl (3, n, .inr (.inr (.inr (.inr (va_up f j (some o))))))))) = _
          unfold xin at hh ⊢
          split at hh
          · cases hh
          · rename_i hin
            rw [if_neg hin]
            unfold xob
            rw [lH_get hb1.2, ho]
            show some (pc + 1, ls, r, xUp (lH w L) a (.inl (3, n, .inr (.inr (.inr (.inr (va_up f k.toNatClampNeg (some o)))))))) = _
            rw [lH_up hb1.1 hc]
            cases hh
            rfl
      · cases hh
    · cases hh
  | newarray at_ =>
    dsimp only at hh ⊢
    change xi st _ = _ at hh
    show xi st _ = _
    unfold xi at hh ⊢
    split at hh
    · rename_i x r
      cases hx : xTag at_ with
      | none => rw [hx] at hh; cases hh
      | some t =>
        rw [hx] at hh
        change (if x < 0 ∨ 100000 < x.toNatClampNeg then none else _) = _ at hh
        show (if x < 0 ∨ 100000 < x.toNatClampNeg then none else _) = _
        split at hh
        · cases hh
        · rename_i hn
          rw [if_neg hn]
          cases hh
          rw [lH_nw]
          rfl
    · cases hh
  | anewarray idx =>
    dsimp only at hh ⊢
    change xi st _ = _ at hh
    show xi st _ = _
    unfold xi at hh ⊢
    split at hh
    · rename_i x r
      change (if x < 0 ∨ 100000 < x.toNatClampNeg then none else _) = _ at hh
      show (if x < 0 ∨ 100000 < x.toNatClampNeg then none else _) = _
      split at hh
      · cases hh
      · rename_i hn
        rw [if_neg hn]
        cases hh
        rw [lH_nw]
        rfl
    · cases hh
  | new idx =>
    dsimp only at hh ⊢
    cases hh
    show some (pc + 3, ls, Value.ref (16 + L.length) :: st, xNw (lH w L) k (.inr (ci, xNew ci k))) = _
    rw [lH_nw]
  | invokespecial idx =>
    dsimp only at hh ⊢
    change (bif kd == 8 then xa st _ else none) = _ at hh
    show (bif kd == 8 then xa st _ else none) = _
    cases hk : (kd == 8) with
    | false => rw [hk] at hh; cases hh
    | true =>
      rw [hk] at hh
      change xa st _ = _ at hh
      show xa st _ = _
      unfold xa at hh ⊢
      split at hh
      · dsimp only at hh ⊢
        split at hh
        · cases hh
        · rename_i hn
          rw [if_neg hn]
          cases hh
          rfl
      · cases hh
  | _ => cases hh
