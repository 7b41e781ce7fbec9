/-! ===== a step over a shape is a step over the heap that it says ===== -/
section YS
variable {ro : xRo} {K : yK} {z : Nat × Nat} {pc : Nat} {ls : xL} {st : List Value} {S : yS}
set_option maxHeartbeats 8000000 in
theorem yStep_x {i : xI} {pc' : Nat} {ls' : xL} {st' : List Value} {S' : yS} (hs : yStep ro K i pc ls st S = some (pc', ls', st', S')) : xStep ro i pc ls st (yH K z S) = some (pc', ls', st', yH K z S') := by
  obtain ⟨op, len, A, B, k, ps⟩ := i
  unfold yStep at hs
  unfold xStep
  dsimp only at hs ⊢
  cases op with
  | iadd =>
    dsimp only at hs ⊢
    obtain ⟨x, y, r, rfl, he⟩ := xii_inv hs
    cases he
    rfl
  | isub =>
    dsimp only at hs ⊢
    obtain ⟨x, y, r, rfl, he⟩ := xii_inv hs
    cases he
    rfl
  | imul =>
    dsimp only at hs ⊢
    obtain ⟨x, y, r, rfl, he⟩ := xii_inv hs
    cases he
    rfl
  | iand =>
    dsimp only at hs ⊢
    obtain ⟨x, y, r, rfl, he⟩ := xii_inv hs
    cases he
    rfl
  | ior =>
    dsimp only at hs ⊢
    obtain ⟨x, y, r, rfl, he⟩ := xii_inv hs
    cases he
    rfl
  | ixor =>
    dsimp only at hs ⊢
    obtain ⟨x, y, r, rfl, he⟩ := xii_inv hs
    cases he
    rfl
  | ishl =>
    dsimp only at hs ⊢
    obtain ⟨x, y, r, rfl, he⟩ := xii_inv hs
    cases he
    rfl
  | ishr =>
    dsimp only at hs ⊢
    obtain ⟨x, y, r, rfl, he⟩ := xii_inv hs
    cases he
    rfl
  | iushr =>
    dsimp only at hs ⊢
    obtain ⟨x, y, r, rfl, he⟩ := xii_inv hs
    cases he
    rfl
  | idiv =>
    dsimp only at hs ⊢
    obtain ⟨x, y, r, rfl, he⟩ := xii_inv hs
    split at he
    · cases he
    · rename_i hy
      cases he
      show (if y = 0 then none else _) = _
      rw [if_neg hy]
  | irem =>
    dsimp only at hs ⊢
    obtain ⟨x, y, r, rfl, he⟩ := xii_inv hs
    split at he
    · cases he
    · rename_i hy
      cases he
      show (if y = 0 then none else _) = _
      rw [if_neg hy]
  | ldiv =>
    dsimp only at hs ⊢
    obtain ⟨x, y, r, rfl, he⟩ := xll_inv hs
    split at he
    · cases he
    · rename_i hy
      cases he
      show (if y = 0 then none else _) = _
      rw [if_neg hy]
  | lrem =>
    dsimp only at hs ⊢
    obtain ⟨x, y, r, rfl, he⟩ := xll_inv hs
    split at he
    · cases he
    · rename_i hy
      cases he
      show (if y = 0 then none else _) = _
      rw [if_neg hy]
  | ladd =>
    dsimp only at hs ⊢
    obtain ⟨x, y, r, rfl, he⟩ := xll_inv hs
    cases he
    rfl
  | lsub =>
    dsimp only at hs ⊢
    obtain ⟨x, y, r, rfl, he⟩ := xll_inv hs
    cases he
    rfl
  | lmul =>
    dsimp only at hs ⊢
    obtain ⟨x, y, r, rfl, he⟩ := xll_inv hs
    cases he
    rfl
  | lor =>
    dsimp only at hs ⊢
    obtain ⟨x, y, r, rfl, he⟩ := xll_inv hs
    cases he
    rfl
  | lcmp =>
    dsimp only at hs ⊢
    obtain ⟨x, y, r, rfl, he⟩ := xll_inv hs
    cases he
    rfl
  | ineg =>
    dsimp only at hs ⊢
    obtain ⟨x, r, rfl, he⟩ := xi_inv hs
    cases he
    rfl
  | i2l =>
    dsimp only at hs ⊢
    obtain ⟨x, r, rfl, he⟩ := xi_inv hs
    cases he
    rfl
  | i2c =>
    dsimp only at hs ⊢
    obtain ⟨x, r, rfl, he⟩ := xi_inv hs
    cases he
    rfl
  | i2b =>
    dsimp only at hs ⊢
    obtain ⟨x, r, rfl, he⟩ := xi_inv hs
    cases he
    rfl
  | lneg =>
    dsimp only at hs ⊢
    obtain ⟨x, r, rfl, he⟩ := xl_inv hs
    cases he
    rfl
  | l2i =>
    dsimp only at hs ⊢
    obtain ⟨x, r, rfl, he⟩ := xl_inv hs
    cases he
    rfl
  | lshl =>
    dsimp only at hs ⊢
    obtain ⟨x, y, r, rfl, he⟩ := xli_inv hs
    cases he
    rfl
  | lshr =>
    dsimp only at hs ⊢
    obtain ⟨x, y, r, rfl, he⟩ := xli_inv hs
    cases he
    rfl
  | aconst_null => cases hs; rfl
  | iconst n => cases hs; rfl
  | bipush n => cases hs; rfl
  | sipush n => cases hs; rfl
  | lconst n => cases hs; rfl
  | ldc_w idx => cases hs; rfl
  | ldc2_w idx => cases hs; rfl
  | goto off => cases hs; rfl
  | ldc idx =>
    dsimp only at hs ⊢
    cases hA : Nat.beq A 0 with
    | true => rw [hA] at hs; cases hs; rfl
    | false => rw [hA] at hs; cases hs; rfl
  | iload n =>
    dsimp only at hs ⊢
    obtain ⟨v, hv, he⟩ := Option.bind_eq_some_iff.mp hs
    rw [hv]
    cases v with
    | int x => cases he; rfl
    | _ => cases he
  | iload_n n =>
    dsimp only at hs ⊢
    obtain ⟨v, hv, he⟩ := Option.bind_eq_some_iff.mp hs
    rw [hv]
    cases v with
    | int x => cases he; rfl
    | _ => cases he
  | lload n =>
    dsimp only at hs ⊢
    obtain ⟨v, hv, he⟩ := Option.bind_eq_some_iff.mp hs
    rw [hv]
    cases v with
    | long x => cases he; rfl
    | _ => cases he
  | lload_n n =>
    dsimp only at hs ⊢
    obtain ⟨v, hv, he⟩ := Option.bind_eq_some_iff.mp hs
    rw [hv]
    cases v with
    | long x => cases he; rfl
    | _ => cases he
  | aload n =>
    dsimp only at hs ⊢
    obtain ⟨v, hv, he⟩ := Option.bind_eq_some_iff.mp hs
    rw [hv]
    cases v with
    | ref x => cases he; rfl
    | null => cases he; rfl
    | _ => cases he
  | aload_n n =>
    dsimp only at hs ⊢
    obtain ⟨v, hv, he⟩ := Option.bind_eq_some_iff.mp hs
    rw [hv]
    cases v with
    | ref x => cases he; rfl
    | null => cases he; rfl
    | _ => cases he
  | istore n =>
    dsimp only at hs ⊢
    obtain ⟨x, r, rfl, he⟩ := xi_inv hs
    cases he
    rfl
  | istore_n n =>
    dsimp only at hs ⊢
    obtain ⟨x, r, rfl, he⟩ := xi_inv hs
    cases he
    rfl
  | lstore n =>
    dsimp only at hs ⊢
    obtain ⟨x, r, rfl, he⟩ := xl_inv hs
    cases he
    rfl
  | lstore_n n =>
    dsimp only at hs ⊢
    obtain ⟨x, r, rfl, he⟩ := xl_inv hs
    cases he
    rfl
  | astore n =>
    dsimp only at hs ⊢
    obtain ⟨x, r, rfl, he⟩ := xq_inv hs
    cases he
    cases x <;> rfl
  | astore_n n =>
    dsimp only at hs ⊢
    obtain ⟨x, r, rfl, he⟩ := xq_inv hs
    cases he
    cases x <;> rfl
  | iinc n q =>
    dsimp only at hs ⊢
    obtain ⟨v, hv, he⟩ := Option.bind_eq_some_iff.mp hs
    rw [hv]
    cases v with
    | int x => cases he; rfl
    | _ => cases he
  | dup =>
    dsimp only at hs ⊢
    split at hs
    · cases hs; rfl
    · cases hs; rfl
    · cases hs
  | dup2 =>
    dsimp only at hs ⊢
    split at hs
    · cases hs; rfl
    · cases hs
  | pop =>
    dsimp only at hs ⊢
    split at hs
    · cases hs; rfl
    · cases hs; rfl
    · cases hs
  | ifCond cd off =>
    dsimp only at hs ⊢
    obtain ⟨x, r, rfl, he⟩ := xi_inv hs
    cases cd <;> (cases he; rfl)
  | if_icmp cd off =>
    dsimp only at hs ⊢
    obtain ⟨x, y, r, rfl, he⟩ := xii_inv hs
    cases cd <;> (cases he; rfl)
  | ifnull off =>
    dsimp only at hs ⊢
    obtain ⟨x, r, rfl, he⟩ := xq_inv hs
    cases x <;> (cases he; rfl)
  | ifnonnull off =>
    dsimp only at hs ⊢
    obtain ⟨x, r, rfl, he⟩ := xq_inv hs
    cases x <;> (cases he; rfl)
  | tableswitch d lo hi offs =>
    dsimp only at hs ⊢
    obtain ⟨x, r, rfl, he⟩ := xi_inv hs
    show (if _ then _ else _) = _
    split at he
    · rename_i hr; cases he; rw [if_pos hr]
    · rename_i hr
      obtain ⟨off, ho, he⟩ := Option.bind_eq_some_iff.mp he
      cases he
      rw [if_neg hr, ho]; rfl
  | lookupswitch d prs =>
    dsimp only at hs ⊢
    obtain ⟨x, r, rfl, he⟩ := xi_inv hs
    cases he
    rfl
  | getstatic idx =>
    dsimp only at hs ⊢
    cases hk1 : (k == 1) with
    | true => rw [hk1] at hs; cases hs; rfl
    | false =>
      rw [hk1] at hs
      dsimp only [cond_false] at hs ⊢
      cases hk2 : (k == 2) with
      | true =>
        rw [hk2] at hs
        dsimp only [cond_true] at hs ⊢
        cases hq : ro 8 with
        | some q => rw [hq] at hs; cases hs; rfl
        | none => rw [hq] at hs; cases hs; rfl
      | false => rw [hk2] at hs; cases hs; rfl
  | checkcast idx =>
    dsimp only at hs ⊢
    obtain ⟨a, r, rfl, he⟩ := xa_inv hs
    obtain ⟨n, hk, he⟩ := yar_inv he
    cases he
    show xar (yH K z S) a 0 _ = _
    rw [xar_of (yE_i (Or.inl rfl) hk)]
  | getfield idx =>
    dsimp only at hs ⊢
    cases hk5 : (k == 5) with
    | true =>
      rw [hk5] at hs
      dsimp only [cond_true] at hs ⊢
      obtain ⟨a, r, rfl, he⟩ := xa_inv hs
      cases hA : (Nat.ble 2 a && Nat.ble a 4) with
      | true =>
        rw [hA] at he
        cases he
        show (bif (Nat.ble 2 a && Nat.ble a 4) then _ else _) = _
        rw [hA]
        rfl
      | false => rw [hA] at he; cases he
    | false =>
      rw [hk5] at hs
      dsimp only [cond_false] at hs ⊢
      cases hk6 : (k == 6) with
      | true =>
        rw [hk6] at hs
        dsimp only [cond_true] at hs ⊢
        obtain ⟨a, r, rfl, he⟩ := xa_inv hs
        cases hA : (Nat.ble 2 a && Nat.ble a 4) with
        | true =>
          rw [hA] at he
          cases he
          show (bif (Nat.ble 2 a && Nat.ble a 4) then _ else _) = _
          rw [hA]
          rfl
        | false => rw [hA] at he; cases he
      | false =>
        rw [hk6] at hs
        dsimp only [cond_false] at hs ⊢
        obtain ⟨a, r, rfl, he⟩ := xa_inv hs
        obtain ⟨ks, hk, he⟩ := yob_inv he
        show xob (yH K z S) a A _ = _
        rw [xob_of (yE_o hk), yF_get]
        split at he
        · rename_i hq; cases he; rw [hq]; show some (pc + 3, ls, Value.int (S.1 a (0 + B)) :: r, yH K z S) = _; rw [Nat.zero_add]
        · rename_i hq; cases he; rw [hq]; show some (pc + 3, ls, Value.long (S.2.1 a (0 + B)) :: r, yH K z S) = _; rw [Nat.zero_add]
        · rename_i hq; cases he; rw [hq]; rfl
        · cases he
  | putfield idx =>
    dsimp only at hs ⊢
    split at hs
    · rename_i v a r
      obtain ⟨ks, hk, he⟩ := yob_inv hs
      split at he
      · rename_i hq
        cases hf : xfit k (.int v) with
        | true =>
          rw [hf] at he
          cases he
          show xob (yH K z S) a A _ = _
          rw [xob_of (yE_o hk), hf, yF_len]
          have hlt : Nat.blt B ks.length = true := Nat.ble_eq_true_of_le (List.getElem?_eq_some_iff.mp hq).1
          rw [hlt]
          show some (pc + 3, ls, _, xUp (yH K z S) a (.inr (A, (yF S a 0 ks).set B (.int v)))) = _
          rw [yUp_i hk hq]
        | false => rw [hf] at he; cases he
      · cases he
    · rename_i v a r
      obtain ⟨ks, hk, he⟩ := yob_inv hs
      split at he
      · rename_i hq
        cases hf : (k == 1) with
        | true =>
          rw [hf] at he
          cases he
          show xob (yH K z S) a A _ = _
          rw [xob_of (yE_o hk), yF_len]
          have hlt : Nat.blt B ks.length = true := Nat.ble_eq_true_of_le (List.getElem?_eq_some_iff.mp hq).1
          rw [hlt]
          have hf2 : xfit k (.long v) = true := hf
          rw [hf2]
          show some (pc + 3, ls, _, xUp (yH K z S) a (.inr (A, (yF S a 0 ks).set B (.long v)))) = _
          rw [yUp_j hk hq]
        | false => rw [hf] at he; cases he
      · cases he
    · cases hs
  | iaload =>
    dsimp only at hs ⊢
    obtain ⟨a, j, r, rfl, he⟩ := xai_inv hs
    show (bif Nat.blt a 2 then _ else _) = _
    cases hA : Nat.blt a 2 with
    | true =>
      rw [hA] at he
      obtain ⟨⟨n, f⟩, hr, he⟩ := Option.bind_eq_some_iff.mp he
      obtain ⟨hin, he⟩ := xin_inv he
      cases he
      show (ro a).bind _ = _
      rw [hr]
      exact xin_of (k := fun j => some (pc + 1, ls, Value.int (f j) :: r, yH K z S)) hin
    | false =>
      rw [hA] at he
      obtain ⟨n, hk, he⟩ := yar_inv he
      obtain ⟨hin, he⟩ := xin_inv he
      cases he
      show xar (yH K z S) a 0 _ = _
      rw [xar_of (yE_i (Or.inl rfl) hk), xin_of hin]
  | baload =>
    dsimp only at hs ⊢
    obtain ⟨a, j, r, rfl, he⟩ := xai_inv hs
    show (bif Nat.blt a 16 then _ else _) = _
    cases hA : Nat.blt a 16 with
    | true =>
      rw [hA] at he
      obtain ⟨⟨n, f⟩, hr, he⟩ := Option.bind_eq_some_iff.mp he
      obtain ⟨hin, he⟩ := xin_inv he
      cases he
      show (xStB a).bind _ = _
      rw [hr]
      exact xin_of (k := fun j => some (pc + 1, ls, Value.int (f j) :: r, yH K z S)) hin
    | false =>
      rw [hA] at he
      obtain ⟨n, hk, he⟩ := yar_inv he
      obtain ⟨hin, he⟩ := xin_inv he
      cases he
      show xar (yH K z S) a 2 _ = _
      rw [xar_of (yE_i (Or.inr rfl) hk), xin_of hin]
  | laload =>
    dsimp only at hs ⊢
    obtain ⟨a, j, r, rfl, he⟩ := xai_inv hs
    obtain ⟨n, hk, he⟩ := yar_inv he
    obtain ⟨hin, he⟩ := xin_inv he
    cases he
    show xarl (yH K z S) a _ = _
    rw [xarl_of (yE_l hk), xin_of hin]
  | aaload =>
    dsimp only at hs ⊢
    obtain ⟨a, j, r, rfl, he⟩ := xai_inv hs
    obtain ⟨t, n, ht, hk, he⟩ := yarq_inv he
    obtain ⟨hin, he⟩ := xin_inv he
    cases he
    show xarq (yH K z S) a _ = _
    rw [xarq_of ht (yE_q ht hk), xin_of hin]
  | iastore =>
    dsimp only at hs ⊢
    obtain ⟨x, r, rfl, he⟩ := xi_inv hs
    obtain ⟨a, j, r, rfl, he⟩ := xai_inv he
    obtain ⟨n, hk, he⟩ := yar_inv he
    obtain ⟨hin, he⟩ := xin_inv he
    cases he
    show xar (yH K z S) a 0 _ = _
    rw [xar_of (yE_i (Or.inl rfl) hk), xin_of hin, yUp_a (Or.inl rfl) hk]
  | bastore =>
    dsimp only at hs ⊢
    obtain ⟨x, r, rfl, he⟩ := xi_inv hs
    obtain ⟨a, j, r, rfl, he⟩ := xai_inv he
    obtain ⟨n, hk, he⟩ := yar_inv he
    obtain ⟨hin, he⟩ := xin_inv he
    split at he
    · rename_i h01
      cases he
      show xar (yH K z S) a 2 _ = _
      rw [xar_of (yE_i (Or.inr rfl) hk), xin_of hin, if_pos h01, yUp_a (Or.inr rfl) hk]
    · cases he
  | lastore =>
    dsimp only at hs ⊢
    obtain ⟨x, r, rfl, he⟩ := xl_inv hs
    obtain ⟨a, j, r, rfl, he⟩ := xai_inv he
    obtain ⟨n, hk, he⟩ := yar_inv he
    obtain ⟨hin, he⟩ := xin_inv he
    cases he
    show xarl (yH K z S) a _ = _
    rw [xarl_of (yE_l hk), xin_of hin, yUp_l hk]
  | aastore =>
    dsimp only at hs ⊢
    obtain ⟨v, r, rfl, he⟩ := xq_inv hs
    obtain ⟨a, j, r, rfl, he⟩ := xai_inv he
    obtain ⟨t, n, ht, hk, he⟩ := yarq_inv he
    obtain ⟨hin, he⟩ := xin_inv he
    cases v with
    | none =>
      cases he
      show xarq (yH K z S) a _ = _
      rw [xarq_of ht (yE_q ht hk), xin_of hin, yUp_q ht hk]
    | some o =>
      obtain ⟨ks, hk2, he⟩ := yob_inv he
      cases he
      show xarq (yH K z S) a _ = _
      rw [xarq_of ht (yE_q ht hk), xin_of hin]
      show xob (yH K z S) o (xEl t) _ = _
      rw [xob_of (yE_o hk2), yUp_q ht hk]
  | arraylength =>
    dsimp only at hs ⊢
    obtain ⟨a, r, rfl, he⟩ := xa_inv hs
    show (bif Nat.blt a 16 then _ else _) = _
    cases hA : Nat.blt a 16 with
    | true =>
      rw [hA] at he
      obtain ⟨n, hr, he⟩ := Option.bind_eq_some_iff.mp he
      cases he
      show (xLn ro a).bind _ = _
      rw [hr]
      rfl
    | false =>
      rw [hA] at he
      dsimp only [cond_false] at he ⊢
      split at he
      · rename_i t n hk
        cases hB : Nat.blt t 5 with
        | true =>
          rw [hB] at he
          cases he
          have he2 : (yH K z S).2.2 a = some (.inl (t, yA S a t n)) := by show yE K S a = _; unfold yE; rw [hk]
          have hn : yA S a t n = (n, (yA S a t n).2) := by unfold yA; cases Nat.beq t 1 <;> cases (Nat.beq t 3 || Nat.beq t 4) <;> rfl
          rw [hn] at he2
          rw [he2]
          show (bif Nat.blt t 5 then _ else _) = _
          rw [hB]
          rfl
        | false => rw [hB] at he; cases he
      · cases he
  | invokestatic idx =>
    dsimp only at hs ⊢
    cases hk : (k == 9) with
    | true =>
      rw [hk] at hs
      dsimp only [cond_true] at hs ⊢
      split at hs
      · rename_i n dp a sp a0 r
        obtain ⟨n0, hk0, he⟩ := yar_inv hs
        obtain ⟨n1, hk1, he⟩ := yar_inv he
        split at he
        · cases he
        · rename_i hr
          cases he
          show xar (yH K z S) a0 0 _ = _
          rw [xar_of (yE_i (Or.inl rfl) hk0), xar_of (yE_i (Or.inl rfl) hk1), if_neg hr, yUp_a (Or.inl rfl) hk1]
      · cases hs
    | false =>
      rw [hk] at hs
      dsimp only [cond_false] at hs ⊢
      cases hk10 : (k == 10) with
      | true =>
        rw [hk10] at hs
        dsimp only [cond_true] at hs ⊢
        obtain ⟨x, y, r, rfl, he⟩ := xii_inv hs
        split at he
        · cases he
        · rename_i hr
          cases he
          show (if _ then none else _) = _
          rw [if_neg hr]
      | false =>
        rw [hk10] at hs
        dsimp only [cond_false] at hs ⊢
        cases hk11 : (k == 11) with
        | true =>
          rw [hk11] at hs
          dsimp only [cond_true] at hs ⊢
          obtain ⟨x, y, r, rfl, he⟩ := xii_inv hs
          split at he
          · cases he
          · rename_i hr
            cases he
            show (if _ then none else _) = _
            rw [if_neg hr]
        | false =>
          rw [hk11] at hs
          dsimp only [cond_false] at hs ⊢
          cases hk12 : (k == 12) with
          | true =>
            rw [hk12] at hs
            dsimp only [cond_true] at hs ⊢
            obtain ⟨x, y, r, rfl, he⟩ := xll_inv hs
            split at he
            · cases he
            · rename_i hr
              cases he
              show (if _ then none else _) = _
              rw [if_neg hr]
          | false =>
            rw [hk12] at hs
            dsimp only [cond_false] at hs ⊢
            cases hk13 : (k == 13) with
            | true =>
              rw [hk13] at hs
              dsimp only [cond_true] at hs ⊢
              obtain ⟨x, y, r, rfl, he⟩ := xll_inv hs
              split at he
              · cases he
              · rename_i hr
                cases he
                show (if _ then none else _) = _
                rw [if_neg hr]
            | false =>
              rw [hk13] at hs
              dsimp only [cond_false] at hs ⊢
              cases hs
  | invokespecial idx =>
    dsimp only at hs ⊢
    cases hk : (k == 8) with
    | true =>
      rw [hk] at hs
      dsimp only [cond_true] at hs ⊢
      obtain ⟨a, r, rfl, he⟩ := xa_inv hs
      split at he
      · cases he
      · rename_i hr
        cases he
        show (if _ then none else _) = _
        rw [if_neg hr]
    | false => rw [hk] at hs; cases hs
  | _ => cases hs
end YS
