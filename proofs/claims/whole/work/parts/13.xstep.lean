/-! ===== every plain instruction: the small machine's step is the JVM's ===== -/
theorem xoff_ok {pc : Nat} {d k : Int} : ∀ {ps : List (Int × Int)}, xNn pc d = true → ps.all (fun q => xNn pc q.2) = true → xNn pc (Op.lookupswitch.offset ps d k) = true
  | [], hd, _ => hd
  | (a, o) :: r, hd, h => by
    rw [Op.lookupswitch.offset_cons]
    simp only [List.all_cons, Bool.and_eq_true] at h
    split
    · exact h.1
    · exact xoff_ok hd h.2
theorem xstr_at {g : xG} {a : Nat} (h2 : 2 ≤ a) (h4 : a ≤ 4) : a - 2 < 3 ∧ xad g a = g.2.1 (2 + (a - 2)) ∧ xad g (a + 3) = g.2.1 (5 + (a - 2)) := by
  refine ⟨by omega, ?_, ?_⟩
  · unfold xad
    rw [if_pos (show a < 16 by omega), show 2 + (a - 2) = a by omega]
  · unfold xad
    rw [if_pos (show a + 3 < 16 by omega), show 5 + (a - 2) = a + 3 by omega]
theorem xstb_at {g : xG} {ro : xRo} {s : State} {H : Heap} {a n : Nat} {f : Nat → Int32} (hK : xK g ro s H) (h : xStB a = some (n, f)) : va_T .byte (xad g a) n (fun j => .int (f j)) (xA g) s H ∧ xad g a = xad g a := by
  have hv := hK.2.2.2.2.2.2.2.2.2.1.1
  refine ⟨?_, rfl⟩
  unfold xStB at h
  split at h
  · cases h; exact (hv 0 (by decide)).2.2.2
  · cases h; exact (hv 1 (by decide)).2.2.2
  · cases h; exact (hv 2 (by decide)).2.2.2
  · cases h
theorem xnfw : nativeFrameWords "java/lang/System" "arraycopy" 5 + 11 ≤ 80 := by decide +kernel
section XM
variable {p : Program} {l : Launch} {e : Env} {R : Room} {s : State} {m : MethodId} {args : Array Value} {below : List Frame} {meth : Method} {c : Code} {H : Heap} {locs : List Loc} {cells slots : Nat} {Q : State → Prop}
variable {g : xG} {ro : xRo} {own mname : String} {cc : ByteArray} {nL pc : Nat} {h : xH} {Ls : Array Slot}
set_option maxHeartbeats 8000000 in
theorem xmain (X : xCx p s m args meth c g ro own mname cc nL) (hRm : 1 ≤ R.frames ∧ 120 ≤ R.locals) {i : xI} (hc : xChk own mname cc nL pc i = true) {ls ls' : xL} {st st' : List Value} {h' : xH} {pc' : Nat} (hs : xStep ro i pc ls st h = some (pc', ls', st', h')) (hW : xW g h H) (hL : lv_has Ls nL (xTl g ls)) (hS : va_S (xA g) s.heap H locs)
    (hcell : cells + h'.1 ≤ R.cells + h.1) (hslot : slots + h'.2.1 ≤ R.slots + h.2.1)
    (kk : ∀ (H1 : Heap) (locs1 : List Loc) (Ls1 : Array Slot) (cells1 slots1 : Nat), xW g h' H1 → lv_has Ls1 nL (xTl g ls') → va_S (xA g) s.heap H1 locs1 → cells1 + h.1 = cells + h'.1 → slots1 + h.2.1 = slots + h'.2.1 → W p l e R s m args below meth c H1 locs1 cells1 slots1 Q (F0 m pc' Ls1 (st'.map (xTv g)))) :
    W p l e R s m args below meth c H locs cells slots Q (F0 m pc Ls (st.map (xTv g))) := by
  obtain ⟨op, len, A, B, k, ps⟩ := i
  unfold xChk at hc
  simp only [Bool.and_eq_true, decide_eq_true_eq] at hc
  obtain ⟨⟨hd, hlen⟩, h2⟩ := hc
  obtain ⟨hx, hb, hml, hown, hts, hnm, hK⟩ := id X
  unfold xStep at hs
  dsimp only at hs hd hlen
  cases op with
  | iadd =>
    obtain rfl : len = 1 := xbeq hlen
    obtain ⟨x, y, r, rfl, he⟩ := xii_inv hs
    cases he
    exact lv_iadd hx hb hd (kk _ _ _ _ _ hW hL hS rfl rfl)
  | isub =>
    obtain rfl : len = 1 := xbeq hlen
    obtain ⟨x, y, r, rfl, he⟩ := xii_inv hs
    cases he
    exact lv_isub hx hb hd (kk _ _ _ _ _ hW hL hS rfl rfl)
  | imul =>
    obtain rfl : len = 1 := xbeq hlen
    obtain ⟨x, y, r, rfl, he⟩ := xii_inv hs
    cases he
    exact lv_imul hx hb hd (kk _ _ _ _ _ hW hL hS rfl rfl)
  | iand =>
    obtain rfl : len = 1 := xbeq hlen
    obtain ⟨x, y, r, rfl, he⟩ := xii_inv hs
    cases he
    exact lv_iand hx hb hd (kk _ _ _ _ _ hW hL hS rfl rfl)
  | ior =>
    obtain rfl : len = 1 := xbeq hlen
    obtain ⟨x, y, r, rfl, he⟩ := xii_inv hs
    cases he
    exact lv_ior hx hb hd (kk _ _ _ _ _ hW hL hS rfl rfl)
  | ixor =>
    obtain rfl : len = 1 := xbeq hlen
    obtain ⟨x, y, r, rfl, he⟩ := xii_inv hs
    cases he
    exact lv_ixor hx hb hd (kk _ _ _ _ _ hW hL hS rfl rfl)
  | ishl =>
    obtain rfl : len = 1 := xbeq hlen
    obtain ⟨x, y, r, rfl, he⟩ := xii_inv hs
    cases he
    exact lv_ishl hx hb hd (kk _ _ _ _ _ hW hL hS rfl rfl)
  | ishr =>
    obtain rfl : len = 1 := xbeq hlen
    obtain ⟨x, y, r, rfl, he⟩ := xii_inv hs
    cases he
    exact lv_ishr hx hb hd (kk _ _ _ _ _ hW hL hS rfl rfl)
  | iushr =>
    obtain rfl : len = 1 := xbeq hlen
    obtain ⟨x, y, r, rfl, he⟩ := xii_inv hs
    cases he
    exact lv_iushr hx hb hd rfl (kk _ _ _ _ _ hW hL hS rfl rfl)
  | idiv =>
    obtain rfl : len = 1 := xbeq hlen
    obtain ⟨x, y, r, rfl, he⟩ := xii_inv hs
    split at he
    · cases he
    · rename_i hy
      cases he
      exact lv_idiv hx hb hd hy (kk _ _ _ _ _ hW hL hS rfl rfl)
  | irem =>
    obtain rfl : len = 1 := xbeq hlen
    obtain ⟨x, y, r, rfl, he⟩ := xii_inv hs
    split at he
    · cases he
    · rename_i hy
      cases he
      exact lv_irem hx hb hd hy (kk _ _ _ _ _ hW hL hS rfl rfl)
  | ldiv =>
    obtain rfl : len = 1 := xbeq hlen
    obtain ⟨x, y, r, rfl, he⟩ := xll_inv hs
    split at he
    · cases he
    · rename_i hy
      cases he
      exact lv_ldiv hx hb hd hy (kk _ _ _ _ _ hW hL hS rfl rfl)
  | lrem =>
    obtain rfl : len = 1 := xbeq hlen
    obtain ⟨x, y, r, rfl, he⟩ := xll_inv hs
    split at he
    · cases he
    · rename_i hy
      cases he
      exact lv_lrem hx hb hd hy (kk _ _ _ _ _ hW hL hS rfl rfl)
  | ladd =>
    obtain rfl : len = 1 := xbeq hlen
    obtain ⟨x, y, r, rfl, he⟩ := xll_inv hs
    cases he
    exact lv_ladd hx hb hd (kk _ _ _ _ _ hW hL hS rfl rfl)
  | lsub =>
    obtain rfl : len = 1 := xbeq hlen
    obtain ⟨x, y, r, rfl, he⟩ := xll_inv hs
    cases he
    exact lv_lsub hx hb hd (kk _ _ _ _ _ hW hL hS rfl rfl)
  | lmul =>
    obtain rfl : len = 1 := xbeq hlen
    obtain ⟨x, y, r, rfl, he⟩ := xll_inv hs
    cases he
    exact lv_lmul hx hb hd (kk _ _ _ _ _ hW hL hS rfl rfl)
  | lor =>
    obtain rfl : len = 1 := xbeq hlen
    obtain ⟨x, y, r, rfl, he⟩ := xll_inv hs
    cases he
    exact lv_lor hx hb hd (kk _ _ _ _ _ hW hL hS rfl rfl)
  | lcmp =>
    obtain rfl : len = 1 := xbeq hlen
    obtain ⟨x, y, r, rfl, he⟩ := xll_inv hs
    cases he
    exact W.lcmp hx hb hd (kk _ _ _ _ _ hW hL hS rfl rfl)
  | ineg =>
    obtain rfl : len = 1 := xbeq hlen
    obtain ⟨x, r, rfl, he⟩ := xi_inv hs
    cases he
    exact lv_ineg hx hb hd (kk _ _ _ _ _ hW hL hS rfl rfl)
  | lneg =>
    obtain rfl : len = 1 := xbeq hlen
    obtain ⟨x, r, rfl, he⟩ := xl_inv hs
    cases he
    exact lv_lneg hx hb hd (kk _ _ _ _ _ hW hL hS rfl rfl)
  | lshl =>
    obtain rfl : len = 1 := xbeq hlen
    obtain ⟨x, y, r, rfl, he⟩ := xli_inv hs
    cases he
    exact lv_lshl hx hb hd rfl (kk _ _ _ _ _ hW hL hS rfl rfl)
  | lshr =>
    obtain rfl : len = 1 := xbeq hlen
    obtain ⟨x, y, r, rfl, he⟩ := xli_inv hs
    cases he
    exact lv_lshr hx hb hd rfl (kk _ _ _ _ _ hW hL hS rfl rfl)
  | i2l =>
    obtain rfl : len = 1 := xbeq hlen
    obtain ⟨x, r, rfl, he⟩ := xi_inv hs
    cases he
    exact lv_i2l hx hb hd rfl (kk _ _ _ _ _ hW hL hS rfl rfl)
  | i2c =>
    obtain rfl : len = 1 := xbeq hlen
    obtain ⟨x, r, rfl, he⟩ := xi_inv hs
    cases he
    exact lv_i2c hx hb hd rfl (kk _ _ _ _ _ hW hL hS rfl rfl)
  | i2b =>
    obtain rfl : len = 1 := xbeq hlen
    obtain ⟨x, r, rfl, he⟩ := xi_inv hs
    cases he
    exact lv_i2b hx hb hd rfl (kk _ _ _ _ _ hW hL hS rfl rfl)
  | l2i =>
    obtain rfl : len = 1 := xbeq hlen
    obtain ⟨x, r, rfl, he⟩ := xl_inv hs
    cases he
    exact lv_l2i hx hb hd rfl (kk _ _ _ _ _ hW hL hS rfl rfl)
  | aconst_null =>
    obtain rfl : len = 1 := xbeq hlen
    cases hs
    exact lv_null hx hb hd (kk _ _ _ _ _ hW hL hS rfl rfl)
  | iconst n =>
    obtain rfl : len = 1 := xbeq hlen
    cases hs
    exact lv_iconst hx hb hd rfl (kk _ _ _ _ _ hW hL hS rfl rfl)
  | bipush n =>
    obtain rfl : len = 2 := xbeq hlen
    cases hs
    exact lv_bipush hx hb hd (of_decide_eq_true h2) (kk _ _ _ _ _ hW hL hS rfl rfl)
  | sipush n =>
    obtain rfl : len = 3 := xbeq hlen
    cases hs
    exact lv_sipush hx hb hd (of_decide_eq_true h2) (kk _ _ _ _ _ hW hL hS rfl rfl)
  | lconst n =>
    obtain rfl : len = 1 := xbeq hlen
    cases hs
    exact lv_lconst hx hb hd rfl (kk _ _ _ _ _ hW hL hS rfl rfl)
  | iload n =>
    obtain rfl : len = 2 := xbeq hlen
    obtain ⟨v, hv, he⟩ := Option.bind_eq_some_iff.mp hs
    cases v with
    | int x => cases he; exact lv_iload hx hb hd (xL_at hL hv) (kk _ _ _ _ _ hW hL hS rfl rfl)
    | _ => cases he
  | iload_n n =>
    obtain rfl : len = 1 := xbeq hlen
    obtain ⟨v, hv, he⟩ := Option.bind_eq_some_iff.mp hs
    cases v with
    | int x => cases he; exact lv_iload_n hx hb hd rfl (xL_at hL hv) (kk _ _ _ _ _ hW hL hS rfl rfl)
    | _ => cases he
  | lload n =>
    obtain rfl : len = 2 := xbeq hlen
    obtain ⟨v, hv, he⟩ := Option.bind_eq_some_iff.mp hs
    cases v with
    | long x => cases he; exact lv_lload hx hb hd (xL_at hL hv) (kk _ _ _ _ _ hW hL hS rfl rfl)
    | _ => cases he
  | lload_n n =>
    obtain rfl : len = 1 := xbeq hlen
    obtain ⟨v, hv, he⟩ := Option.bind_eq_some_iff.mp hs
    cases v with
    | long x => cases he; exact lv_lload_n hx hb hd rfl (xL_at hL hv) (kk _ _ _ _ _ hW hL hS rfl rfl)
    | _ => cases he
  | aload n =>
    obtain rfl : len = 2 := xbeq hlen
    obtain ⟨v, hv, he⟩ := Option.bind_eq_some_iff.mp hs
    cases v with
    | ref x => cases he; exact lv_aload hx hb hd (xL_at hL hv) (kk _ _ _ _ _ hW hL hS rfl rfl)
    | null => cases he; exact lv_aloadN hx hb hd (xL_at hL hv) (kk _ _ _ _ _ hW hL hS rfl rfl)
    | _ => cases he
  | aload_n n =>
    obtain rfl : len = 1 := xbeq hlen
    obtain ⟨v, hv, he⟩ := Option.bind_eq_some_iff.mp hs
    cases v with
    | ref x => cases he; exact lv_aload_n hx hb hd rfl (xL_at hL hv) (kk _ _ _ _ _ hW hL hS rfl rfl)
    | null => cases he; exact lv_aload_nN hx hb hd rfl (xL_at hL hv) (kk _ _ _ _ _ hW hL hS rfl rfl)
    | _ => cases he
  | istore n =>
    obtain rfl : len = 2 := xbeq hlen
    obtain ⟨x, r, rfl, he⟩ := xi_inv hs
    cases he
    exact lv_istore hx hb hd hL (of_decide_eq_true h2) (xP1_map g ls n (.int x)) (fun Ls1 hL1 => kk _ _ _ _ _ hW hL1 hS rfl rfl)
  | istore_n n =>
    obtain rfl : len = 1 := xbeq hlen
    obtain ⟨x, r, rfl, he⟩ := xi_inv hs
    cases he
    exact lv_istore_n hx hb hd rfl hL (of_decide_eq_true h2) (xP1_map g ls n (.int x)) (fun Ls1 hL1 => kk _ _ _ _ _ hW hL1 hS rfl rfl)
  | lstore n =>
    obtain rfl : len = 2 := xbeq hlen
    obtain ⟨x, r, rfl, he⟩ := xl_inv hs
    cases he
    exact lv_lstore hx hb hd hL (of_decide_eq_true h2) (xP2_map g ls n (.long x)) (fun Ls1 hL1 => kk _ _ _ _ _ hW hL1 hS rfl rfl)
  | lstore_n n =>
    obtain rfl : len = 1 := xbeq hlen
    obtain ⟨x, r, rfl, he⟩ := xl_inv hs
    cases he
    exact lv_lstore_n hx hb hd rfl hL (of_decide_eq_true h2) (xP2_map g ls n (.long x)) (fun Ls1 hL1 => kk _ _ _ _ _ hW hL1 hS rfl rfl)
  | astore n =>
    obtain rfl : len = 2 := xbeq hlen
    obtain ⟨x, r, rfl, he⟩ := xq_inv hs
    cases he
    cases x with
    | some x => exact lv_astore hx hb hd hL (of_decide_eq_true h2) (xP1_map g ls n (.ref x)) (fun Ls1 hL1 => kk _ _ _ _ _ hW hL1 hS rfl rfl)
    | none => exact lv_astoreN hx hb hd hL (of_decide_eq_true h2) (xP1_map g ls n .null) (fun Ls1 hL1 => kk _ _ _ _ _ hW hL1 hS rfl rfl)
  | astore_n n =>
    obtain rfl : len = 1 := xbeq hlen
    obtain ⟨x, r, rfl, he⟩ := xq_inv hs
    cases he
    cases x with
    | some x => exact lv_astore_n hx hb hd rfl hL (of_decide_eq_true h2) (xP1_map g ls n (.ref x)) (fun Ls1 hL1 => kk _ _ _ _ _ hW hL1 hS rfl rfl)
    | none => exact lv_astore_nN hx hb hd rfl hL (of_decide_eq_true h2) (xP1_map g ls n .null) (fun Ls1 hL1 => kk _ _ _ _ _ hW hL1 hS rfl rfl)
  | iinc n z =>
    obtain rfl : len = 3 := xbeq hlen
    obtain ⟨v, hv, he⟩ := Option.bind_eq_some_iff.mp hs
    cases v with
    | int x =>
      cases he
      obtain ⟨j, hj⟩ := xL_idx (g := g) hv
      exact lv_iinc hx hb hd hL hj rfl (of_decide_eq_true h2) (xP1_map g ls n (.int (x + Int32.ofInt z))) (fun Ls1 hL1 => kk _ _ _ _ _ hW hL1 hS rfl rfl)
    | _ => cases he
  | dup =>
    obtain rfl : len = 1 := xbeq hlen
    dsimp only at hs
    split at hs
    · cases hs; exact lv_dup hx hb hd rfl (kk _ _ _ _ _ hW hL hS rfl rfl)
    · cases hs; exact lv_dup hx hb hd rfl (kk _ _ _ _ _ hW hL hS rfl rfl)
    · cases hs
  | dup2 =>
    obtain rfl : len = 1 := xbeq hlen
    dsimp only at hs
    split at hs
    · cases hs; exact lv_dup2_11 hx hb hd rfl rfl (kk _ _ _ _ _ hW hL hS rfl rfl)
    · cases hs
  | pop =>
    obtain rfl : len = 1 := xbeq hlen
    dsimp only at hs
    split at hs
    · cases hs; exact lv_pop hx hb hd rfl (kk _ _ _ _ _ hW hL hS rfl rfl)
    · cases hs; exact lv_pop hx hb hd rfl (kk _ _ _ _ _ hW hL hS rfl rfl)
    · cases hs
  | goto off =>
    obtain rfl : len = 3 := xbeq hlen
    cases hs
    exact lv_goto hx hb hd (xTgt_eq h2) (kk _ _ _ _ _ hW hL hS rfl rfl)
  | ifCond cd off =>
    obtain rfl : len = 3 := xbeq hlen
    obtain ⟨x, r, rfl, he⟩ := xi_inv hs
    cases cd with
    | eq =>
      cases he
      refine lv_if_eq hx hb hd (xTgt_eq h2) (fun hc => ?_) (fun hc => ?_)
      · have := kk _ _ _ _ _ hW hL hS rfl rfl; rw [if_pos hc] at this; exact this
      · have := kk _ _ _ _ _ hW hL hS rfl rfl; rw [if_neg hc] at this; exact this
    | ne =>
      cases he
      refine lv_if_ne hx hb hd (xTgt_eq h2) (fun hc => ?_) (fun hc => ?_)
      · have := kk _ _ _ _ _ hW hL hS rfl rfl; rw [if_pos hc] at this; exact this
      · have := kk _ _ _ _ _ hW hL hS rfl rfl; rw [if_neg (fun q => q hc)] at this; exact this
    | lt =>
      cases he
      refine lv_if_lt hx hb hd (xTgt_eq h2) (fun hc => ?_) (fun hc => ?_)
      · have := kk _ _ _ _ _ hW hL hS rfl rfl; rw [if_pos hc] at this; exact this
      · have := kk _ _ _ _ _ hW hL hS rfl rfl; rw [if_neg hc] at this; exact this
    | ge =>
      cases he
      refine lv_if_ge hx hb hd (xTgt_eq h2) (fun hc => ?_) (fun hc => ?_)
      · have := kk _ _ _ _ _ hW hL hS rfl rfl; rw [if_pos hc] at this; exact this
      · have := kk _ _ _ _ _ hW hL hS rfl rfl; rw [if_neg hc] at this; exact this
    | gt =>
      cases he
      refine lv_if_gt hx hb hd (xTgt_eq h2) (fun hc => ?_) (fun hc => ?_)
      · have := kk _ _ _ _ _ hW hL hS rfl rfl; rw [if_pos hc] at this; exact this
      · have := kk _ _ _ _ _ hW hL hS rfl rfl; rw [if_neg hc] at this; exact this
    | le =>
      cases he
      refine lv_if_le hx hb hd (xTgt_eq h2) (fun hc => ?_) (fun hc => ?_)
      · have := kk _ _ _ _ _ hW hL hS rfl rfl; rw [if_pos hc] at this; exact this
      · have := kk _ _ _ _ _ hW hL hS rfl rfl; rw [if_neg hc] at this; exact this
  | if_icmp cd off =>
    obtain rfl : len = 3 := xbeq hlen
    obtain ⟨x, y, r, rfl, he⟩ := xii_inv hs
    cases cd with
    | eq =>
      cases he
      refine lv_icmp_eq hx hb hd (xTgt_eq h2) (fun hc => ?_) (fun hc => ?_)
      · have := kk _ _ _ _ _ hW hL hS rfl rfl; rw [if_pos hc] at this; exact this
      · have := kk _ _ _ _ _ hW hL hS rfl rfl; rw [if_neg hc] at this; exact this
    | ne =>
      cases he
      refine lv_icmp_ne hx hb hd (xTgt_eq h2) (fun hc => ?_) (fun hc => ?_)
      · have := kk _ _ _ _ _ hW hL hS rfl rfl; rw [if_pos hc] at this; exact this
      · have := kk _ _ _ _ _ hW hL hS rfl rfl; rw [if_neg (fun q => q hc)] at this; exact this
    | lt =>
      cases he
      refine lv_icmp_lt hx hb hd (xTgt_eq h2) (fun hc => ?_) (fun hc => ?_)
      · have := kk _ _ _ _ _ hW hL hS rfl rfl; rw [if_pos hc] at this; exact this
      · have := kk _ _ _ _ _ hW hL hS rfl rfl; rw [if_neg hc] at this; exact this
    | ge =>
      cases he
      refine lv_icmp_ge hx hb hd (xTgt_eq h2) (fun hc => ?_) (fun hc => ?_)
      · have := kk _ _ _ _ _ hW hL hS rfl rfl; rw [if_pos hc] at this; exact this
      · have := kk _ _ _ _ _ hW hL hS rfl rfl; rw [if_neg hc] at this; exact this
    | gt =>
      cases he
      refine lv_icmp_gt hx hb hd (xTgt_eq h2) (fun hc => ?_) (fun hc => ?_)
      · have := kk _ _ _ _ _ hW hL hS rfl rfl; rw [if_pos hc] at this; exact this
      · have := kk _ _ _ _ _ hW hL hS rfl rfl; rw [if_neg hc] at this; exact this
    | le =>
      cases he
      refine lv_icmp_le hx hb hd (xTgt_eq h2) (fun hc => ?_) (fun hc => ?_)
      · have := kk _ _ _ _ _ hW hL hS rfl rfl; rw [if_pos hc] at this; exact this
      · have := kk _ _ _ _ _ hW hL hS rfl rfl; rw [if_neg hc] at this; exact this
  | ifnull off =>
    obtain rfl : len = 3 := xbeq hlen
    obtain ⟨x, r, rfl, he⟩ := xq_inv hs
    cases x with
    | some x => cases he; exact lv_ifnull hx hb hd (kk _ _ _ _ _ hW hL hS rfl rfl)
    | none => cases he; exact lv_ifnullN hx hb hd (xTgt_eq h2) (kk _ _ _ _ _ hW hL hS rfl rfl)
  | ifnonnull off =>
    obtain rfl : len = 3 := xbeq hlen
    obtain ⟨x, r, rfl, he⟩ := xq_inv hs
    cases x with
    | some x => cases he; exact lv_ifnonnull hx hb hd (xTgt_eq h2) (kk _ _ _ _ _ hW hL hS rfl rfl)
    | none => cases he; exact lv_ifnonnullN hx hb hd (kk _ _ _ _ _ hW hL hS rfl rfl)
  | tableswitch d lo hi offs =>
    obtain ⟨x, r, rfl, he⟩ := xi_inv hs
    unfold xChk2 at h2
    simp only [Bool.and_eq_true] at h2
    split at he
    · rename_i hr
      cases he
      exact lv_tableOut hx hb hd hr (xTgt_eq h2.1) (kk _ _ _ _ _ hW hL hS rfl rfl)
    · rename_i hr
      obtain ⟨off, ho, he⟩ := Option.bind_eq_some_iff.mp he
      cases he
      have hm : xNn pc off = true := by
        refine List.all_eq_true.mp h2.2 off ?_
        rw [← Array.getElem?_toList] at ho
        exact List.mem_of_getElem? ho
      exact lv_tableIn hx hb hd (fun q => hr (Or.inl q)) (fun q => hr (Or.inr q)) ho (xTgt_eq hm) (kk _ _ _ _ _ hW hL hS rfl rfl)
  | lookupswitch d prs =>
    obtain ⟨x, r, rfl, he⟩ := xi_inv hs
    cases he
    unfold xChk2 at h2
    simp only [Bool.and_eq_true] at h2
    exact lv_lookup hx hb hd h2.2 rfl (xTgt_eq (xoff_ok h2.1.1 h2.1.2)) (kk _ _ _ _ _ hW hL hS rfl rfl)
  | ldc idx =>
    obtain rfl : len = 2 := xbeq hlen
    dsimp only at hs
    unfold xChk2 at h2
    dsimp only at h2
    cases hA : Nat.beq A 0 with
    | true =>
      rw [hA] at hs h2
      cases hs
      exact lv_ldc hx hb hown (hts _ (xwd_in h2)) hd (kk _ _ _ _ _ hW hL hS rfl rfl)
    | false =>
      rw [hA] at hs h2
      cases hs
      simp only [cond_false, Bool.or_eq_true, Bool.and_eq_true, decide_eq_true_eq] at h2
      obtain ⟨s1, s2, s3, -⟩ := hK.2.2.2.2.2.2
      rcases h2 with (⟨⟨ho, hi⟩, hB⟩ | ⟨⟨ho, hi⟩, hB⟩) | ⟨⟨ho, hi⟩, hB⟩
      · have hi := xbeq hi; have hB := xbeq hB; subst hi; subst hB; subst ho; obtain ⟨tx, s1⟩ := s1; exact va_ldcS hx hb hown s1 hd (kk _ _ _ _ _ hW hL hS rfl rfl)
      · have hi := xbeq hi; have hB := xbeq hB; subst hi; subst hB; subst ho; obtain ⟨tx, s2⟩ := s2; exact va_ldcS hx hb hown s2 hd (kk _ _ _ _ _ hW hL hS rfl rfl)
      · have hi := xbeq hi; have hB := xbeq hB; subst hi; subst hB; subst ho; obtain ⟨tx, s3⟩ := s3; exact va_ldcS hx hb hown s3 hd (kk _ _ _ _ _ hW hL hS rfl rfl)
  | ldc_w idx =>
    obtain rfl : len = 3 := xbeq hlen
    cases hs
    exact lv_ldcw hx hb hown (hts _ (xwd_in h2)) hd (kk _ _ _ _ _ hW hL hS rfl rfl)
  | ldc2_w idx =>
    obtain rfl : len = 3 := xbeq hlen
    cases hs
    exact lv_ldc2 hx hb hown (hts _ (xwd_in h2)) hd (kk _ _ _ _ _ hW hL hS rfl rfl)
  | getfield idx =>
    obtain rfl : len = 3 := xbeq hlen
    dsimp only at hs
    unfold xChk2 at h2
    dsimp only at h2
    cases hk5 : (k == 5) with
    | true =>
      rw [hk5] at hs h2
      dsimp only [cond_true] at hs h2
      obtain ⟨a, r, rfl, he⟩ := xa_inv hs
      cases hA : (Nat.ble 2 a && Nat.ble a 4) with
      | true =>
        rw [hA] at he
        cases he
        simp only [Bool.and_eq_true] at hA
        obtain ⟨z1, z2, z3⟩ := xstr_at (g := g) (Nat.le_of_ble_eq_true hA.1) (Nat.le_of_ble_eq_true hA.2)
        have hz := (hK.2.2.2.2.2.2.2.2.2.1.1 (a - 2) z1).2.2.1
        have hk0 : W p l e R s m args below meth c H locs cells slots Q (F0 m (pc + 3) Ls (.ref (xad g (a + 3)) :: r.map (xTv g))) := kk _ _ _ _ _ hW hL hS rfl rfl
        rw [z3] at hk0
        have hk := vk_getf hx hb hz hS hown (hts _ (xwd_in h2)) (fun _ h => h) hd hk0
        show W p l e R s m args below meth c H locs cells slots Q (F0 m pc Ls (.ref (xad g a) :: r.map (xTv g)))
        rw [z2]
        exact hk
      | false => rw [hA] at he; cases he
    | false =>
      rw [hk5] at hs h2
      dsimp only [cond_false] at hs h2
      cases hk6 : (k == 6) with
      | true =>
        rw [hk6] at hs h2
        dsimp only [cond_true] at hs h2
        obtain ⟨a, r, rfl, he⟩ := xa_inv hs
        cases hA : (Nat.ble 2 a && Nat.ble a 4) with
        | true =>
          rw [hA] at he
          cases he
          simp only [Bool.and_eq_true] at hA
          obtain ⟨z1, z2, z3⟩ := xstr_at (g := g) (Nat.le_of_ble_eq_true hA.1) (Nat.le_of_ble_eq_true hA.2)
          have hz := (hK.2.2.2.2.2.2.2.2.2.1.1 (a - 2) z1).2.1
          have hk := vk_getf hx hb hz hS hown (hts _ (xwd_in h2)) (fun _ h => h) hd (kk _ _ _ _ _ hW hL hS rfl rfl)
          show W p l e R s m args below meth c H locs cells slots Q (F0 m pc Ls (.ref (xad g a) :: r.map (xTv g)))
          rw [z2]
          exact hk
        | false => rw [hA] at he; cases he
      | false =>
        rw [hk6] at hs h2
        dsimp only [cond_false] at hs h2
        obtain ⟨a, r, rfl, he⟩ := xa_inv hs
        obtain ⟨fs, ha, he⟩ := xob_inv he
        obtain ⟨v, hv, he⟩ := Option.bind_eq_some_iff.mp he
        cases he
        split at h2
        · rename_i q hq
          simp only [Bool.and_eq_true, decide_eq_true_eq] at h2
          exact xget X hq h2.1 (xwd_in h2.2) hv ha hW hd (kk _ _ _ _ _ hW hL hS rfl rfl)
        · cases h2
  | putfield idx =>
    obtain rfl : len = 3 := xbeq hlen
    dsimp only at hs
    unfold xChk2 at h2
    dsimp only at h2
    split at hs
    · rename_i v a r
      obtain ⟨fs, ha, he⟩ := xob_inv hs
      cases hf : (xfit k v && Nat.blt B fs.length) with
      | true =>
        rw [hf] at he
        cases he
        simp only [Bool.and_eq_true] at hf
        split at h2
        · rename_i q hq
          simp only [Bool.and_eq_true, decide_eq_true_eq] at h2
          exact xput X hq h2.1.1.1 (xwd_in h2.1.1.2) h2.1.2 (by simpa using h2.2) hf.1 (Nat.le_of_ble_eq_true hf.2) ha hW hS hd (fun H1 locs1 hW1 hS1 => kk _ _ _ _ _ hW1 hL hS1 rfl rfl)
        · cases h2
      | false => rw [hf] at he; cases he
    · cases hs
  | getstatic idx =>
    obtain rfl : len = 3 := xbeq hlen
    dsimp only at hs
    unfold xChk2 at h2
    dsimp only at h2
    cases hk1 : (k == 1) with
    | true =>
      rw [hk1] at hs h2
      cases hs
      exact va_gets hx hb hK.2.2.2.2.2.2.2.2.2.2.1 hS hown (hts _ (xwd_in h2)) (fun _ h => h) hd (kk _ _ _ _ _ hW hL hS rfl rfl)
    | false =>
      rw [hk1] at hs h2
      dsimp only [cond_false] at hs h2
      cases hk2 : (k == 2) with
      | true =>
        rw [hk2] at hs h2
        dsimp only [cond_true] at hs h2
        have hz := hK.2.2.2.2.2.2.2.2.2.2.2.1
        split at hs
        · rename_i q hq
          cases hs
          rw [hq] at hz
          exact va_gets hx hb hz hS hown (hts _ (xwd_in h2)) (fun _ h => h) hd (kk _ _ _ _ _ hW hL hS rfl rfl)
        · rename_i hq
          cases hs
          rw [hq] at hz
          exact va_gets hx hb hz hS hown (hts _ (xwd_in h2)) (fun _ h => h) hd (kk _ _ _ _ _ hW hL hS rfl rfl)
      | false =>
        rw [hk2] at hs h2
        cases hs
        simp only [cond_false, Bool.and_eq_true] at h2
        have hB := xbeq h2.1
        subst hB
        exact va_gets hx hb hK.2.2.2.2.2.1 hS hown (hts _ (xwd_in h2.2)) (fun _ h => h) hd (kk _ _ _ _ _ hW hL hS rfl rfl)
  | iaload =>
    obtain rfl : len = 1 := xbeq hlen
    obtain ⟨a, j, r, rfl, he⟩ := xai_inv hs
    cases hA : Nat.blt a 2 with
    | true =>
      rw [hA] at he
      obtain ⟨⟨n, f⟩, hr, he⟩ := Option.bind_eq_some_iff.mp he
      obtain ⟨hin, he⟩ := xin_inv he
      cases he
      have h2a : a < 2 := Nat.le_of_ble_eq_true hA
      have ha : xad g a = g.2.1 a := by unfold xad; rw [if_pos (Nat.lt_of_lt_of_le h2a (by decide))]
      have hk := va_ti hx hb (hK.2.2.2.2.1 a n f h2a hr) hS hin rfl hd (kk _ _ _ _ _ hW hL hS rfl rfl)
      rw [← ha] at hk
      exact hk
    | false =>
      rw [hA] at he
      obtain ⟨n, f, ha, he⟩ := xar_inv he
      obtain ⟨hin, he⟩ := xin_inv he
      cases he
      exact xiald X hW ha hin hd (kk _ _ _ _ _ hW hL hS rfl rfl)
  | baload =>
    obtain rfl : len = 1 := xbeq hlen
    obtain ⟨a, j, r, rfl, he⟩ := xai_inv hs
    cases hA : Nat.blt a 16 with
    | true =>
      rw [hA] at he
      obtain ⟨⟨n, f⟩, hr, he⟩ := Option.bind_eq_some_iff.mp he
      obtain ⟨hin, he⟩ := xin_inv he
      cases he
      obtain ⟨z1, z2⟩ := xstb_at (g := g) (ro := ro) hK hr
      have hk := va_tb hx hb z1 hS hin rfl hd (kk _ _ _ _ _ hW hL hS rfl rfl)
      rw [← z2] at hk
      exact hk
    | false =>
      rw [hA] at he
      obtain ⟨n, f, ha, he⟩ := xar_inv he
      obtain ⟨hin, he⟩ := xin_inv he
      cases he
      exact xzald X hW ha hin hd (kk _ _ _ _ _ hW hL hS rfl rfl)
  | laload =>
    obtain rfl : len = 1 := xbeq hlen
    obtain ⟨a, j, r, rfl, he⟩ := xai_inv hs
    obtain ⟨n, f, ha, he⟩ := xarl_inv he
    obtain ⟨hin, he⟩ := xin_inv he
    cases he
    exact xlald X hW ha hin hd (kk _ _ _ _ _ hW hL hS rfl rfl)
  | aaload =>
    obtain rfl : len = 1 := xbeq hlen
    obtain ⟨a, j, r, rfl, he⟩ := xai_inv hs
    obtain ⟨t, n, f, ht, ha, he⟩ := xarq_inv he
    obtain ⟨hin, he⟩ := xin_inv he
    cases he
    exact xaald X hW ht ha hin hd (kk _ _ _ _ _ hW hL hS rfl rfl)
  | iastore =>
    obtain rfl : len = 1 := xbeq hlen
    obtain ⟨x, r, rfl, he⟩ := xi_inv hs
    obtain ⟨a, j, r, rfl, he⟩ := xai_inv he
    obtain ⟨n, f, ha, he⟩ := xar_inv he
    obtain ⟨hin, he⟩ := xin_inv he
    cases he
    exact xiast X hW hS ha hin hd (fun H1 locs1 hW1 hS1 => kk _ _ _ _ _ hW1 hL hS1 rfl rfl)
  | bastore =>
    obtain rfl : len = 1 := xbeq hlen
    obtain ⟨x, r, rfl, he⟩ := xi_inv hs
    obtain ⟨a, j, r, rfl, he⟩ := xai_inv he
    obtain ⟨n, f, ha, he⟩ := xar_inv he
    obtain ⟨hin, he⟩ := xin_inv he
    split at he
    · rename_i h01
      cases he
      exact xzast X hW hS ha h01 hin hd (fun H1 locs1 hW1 hS1 => kk _ _ _ _ _ hW1 hL hS1 rfl rfl)
    · cases he
  | lastore =>
    obtain rfl : len = 1 := xbeq hlen
    obtain ⟨x, r, rfl, he⟩ := xl_inv hs
    obtain ⟨a, j, r, rfl, he⟩ := xai_inv he
    obtain ⟨n, f, ha, he⟩ := xarl_inv he
    obtain ⟨hin, he⟩ := xin_inv he
    cases he
    exact xlast X hW hS ha hin hd (fun H1 locs1 hW1 hS1 => kk _ _ _ _ _ hW1 hL hS1 rfl rfl)
  | aastore =>
    obtain rfl : len = 1 := xbeq hlen
    obtain ⟨v, r, rfl, he⟩ := xq_inv hs
    obtain ⟨a, j, r, rfl, he⟩ := xai_inv he
    obtain ⟨t, n, f, ht, ha, he⟩ := xarq_inv he
    obtain ⟨hin, he⟩ := xin_inv he
    cases v with
    | none => cases he; exact xaastN X hW hS ht ha hin hd (fun H1 locs1 hW1 hS1 => kk _ _ _ _ _ hW1 hL hS1 rfl rfl)
    | some o =>
      obtain ⟨fs, ho, he⟩ := xob_inv he
      cases he
      exact xaast X hW hS ht ha ho hin hd (fun H1 locs1 hW1 hS1 => kk _ _ _ _ _ hW1 hL hS1 rfl rfl)
  | arraylength =>
    obtain rfl : len = 1 := xbeq hlen
    obtain ⟨a, r, rfl, he⟩ := xa_inv hs
    cases hA : Nat.blt a 16 with
    | true =>
      rw [hA] at he
      obtain ⟨n, hr, he⟩ := Option.bind_eq_some_iff.mp he
      cases he
      unfold xLn at hr
      split at hr
      · rename_i q hq
        cases hr
        obtain ⟨n, f⟩ := q
        obtain ⟨z1, z2⟩ := xstb_at (g := g) (ro := ro) hK hq
        have hk := va_tlen hx hb z1 hS rfl hd (kk _ _ _ _ _ hW hL hS rfl rfl)
        rw [← z2] at hk
        exact hk
      · cases hB : Nat.blt a 2 with
        | true =>
          rw [hB] at hr
          obtain ⟨⟨n, f⟩, hr2, he⟩ := Option.map_eq_some_iff.mp hr
          cases he
          have h2a : a < 2 := Nat.le_of_ble_eq_true hB
          have ha : xad g a = g.2.1 a := by unfold xad; rw [if_pos (Nat.lt_of_lt_of_le h2a (by decide))]
          have hk := va_tlen hx hb (hK.2.2.2.2.1 a n f h2a hr2) hS rfl hd (kk _ _ _ _ _ hW hL hS rfl rfl)
          rw [← ha] at hk
          exact hk
        | false => rw [hB] at hr; cases hr
    | false =>
      rw [hA] at he
      dsimp only [cond_false] at he
      split at he
      · rename_i t n x ha
        cases hB : Nat.blt t 5 with
        | true => rw [hB] at he; cases he; exact xalen X hW (Nat.le_of_ble_eq_true hB) ha hd (kk _ _ _ _ _ hW hL hS rfl rfl)
        | false => rw [hB] at he; cases he
      · cases he
  | newarray t0 =>
    obtain rfl : len = 2 := xbeq hlen
    obtain ⟨x, r, rfl, he⟩ := xi_inv hs
    obtain ⟨t, ht, he⟩ := Option.bind_eq_some_iff.mp he
    split at he
    · cases he
    · rename_i hr
      cases he
      have hc1 : cells + (h.1 + 1) ≤ R.cells + h.1 := hcell
      have hs1 : slots + (h.2.1 + x.toNatClampNeg) ≤ R.slots + h.2.1 := hslot
      exact xnewa X hW hS ht (xwd_in h2) (fun q => hr (Or.inl q)) (Nat.not_lt.mp fun q => hr (Or.inr q)) (by omega) (by omega) hd (fun H1 hW1 hS1 => kk _ _ _ _ _ hW1 hL hS1 (show cells + 1 + h.1 = cells + (h.1 + 1) by omega) (show slots + x.toNatClampNeg + h.2.1 = slots + (h.2.1 + x.toNatClampNeg) by omega))
  | anewarray idx =>
    obtain rfl : len = 3 := xbeq hlen
    unfold xChk2 at h2
    obtain ⟨x, r, rfl, he⟩ := xi_inv hs
    split at he
    · cases he
    · rename_i hr
      cases he
      have hc1 : cells + (h.1 + 1) ≤ R.cells + h.1 := hcell
      have hs1 : slots + (h.2.1 + x.toNatClampNeg) ≤ R.slots + h.2.1 := hslot
      simp only [Bool.or_eq_true, Bool.and_eq_true] at h2
      have hw : (A = 3 ∧ Jvm.Cond.classLink own idx RX2 ∈ xTb) ∨ (A = 4 ∧ Jvm.Cond.classLink own idx RX10 ∈ xTb) := by
        rcases h2 with h2 | h2
        · exact Or.inl ⟨xbeq h2.1, xwd_in h2.2⟩
        · exact Or.inr ⟨xbeq h2.1, xwd_in h2.2⟩
      exact xnewq X hW hS hw (fun q => hr (Or.inl q)) (Nat.not_lt.mp fun q => hr (Or.inr q)) (by omega) (by omega) hd (fun H1 hW1 hS1 => kk _ _ _ _ _ hW1 hL hS1 (show cells + 1 + h.1 = cells + (h.1 + 1) by omega) (show slots + x.toNatClampNeg + h.2.1 = slots + (h.2.1 + x.toNatClampNeg) by omega))
  | new idx =>
    obtain rfl : len = 3 := xbeq hlen
    unfold xChk2 at h2
    dsimp only at h2
    cases hs
    split at h2
    · rename_i q hq
      simp only [Bool.and_eq_true] at h2
      have hB := xbeq h2.1.1.1
      subst hB
      have hc1 : cells + (h.1 + 1) ≤ R.cells + h.1 := hcell
      have hs1 : slots + (h.2.1 + q.2.2) ≤ R.slots + h.2.1 := hslot
      exact xnew X hW hS hq (xwd_in h2.1.1.2) (xwd_in h2.1.2) (xwd_in h2.2) (by omega) (by omega) hd (fun H1 hW1 hS1 => kk _ _ _ _ _ hW1 hL hS1 (show cells + 1 + h.1 = cells + (h.1 + 1) by omega) (show slots + q.2.2 + h.2.1 = slots + (h.2.1 + q.2.2) by omega))
    · cases h2
  | invokevirtual idx =>
    obtain rfl : len = 3 := xbeq hlen
    dsimp only at hs
    unfold xChk2 at h2
    dsimp only at h2
    cases hk : (k == 8) with
    | true =>
      rw [hk] at hs h2
      dsimp only [cond_true] at hs h2
      obtain ⟨a, r, rfl, he⟩ := xa_inv hs
      obtain ⟨n, f, ha, he⟩ := xar_inv he
      split at he
      · cases he
      · rename_i hr
        cases he
        simp only [Bool.and_eq_true] at h2
        simp only [not_or] at hr
        have hc1 : cells + (h.1 + 1) ≤ R.cells + h.1 := hcell
        have hs1 : slots + (h.2.1 + n) ≤ R.slots + h.2.1 := hslot
        exact xclone X hW hS hL.1 ha (xwd_in h2.1.1.1.1) (xwd_in h2.1.1.1.2) (xwd_in h2.1.1.2) (xwd_in h2.1.2) (xwd_in h2.2) hRm.1 (by rw [xCat_map]; omega) (by omega) (by omega) hd (fun H1 hW1 hS1 => kk _ _ _ _ _ hW1 hL hS1 (show cells + 1 + h.1 = cells + (h.1 + 1) by omega) (show slots + n + h.2.1 = slots + (h.2.1 + n) by omega))
    | false => rw [hk] at hs; cases hs
  | checkcast idx =>
    obtain rfl : len = 3 := xbeq hlen
    obtain ⟨a, r, rfl, he⟩ := xa_inv hs
    obtain ⟨n, f, ha, he⟩ := xar_inv he
    cases he
    exact xcast X hW ha (xwd_in h2) hd (kk _ _ _ _ _ hW hL hS rfl rfl)
  | invokestatic idx =>
    obtain rfl : len = 3 := xbeq hlen
    dsimp only at hs
    unfold xChk2 at h2
    dsimp only at h2
    cases hk : (k == 9) with
    | true =>
      rw [hk] at hs h2
      dsimp only [cond_true] at hs
      split at hs
      · rename_i n dp a sp a0 r
        obtain ⟨n0, f, ha0, he⟩ := xar_inv hs
        obtain ⟨n1, f1, ha1, he⟩ := xar_inv he
        split at he
        · cases he
        · rename_i hr
          cases he
          simp only [cond_true, Bool.and_eq_true] at h2
          simp only [not_or] at hr
          obtain ⟨r1, r2, r3, r4, r5, r6⟩ := hr
          have := xnfw
          exact xcopy X hW hS hL.1 ha0 ha1 (xwd_in h2.1.1.1) (xwd_in h2.1.1.2) (xwd_in h2.1.2) (xwd_in h2.2) r1 r2 r3 (by omega) (by omega) hRm.1 (by rw [xCat_map]; omega) hd (fun H1 locs1 hW1 hS1 => kk _ _ _ _ _ hW1 hL hS1 rfl rfl)
      · cases hs
    | false =>
      rw [hk] at hs h2
      dsimp only [cond_false] at hs h2
      cases hk10 : (k == 10) with
      | true =>
        rw [hk10] at hs h2
        dsimp only [cond_true] at hs h2
        obtain ⟨x, y, r, rfl, he⟩ := xii_inv hs
        split at he
        · cases he
        · rename_i hr
          cases he
          simp only [Bool.and_eq_true] at h2
          exact va_mmax hx hb (hml.trans hL.1.symm) hown (hts _ (xwd_in h2.1.1.1)) (hts _ (xwd_in h2.1.1.2)) (hts _ (xwd_in h2.1.2)) (hts _ (xwd_in h2.2)) hRm.1 (by rw [xCat_map]; omega) (by omega) (by omega) hd (kk _ _ _ _ _ hW hL hS rfl rfl)
      | false =>
        rw [hk10] at hs h2
        dsimp only [cond_false] at hs h2
        cases hk11 : (k == 11) with
        | true =>
          rw [hk11] at hs h2
          dsimp only [cond_true] at hs h2
          obtain ⟨x, y, r, rfl, he⟩ := xii_inv hs
          split at he
          · cases he
          · rename_i hr
            cases he
            simp only [Bool.and_eq_true] at h2
            exact va_mmin hx hb (hml.trans hL.1.symm) hown (hts _ (xwd_in h2.1.1.1)) (hts _ (xwd_in h2.1.1.2)) (hts _ (xwd_in h2.1.2)) (hts _ (xwd_in h2.2)) hRm.1 (by rw [xCat_map]; omega) (by omega) (by omega) hd (kk _ _ _ _ _ hW hL hS rfl rfl)
        | false =>
          rw [hk11] at hs h2
          dsimp only [cond_false] at hs h2
          cases hk12 : (k == 12) with
          | true =>
            rw [hk12] at hs h2
            dsimp only [cond_true] at hs h2
            obtain ⟨x, y, r, rfl, he⟩ := xll_inv hs
            split at he
            · cases he
            · rename_i hr
              cases he
              simp only [Bool.and_eq_true] at h2
              exact va_mmax_long hx hb (hml.trans hL.1.symm) hown (hts _ (xwd_in h2.1.1.1)) (hts _ (xwd_in h2.1.1.2)) (hts _ (xwd_in h2.1.2)) (hts _ (xwd_in h2.2)) hRm.1 (by rw [xCat_map]; omega) (by omega) (by omega) hd (kk _ _ _ _ _ hW hL hS rfl rfl)
          | false =>
            rw [hk12] at hs h2
            dsimp only [cond_false] at hs h2
            cases hk13 : (k == 13) with
            | true =>
              rw [hk13] at hs h2
              dsimp only [cond_true] at hs h2
              obtain ⟨x, y, r, rfl, he⟩ := xll_inv hs
              split at he
              · cases he
              · rename_i hr
                cases he
                simp only [Bool.and_eq_true] at h2
                exact va_mmin_long hx hb (hml.trans hL.1.symm) hown (hts _ (xwd_in h2.1.1.1)) (hts _ (xwd_in h2.1.1.2)) (hts _ (xwd_in h2.1.2)) (hts _ (xwd_in h2.2)) hRm.1 (by rw [xCat_map]; omega) (by omega) (by omega) hd (kk _ _ _ _ _ hW hL hS rfl rfl)
            | false =>
              rw [hk13] at hs h2
              dsimp only [cond_false] at hs h2
              cases hs
  | invokespecial idx =>
    obtain rfl : len = 3 := xbeq hlen
    dsimp only at hs
    unfold xChk2 at h2
    dsimp only at h2
    cases hk : (k == 8) with
    | true =>
      rw [hk] at hs h2
      dsimp only [cond_true] at hs
      obtain ⟨a, r, rfl, he⟩ := xa_inv hs
      split at he
      · cases he
      · rename_i hr
        cases he
        simp only [cond_true, Bool.and_eq_true] at h2
        exact W.objInit hx hb hown (hts _ (xwd_in h2.1.1)) (hts _ (xwd_in h2.1.2)) (hts _ (xwd_in h2.2)) rfl (hL.1.trans hml.symm) rfl hd hRm.1 (by show 2 * 0 + _ + 12 ≤ _; rw [xCat_map]; omega) (kk _ _ _ _ _ hW hL hS rfl rfl)
    | false => rw [hk] at hs; cases hs
  | _ => cases hs
end XM
