/-! ===== every run of a checked program is a contract ===== -/
theorem xargs_map (g : xG) : ∀ (as : List Value) (k : Nat), xTl g (lv_args k as) = lv_args k (as.map (xTv g))
  | [], _ => rfl
  | v :: as, k => by
    show (k, xTv g v) :: xTl g (lv_args _ as) = (k, xTv g v) :: lv_args _ (as.map (xTv g))
    rw [xargs_map g as, xTv_cat]
theorem xsl_map (g : xG) (as : List Value) : (lg_sl (as.map (xTv g))).length = (lg_sl as).length := by
  unfold lg_sl
  induction as with
  | nil => rfl
  | cons v as ih =>
    rw [List.map_cons, List.flatMap_cons, List.flatMap_cons, List.length_append, List.length_append, ih, xTv_cat]
    congr 1
    split <;> rfl
theorem xAt_mem {c : xC} {pc : Nat} {i : xI} (h : xAt c pc = some i) : ∃ l ∈ c, (pc, i) ∈ l := by
  unfold xAt at h
  split at h
  · cases h
  · rename_i l hl
    exact ⟨l, List.mem_of_getElem? hl, xFind_mem h⟩
section XV
variable {p : Program} {l : Launch} {e : Env} {R : Room} {s : State} {m : MethodId} {args : Array Value} {below : List Frame} {meth : Method} {c : Code}
variable {g : xG} {ro : xRo} {own mname : String} {cc : ByteArray} {nL : Nat} {Ls : Array Slot}
set_option maxHeartbeats 4000000 in
theorem xrun_gen (X : xCx p s m args meth c g ro own mname cc nL) {d : Nat} (hRf : d + 1 ≤ R.frames) (hRl : 120 * (d + 1) ≤ R.locals) {K1 K2 : Nat} (hK1 : K1 ≤ R.cells) (hK2 : K2 ≤ R.slots) {Q : State → Prop} {P : Nat → Option xMeth} {E : Nat → List Value → xH → xR → Prop} {ret : Option FieldType} {code : xC}
    (hE : ∀ j as h r, E j as h r → xLe h r ∧ ∀ M, P j = some M → xMet l g ro d M as h r) (hck : ∀ l ∈ code, ∀ q ∈ l, xChk own mname cc nL q.1 q.2 = true ∧ xChkC P own q.2 = true) (hcw : ∀ j M, P j = some M → Jvm.Cond.code M.1 M.2.1 M.2.2.1 M.2.2.2.1 ∈ xTb) {r : xR} (hfin : ∀ (pc : Nat) (i : xI) (st : List Value) (H : Heap) (locs : List Loc) (cells slots : Nat) (Ls : Array Slot), decode cc pc = .ok (i.1, i.2.1) → (match xLen i.1 with
    | some n => Nat.beq i.2.1 n
    | none => true) = true → xRetV ret i.1 st = some r.1 → xW g r.2 H → va_S (xA g) s.heap H locs → cells = K1 → slots = K2 → W p l e R s m args below meth c H locs cells slots Q (F0 m pc Ls (st.map (xTv g)))) :
    ∀ (n pc : Nat) (ls : xL) (st : List Value) (h : xH), xRun ro E ret code n pc ls st h r → ∀ (H : Heap) (locs : List Loc) (cells slots : Nat) (Ls : Array Slot), xW g h H → lv_has Ls nL (xTl g ls) → va_S (xA g) s.heap H locs → cells + r.2.1 = K1 + h.1 → slots + r.2.2.1 = K2 + h.2.1 →
      W p l e R s m args below meth c H locs cells slots Q (F0 m pc Ls (st.map (xTv g))) := by
  intro n
  induction n with
  | zero => intro pc ls st h hr; cases hr
  | succ n ih =>
    intro pc ls st h hr H locs cells slots Ls hW hL hS hc1 hc2
    obtain ⟨i, hi, hr⟩ := hr
    obtain ⟨lst, hl1, hl2⟩ := xAt_mem hi
    obtain ⟨k1, k2⟩ := hck lst hl1 _ hl2
    dsimp only at k1 k2
    have hEm : ∀ j as h r, E j as h r → xLe h r := fun j as h r q => (hE j as h r q).1
    rcases hr with ⟨pc', ls', st', h', hs, hr⟩ | ⟨j, k, v, h', hj, hk, hcat, hrc, he, hr⟩ | ⟨v, hv, hrv⟩
    · have hm := xRun_mono hEm _ _ _ _ _ _ hr
      have hm2 := xStep_mono _ hs
      unfold xLe at hm
      dsimp only at hm2
      refine xmain X ⟨by omega, by omega⟩ k1 hs hW hL hS (by omega) (by omega) fun H1 locs1 Ls1 cells1 slots1 w1 w2 w3 w4 w5 => ?_
      exact ih _ _ _ _ hr H1 locs1 cells1 slots1 Ls1 w1 w2 w3 (by omega) (by omega)
    · have hm := xRun_mono hEm _ _ _ _ _ _ hr
      obtain ⟨hle, hmet⟩ := hE _ _ _ _ he
      unfold xLe at hm hle
      dsimp only at hle
      have kd := k1
      unfold xChk at kd
      simp only [Bool.and_eq_true, decide_eq_true_eq] at kd
      obtain ⟨M, hP⟩ : ∃ M, P j = some M := by
        cases hP : P j with
        | some M => exact ⟨M, rfl⟩
        | none => unfold xChkC at k2; rw [hj] at k2; dsimp only at k2; rw [hP] at k2; cases k2
      refine xcall X hRf hRl kd.1.1 kd.1.2 k2 hj hP (hcw j M hP) hk hcat hrc (hmet M hP) hW hL.1 hS (by omega) (by omega) fun H1 locs1 w1 w2 => ?_
      exact ih _ _ _ _ hr H1 locs1 _ _ Ls w1 hL w2 (by omega) (by omega)
    · subst hrv
      have kd := k1
      unfold xChk at kd
      simp only [Bool.and_eq_true, decide_eq_true_eq] at kd
      exact hfin pc i st H locs cells slots Ls kd.1.1 kd.1.2 hv hW hS (by dsimp only at hc1; omega) (by dsimp only at hc2; omega)
set_option maxHeartbeats 4000000 in
theorem xret_sound (X : xCx p s m args meth c g ro own mname cc nL) {ret : Option FieldType} (hret : meth.sig.returnType = ret) (hlocks : meth.locks = false) {r : xR} {pc : Nat} {i : xI} {st : List Value} {H : Heap} {locs : List Loc} {cells slots : Nat} {Ls : Array Slot} (hd : decode cc pc = .ok (i.1, i.2.1)) (hlen : (match xLen i.1 with
    | some n => Nat.beq i.2.1 n
    | none => true) = true) (hv : xRetV ret i.1 st = some r.1) (hW : xW g r.2 H) (hS : va_S (xA g) s.heap H locs) : W p l e R s m args below meth c H locs cells slots (MQ below (xPost g r) args s cells slots (xA g)) (F0 m pc Ls (st.map (xTv g))) := by
  obtain ⟨hx, hb, hml, hown, hts, hnm, hK⟩ := X
  obtain ⟨v, h⟩ := r
  obtain ⟨op, len, A, B, k, ps⟩ := i
  dsimp only at hd hlen hv hW
  have hq : ∀ t : State, t.heap = H → s.WarmedH t.vm → ∀ o, o = Outcome.returned (v.map (xTv g)) → xPost g (v, h) args s o t := fun t ht _ o ho => ⟨ho, by rw [ht]; exact hW, hS.F ht⟩
  unfold xRetV at hv
  cases op with
  | ireturn =>
    obtain rfl : len = 1 := xbeq hlen
    dsimp only at hv
    split at hv
    · rename_i x
      split at hv
      · cases hv
        exact W.iret hx hb hret (fun t ht hw => hq t ht hw _ rfl) hS.2.2 hd hlocks
      · split at hv
        · rename_i h01
          cases hv
          exact W.zret (ty := .boolean) hx hb hret (by rcases h01 with rfl | rfl <;> rfl) (fun t ht hw => hq t ht hw _ rfl) hS.2.2 hd hlocks
        · cases hv
      · split at hv
        · rename_i h01
          cases hv
          exact W.zret (ty := .char) hx hb hret h01 (fun t ht hw => hq t ht hw _ rfl) hS.2.2 hd hlocks
        · cases hv
      · split at hv
        · rename_i h01
          cases hv
          exact W.zret (ty := .byte) hx hb hret h01 (fun t ht hw => hq t ht hw _ rfl) hS.2.2 hd hlocks
        · cases hv
      · cases hv
    · cases hv
  | lreturn =>
    obtain rfl : len = 1 := xbeq hlen
    dsimp only at hv
    split at hv
    · rename_i x
      split at hv
      · cases hv
        exact W.lret hx hb hret (fun t ht hw => hq t ht hw _ rfl) hS.2.2 hd hlocks
      · cases hv
    · cases hv
  | areturn =>
    obtain rfl : len = 1 := xbeq hlen
    dsimp only at hv
    split at hv
    · rename_i x
      split at hv
      · cases hv
        exact W.aret hx hb hret (Or.inl ⟨_, rfl⟩) (Or.inr ⟨_, rfl⟩) (fun t ht hw => hq t ht hw _ rfl) hS.2.2 hd hlocks
      · cases hv
        exact W.aret hx hb hret (Or.inr ⟨_, rfl⟩) (Or.inr ⟨_, rfl⟩) (fun t ht hw => hq t ht hw _ rfl) hS.2.2 hd hlocks
      · cases hv
    · split at hv
      · cases hv
        exact W.aret hx hb hret (Or.inl ⟨_, rfl⟩) (Or.inl rfl) (fun t ht hw => hq t ht hw _ rfl) hS.2.2 hd hlocks
      · cases hv
        exact W.aret hx hb hret (Or.inr ⟨_, rfl⟩) (Or.inl rfl) (fun t ht hw => hq t ht hw _ rfl) hS.2.2 hd hlocks
      · cases hv
    · cases hv
  | return_ =>
    obtain rfl : len = 1 := xbeq hlen
    dsimp only at hv
    split at hv
    · split at hv
      · cases hv
        exact W.vret hx hb hret (fun t ht hw => hq t ht hw _ rfl) hS.2.2 hd hlocks
      · cases hv
    · cases hv
  | _ => cases hv
theorem xev_sound {P : Nat → Option xMeth} {B : Nat → List Value → xH → xR → Prop} (hB : ∀ j as h r, B j as h r → xLe h r ∧ ∀ d M, 10 ≤ d → P j = some M → xMet l g ro (d + 1) M as h r) (hP : ∀ j M, P j = some M → M.2.2.2.2 ≠ [] → xChkM P M = true) (hcw : ∀ j M, P j = some M → Jvm.Cond.code M.1 M.2.1 M.2.2.1 M.2.2.2.1 ∈ xTb) :
    ∀ (d j : Nat) (as : List Value) (h : xH) (r : xR), xEv ro P B d j as h r → xLe h r ∧ ∀ M, P j = some M → xMet l g ro d M as h r := by
  intro d
  induction d with
  | zero => intro j as h r hr; cases hr
  | succ d ih =>
    intro j as h r hr
    refine ⟨xEv_mono (fun j as h r q => (hB j as h r q).1) _ _ _ _ _ hr, fun M hM => ?_⟩
    rcases hr with ⟨hd, hr⟩ | ⟨M', n, hM', hsl, hr⟩
    · exact (hB j as h r hr).2 d M hd hM
    · cases hM.symm.trans hM'
      have hne : M.2.2.2.2 ≠ [] := by
        intro h0
        rw [h0] at hr
        cases n with
        | zero => cases hr
        | succ n => obtain ⟨i, hi, -⟩ := hr; cases hi
      have hck := hP j M hM hne
      unfold xChkM at hck
      simp only [Bool.and_eq_true, decide_eq_true_eq, List.all_eq_true] at hck
      obtain ⟨hpl, hck⟩ := hck
      have hle := xEv_mono (fun j as h r q => (hB j as h r q).1) (d + 1) j as h r (Or.inr ⟨M, n, hM, hsl, hr⟩)
      unfold xLe at hle
      unfold xMet
      refine Met.ofW (cc := M.2.1) (maxL := M.2.2.1) (ret := M.2.2.2.1) hpl rfl ?_
      intro p e s m args below meth c s₁ B0 hml hv
      obtain ⟨rfl, hW, hK⟩ := hv
      have hts := atoms_spec (ws := Jvm.Cond.code M.1 M.2.1 M.2.2.1 M.2.2.2.1 :: xTb) B0.pre
      have X : xCx p s m (as.map (xTv g)).toArray meth c g ro M.1.cls M.1.name M.2.1 M.2.2.1 := ⟨B0.exec, B0.bytes, hml, findClass_of_methodNamed B0.named, fun w hw => hts w (List.mem_cons_of_mem _ hw), fun hq => (name_of_methodNamed B0.named B0.method).1.trans hq, hK⟩
      have hl := lv_entry (as.map (xTv g)) (n := M.2.2.1) (by rw [xsl_map]; exact Nat.le_of_ble_eq_true hsl)
      rw [lg_entry_eq]
      rw [← xargs_map] at hl
      exact xrun_gen (R := { frames := d + 1, cells := r.2.1 - h.1, slots := r.2.2.1 - h.2.1, locals := 120 * (d + 1) }) X (Nat.le_refl _) (Nat.le_refl _) (K1 := r.2.1 - h.1) (K2 := r.2.2.1 - h.2.1) (Nat.le_refl _) (Nat.le_refl _) (fun j as h r q => ih j as h r q) (fun l hl q hq => hck l hl q hq) hcw
        (fun pc i st H locs cells slots Ls z1 z2 z3 z4 z5 z6 z7 => by subst z6; subst z7; exact xret_sound X B0.returns B0.notSynchronized z1 z2 z3 z4 z5) n 0 _ [] h hr s.heap [] 0 0 _ hW hl va_S.rf (by omega) (by omega)
end XV
