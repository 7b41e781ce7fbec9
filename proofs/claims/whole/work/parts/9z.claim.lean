theorem L1 : True := trivial
theorem L2 : True := trivial
theorem a1 : True := trivial
theorem b : True := trivial
theorem b1 : True := trivial
theorem b2 : True := trivial
theorem b3 : True := trivial
theorem c : True := trivial
theorem e1 : True := trivial
theorem e2 : True := trivial
theorem eH : True := trivial
theorem go : True := trivial
theorem h : True := trivial
theorem h' : True := trivial
theorem h1 : True := trivial
theorem h2 : True := trivial
theorem h3 : True := trivial
theorem h4 : True := trivial
theorem h5 : True := trivial
theorem h6 : True := trivial
theorem hF : True := trivial
theorem hN : True := trivial
theorem hP : True := trivial
theorem hQ : True := trivial
theorem hX : True := trivial
theorem hall : True := trivial
theorem harr : True := trivial
theorem hb : True := trivial
theorem hbd : True := trivial
theorem hbl : True := trivial
theorem hc : True := trivial
theorem hcb : True := trivial
theorem hd : True := trivial
theorem hev : True := trivial
theorem hgv : True := trivial
theorem hh0 : True := trivial
theorem hk : True := trivial
theorem hkn : True := trivial
theorem hle : True := trivial
theorem hlen : True := trivial
theorem hml : True := trivial
theorem hof : True := trivial
theorem hown : True := trivial
theorem hq : True := trivial
theorem hs : True := trivial
theorem hsm : True := trivial
theorem hsz : True := trivial
theorem hts : True := trivial
theorem hts0 : True := trivial
theorem hv : True := trivial
theorem hval : True := trivial
theorem hw : True := trivial
theorem hx : True := trivial
theorem hz : True := trivial
theorem k : True := trivial
theorem kn : True := trivial
theorem kn2 : True := trivial
theorem l1 : True := trivial
theorem l2 : True := trivial
theorem meth : True := trivial
theorem n : True := trivial
theorem n2 : True := trivial
theorem o : True := trivial
theorem r : True := trivial
theorem scr : True := trivial
theorem t : True := trivial
theorem v : True := trivial
theorem v1 : True := trivial
theorem w : True := trivial
theorem w1 : True := trivial
theorem xs : True := trivial
/-! ===== the run of the law, the claim ===== -/
set_option maxRecDepth 100000 in
theorem zChk_ok : zChk = true := by decide +kernel
theorem yK0_lo : ∀ i, i < 16 → yK0 i = none := by
  intro i hi
  have : (List.range 16).all (fun i => (yK0 i).isNone) = true := by decide +kernel
  have h := List.all_eq_true.mp this i (List.mem_range.mpr hi)
  cases hk : yK0 i with
  | none => rfl
  | some a => rw [hk] at h; cases h
theorem lH_0 : lH 0 [] = (16, 0, fun _ => none) := by
  show (16 + 0, 0, fun j => if j < 16 then none else ([] : List va_E)[j - 16]?) = _
  congr 2
  funext j
  split <;> rfl
theorem zS_get : ∃ (w1 w : Nat) (L1 L2 : List va_E), zEw 12 110 [.ref 16] 11 [.inr (11, xNew 11 11)] = some (none, w1, L1) ∧ L1.length = 249 ∧ zEw 12 195 [.ref 265] (w1 + 32) (L1 ++ [.inr (12, xNew 12 32)]) = some (none, w, L2) ∧ w ≤ 1000000 ∧ L2.length = 265 ∧ shL 16 L2 = true ∧ dAll (ext L2) = true := by
  have h := zChk_ok
  unfold zChk at h
  cases hz : zS0 with
  | none => rw [hz] at h; cases h
  | some a =>
    obtain ⟨v, w, L2⟩ := a
    rw [hz] at h
    dsimp only at h
    obtain ⟨h1, h⟩ := Bool.and_eq_true_iff.mp h
    obtain ⟨h2, h⟩ := Bool.and_eq_true_iff.mp h
    obtain ⟨h3, h⟩ := Bool.and_eq_true_iff.mp h
    obtain ⟨h4, h5⟩ := Bool.and_eq_true_iff.mp h
    cases v with
    | some x => cases h1
    | none =>
      unfold zS0 at hz
      obtain ⟨b, hb, hz⟩ := Option.bind_eq_some_iff.mp hz
      obtain ⟨v1, w1, L1⟩ := b
      cases hc : (Nat.beq L1.length 249 && (match v1 with
        | none => true
        | _ => false)) with
      | false => rw [hc] at hz; cases hz
      | true =>
        rw [hc] at hz
        have hc := Bool.and_eq_true_iff.mp hc
        cases v1 with
        | some x => cases hc.2
        | none => exact ⟨w1, w, L1, L2, hb, xbeq hc.1, hz, Nat.le_of_ble_eq_true h2, xbeq h3, h4, h5⟩
set_option maxRecDepth 4000 in
theorem xlaw : xLawRuns := by
  intro L xs F hL
  obtain ⟨w1, w, L1, L2, e1, l1, e2, hw, l2, hs, hd⟩ := zS_get
  have eH := ext_H (w := w) l2 hs yK0_lo
  obtain ⟨r, ⟨h', rfl, b1, b2⟩, n, kn⟩ := law_loop (xs := xs) (F := F) hL 513 0 (fun _ => none) (281, w) (ext L2) (by omega) (by omega) (dAll_Rel hd) (Nat.le_refl _) (fun _ _ => rfl)
  have go : Rx (xRoL L xs F) xNo 690 mL_law 0 [(0, .ref 0)] [] (lH 0 []) (some (.int 1), h') := by
    refine rx_step (pc' := 3) (ls' := [(0, .ref 0)]) (st' := [.ref 16]) (h' := lH 11 [.inr (11, xNew 11 11)]) rfl ?_ ?_
    · show some (3, [(0, Value.ref 0)], [Value.ref (16 + 0)], xNw (lH 0 []) 11 (.inr (11, xNew 11 11))) = _
      rw [lH_nw]
      rfl
    refine rx_step rfl rfl ?_
    refine rx_call rfl rfl rfl rfl rfl (xEv_le (by decide) (zEw_x 12 110 [.ref 16] 11 _ none w1 L1 e1)) ?_
    refine rx_step rfl rfl ?_
    refine rx_step (pc' := 11) (ls' := [(1, .ref 16), (0, .ref 0)]) (st' := [.ref 265]) (h' := lH (w1 + 32) (L1 ++ [.inr (12, xNew 12 32)])) rfl ?_ ?_
    · show some (11, [(1, Value.ref 16), (0, Value.ref 0)], [Value.ref (16 + L1.length)], xNw (lH w1 L1) 32 (.inr (12, xNew 12 32))) = _
      rw [lH_nw, l1]
    refine rx_step rfl rfl ?_
    refine rx_call rfl rfl rfl rfl rfl (xEv_le (by decide) (zEw_x 12 195 [.ref 265] (w1 + 32) _ none w L2 e2)) ?_
    refine rx_step rfl rfl ?_
    refine rx_step rfl rfl ?_
    refine rx_step rfl rfl ?_
    rw [eH]
    exact ⟨n, kn⟩
  obtain ⟨n2, kn2⟩ := go
  rw [lH_0] at kn2
  have b1 : h'.1 ≤ 281 + 6 * 513 := b1
  have b2 : h'.2.1 ≤ w + 681 * 513 := b2
  exact ⟨n2, h', kn2, by omega, by omega⟩
theorem whole_start {p : Program} {e : Env} {s : State} {m : MethodId} {below : List Frame} {meth : Method} {c : Code} (l : Launch) (hflags : l.flags = flags0) {b L : Nat} {xs : Nat → Int32} (hL : L ≤ 3072) (C0 : lw_At p s m meth c b L xs) : W p l e room_1 s m #[Value.ref b] below meth c s.heap [] 0 0 (lw_Z below #[Value.ref b] s) (entryFrame m ([Value.ref b] : List Value).toArray 4) := by
  exact xstart xlaw l hL C0
set_option maxHeartbeats 4000000 in
theorem lw_walk (l : Launch) (hflags : l.flags = flags0) (b : Addr) (xs : List Int32) : MetFree l x (headSpec (Jvm.Cond.code x code maxLocals ret :: tables_1) room_1) (lw_P b xs) (fun _ _ _ _ _ => True) lw_Q := by
  refine MetFree.of_bodyS (code := code) (maxLocals := maxLocals) (ret := ret) (by decide) ?_ ?_
  · intro args s m h hn
    obtain ⟨meth, c, h1, h2, h3, h4, h5, h6, -, -⟩ := Cond.code_spec hn (atoms_spec (ws := Jvm.Cond.code x code maxLocals ret :: tables_1) h _ List.mem_cons_self)
    exact ⟨meth, c, h1, h2, h3, h4, h5, h6⟩
  · intro p e s m args below meth c s₁ B hml0 hP _
    obtain ⟨rfl, hx, hbd, hgv⟩ := hP
    obtain ⟨scr, harrAt, hlist, hof, hsmall⟩ := hx
    obtain ⟨hcb, hkn, -, -⟩ := State.arrayAt?_spec harrAt
    have hown : s.vm.findClass R_law = some m.cls := findClass_of_methodNamed B.named
    have hts0 : ∀ c ∈ (Jvm.Cond.code x code maxLocals ret :: tables_1), c.before #[Value.ref b] s = true := atoms_spec (ws := Jvm.Cond.code x code maxLocals ret :: tables_1) B.pre
    have hts : ∀ w ∈ lw_tbl, w.before #[Value.ref b] s = true := k2_hts_sels lw_privs (fun w hw => hts0 w (List.mem_cons_of_mem _ hw)) lw_privs_ok
    have hml : c.maxLocals = 4 := B.maxLocals_eq (hts0 _ List.mem_cons_self)
    have X₀ : Stand p l e room_1 s m #[Value.ref b] below meth c s₁ [] 0 0 := Stand.of_body B
    have hh0 : s₁.heap = s.heap := by rw [B.state]; rfl
    have hsz : scr.slots.size = xs.length := by rw [← Array.length_toList, hlist, List.length_map]
    have hval : ∀ j : Nat, j < xs.length → scr.slots[j]? = some (.int (xs.getD j 0)) := fun j hj => by
      rw [← Array.getElem?_toList, hlist]
      simp [hj]
    have hbl : b < s.heap.size := (Array.getElem?_eq_some_iff.mp hcb).1
    have hX : va_X b xs.length (fun j => xs.getD j 0) s s.heap := ⟨scr, hcb, hof, hkn, hsz, hval⟩
    have K : W p l e room_1 s m #[Value.ref b] below meth c s₁.heap [] 0 0 (lw_Z below #[Value.ref b] s) (entryFrame m ([Value.ref b] : List Value).toArray 4) := by
      rw [hh0]
      exact whole_start l hflags hbd ⟨B.exec, B.bytes, B.returns, hml, hown, hts, hX, hbl, B.notSynchronized, hgv⟩
    obtain ⟨t, a1, o, b1, b2, b3⟩ := K s₁ rfl X₀
    exact ⟨t, o, a1, b1, b2, b3⟩
theorem lw_pre_spec {args : Array Value} {s : State} (h : (Jvm.Cond.and given_1 narrow_1).before args s = true) (hr : rest_1_c.before args s = true) : ∃ (b : Addr) (xs : List Int32), lw_P b xs args s := by
  have hs := flat_of_before _ h
  have hq := flat_of_before _ hr
  have hc : (Cond.count 1).before args s = true := hs _ (by decide +kernel)
  have harr : (Cond.arrayOf (.arg 0) .int).before args s = true := hs _ (by decide +kernel)
  have hle : (Cond.le (.length (.arg 0)) (.int 3072)).before args s = true := hs _ (by decide +kernel)
  have hlen : (Cond.isInt (.length (.arg 0))).before args s = true := hq _ (by decide +kernel)
  have hall : (Cond.all (.arg 0) (.isInt (.elem (.arg 0) (.index 0)))).before args s = true := hq _ (by decide +kernel)
  obtain ⟨b, xs, hb, hx⟩ := State.ints_of_pre rfl harr hlen hall
  have hsm : xs.length < 2 ^ 31 := hx.choose_spec.2.2.2
  have hev : (Term.length (.arg 0)).eval args s none [] s = some (.int xs.length.toInt32) := hx.length_eval hb
  have hv := Cond.le_ints hev (show (Term.int 3072).eval args s none [] s = some (.int 3072) from rfl)
  have hd : xs.length.toInt32 ≤ 3072 := by
    simpa [Cond.before, Cond.holds, hv] using hle
  have hN : xs.length ≤ 3072 := (Int32.ofNat_le_ofNat hsm (by decide)).mp (show Int32.ofNat xs.length ≤ Int32.ofNat 3072 from hd)
  exact ⟨b, xs, Cond.one_arg hc (show args[0]? = some (.ref b) from hb), hx, hN, h⟩
theorem lw_comes (l : Launch) (hflags : l.flags = flags0) : Comes l x (Jvm.Cond.code x code maxLocals ret :: tables_1) room_1 (fun tb e args s => Calls_1 tb e args s ∧ rest_1 tb e args s ∧ Pre_1 tb e args s)
    (fun _ _ args s o t => lw_Q args s o t) := by
  intro p e ha hc hk s m args below hf hfit hheap happ hpre
  obtain ⟨b, xs, hP⟩ := lw_pre_spec hpre.2.2 hpre.2.1
  obtain ⟨k, o, h1, h2, h3, hQ⟩ := lw_walk l hflags b xs p e ha hc hk s m args below hf ((Spec.applies_iff_loose hf).mp happ).1 hP trivial
  exact ⟨k, o, h1, h2, h3, hQ⟩
theorem lw_frame {s t : State} {o : Outcome} {args : Array Value} (h : Framed s o t [] 600000 7302250) :
    Framed s o t (fieldLocs frame_1_writes args s ++ arrayLocs frame_1_arrays args s ++ staticLocs frame_1_statics s) 600000 7302250 := h
theorem lw_limb (L : Cond) (hL : ∀ (args : Array Value) (s t : State), L.after args s (.returned (some (.int 1))) t = true) :
    ArmFor flags0 classFile x code maxLocals ret World_1 tables_1 room_1 Calls_1 rest_1 Pre_1
      (fun tb e a s o t => postC L tb e a s o t ∧ Framed s o t (fieldLocs frame_1_writes a s ++ arrayLocs frame_1_arrays a s ++ staticLocs frame_1_statics s) 600000 7302250) := by
  intro l hflags _ _ p e ha hc hk s m args below hf hfit hheap happ hpre
  obtain ⟨k, o, h1, h2, h3, rfl, hF⟩ := lw_comes l hflags p e ha hc hk s m args below hf hfit hheap happ hpre
  exact ⟨k, _, h1, h2, h3, hL args s _, lw_frame hF⟩
theorem i_vc : Claimed_1_1 ∧ Claimed_1_2 := ⟨lw_limb limb_1_1 (fun args s t => by simp [limb_1_1, Cond.after, Cond.holds, Cond.value]), lw_limb limb_1_2 (fun args s t => Cond.after_iff.mpr (by
  first | (rw [show limb_1_2 = Cond.eq .result (.int 1) from rfl, Cond.eq_ints (x := 1) (y := 1) rfl rfl]; simp; done) | (simp [limb_1_2, Cond.value, Term.eval]; done)))⟩
