/-! ===== a run of the small machine is a contract of the JVM's method ===== -/
def xPre (g : xG) (ro : xRo) (as : List Value) (h : xH) : Array Value → State → Prop := va_Pc (as.map (xTv g)) (fun U => xW g h U.heap ∧ xK g ro U U.heap)
def xPost (g : xG) (r : xR) : Array Value → State → Outcome → State → Prop := fun _ st o t => o = .returned (r.1.map (xTv g)) ∧ xW g r.2 t.heap ∧ va_F (xA g) st t
def xMet (l : Launch) (g : xG) (ro : xRo) (d : Nat) (M : xMeth) (as : List Value) (h : xH) (r : xR) : Prop :=
  Met l M.1 (Jvm.Cond.code M.1 M.2.1 M.2.2.1 M.2.2.2.1 :: xTb) { frames := d, cells := r.2.1 - h.1, slots := r.2.2.1 - h.2.1, locals := 120 * d } (xPre g ro as h) (xPost g r) (r.2.1 - h.1) (r.2.2.1 - h.2.1) (xA g)
theorem xPre_blind {g : xG} {ro : xRo} {as : List Value} {h : xH} : FrameBlind (xPre g ro as h) := by
  intro a U f mk ⟨h1, h2, h3⟩
  exact ⟨h1, h2, xK.same (u := U) rfl h3⟩
theorem xGoodIn (w : Jvm.Cond) (hw : w ∈ xTb) : GoodIn xTb (w :: xTb) := by
  intro v hv
  have hm : v ∈ xTb := by
    rcases List.mem_cons.mp hv with rfl | h
    · exact hw
    · exact h
  exact ⟨hm, good_of_word (List.mem_filter.mp hm).2⟩
section XC
variable {p : Program} {l : Launch} {e : Env} {R : Room} {s : State} {m : MethodId} {args : Array Value} {below : List Frame} {meth : Method} {c : Code} {H : Heap} {locs : List Loc} {cells slots : Nat} {Q : State → Prop}
variable {g : xG} {ro : xRo} {own mname : String} {cc : ByteArray} {nL pc : Nat} {h h' : xH} {Ls : Array Slot}
theorem xback {mc ms : Nat} {st0 rest : List Value} {a : Array Value} {v : Option Value} (hr : va_Run p l e R s m args below meth c H locs cells slots mc ms (F0 m pc Ls st0) rest (xPost g (v, h') a) (xA g)) (hS : va_S (xA g) s.heap H locs)
    (kk : ∀ (H1 : Heap) (locs1 : List Loc), xW g h' H1 → va_S (xA g) s.heap H1 locs1 → W p l e R s m args below meth c H1 locs1 (cells + mc) (slots + ms) Q (F0 m (pc + 3) Ls ((v.map (xTv g)).toList ++ rest))) : W p l e R s m args below meth c H locs cells slots Q (F0 m pc Ls st0) := by
  intro T hT X
  obtain ⟨v', st₀, t, T', L, h0, X', hL, e1, e2, ⟨q1, q2, q3⟩, st⟩ := hr T hT X
  cases q1
  rw [va_F, h0] at q3
  obtain ⟨t2, a1, b1⟩ := kk T'.heap (locs ++ L) (by rw [e1]; exact q2) ⟨Nat.le_trans hS.1 (by rw [e1]; exact q3.1), fun q z1 z2 => by rw [e1, q3.2 q (Nat.lt_of_lt_of_le z1 hS.1) z2]; exact hS.2.1 q z1 z2, fun q hq => by
      rcases List.mem_append.mp hq with z | z
      · exact hS.2.2 q z
      · exact hL q z⟩ T' rfl X'
  exact ⟨t2, st t2 a1, b1⟩
theorem xcall (X : xCx p s m args meth c g ro own mname cc nL) {d : Nat} (hRf : d + 1 ≤ R.frames) (hRl : 120 * (d + 1) ≤ R.locals) {P : Nat → Option xMeth} {i : xI} {j k : Nat} (hd : decode cc pc = .ok (i.1, i.2.1)) (hlen : (match xLen i.1 with
    | some n => Nat.beq i.2.1 n
    | none => true) = true) (hC : xChkC P own i = true) (hj : xCallee i = some (j, k)) {M : xMeth} (hP : P j = some M) (hcw : Jvm.Cond.code M.1 M.2.1 M.2.2.1 M.2.2.2.1 ∈ xTb) {st : List Value} {v : Option Value} (hk : k ≤ st.length) (hcat : ((st.drop k).map fun v => v.category).sum ≤ 8) (hrc : xRcv i (st.take k).reverse h = true)
    (hM : xMet l g ro d M (st.take k).reverse h (v, h')) (hW : xW g h H) (hLs : Ls.size = nL) (hS : va_S (xA g) s.heap H locs) (hcell : cells + (h'.1 - h.1) ≤ R.cells) (hslot : slots + (h'.2.1 - h.2.1) ≤ R.slots)
    (kk : ∀ (H1 : Heap) (locs1 : List Loc), xW g h' H1 → va_S (xA g) s.heap H1 locs1 → W p l e R s m args below meth c H1 locs1 (cells + (h'.1 - h.1)) (slots + (h'.2.1 - h.2.1)) Q (F0 m (pc + 3) Ls ((v.toList ++ st.drop k).map (xTv g)))) :
    W p l e R s m args below meth c H locs cells slots Q (F0 m pc Ls (st.map (xTv g))) := by
  obtain ⟨hx, hb, hml, hown, hts, hnm, hK⟩ := id X
  have hst : st.map (xTv g) = ((st.take k).reverse.map (xTv g)).reverse ++ (st.drop k).map (xTv g) := by
    rw [← List.map_reverse, List.reverse_reverse, ← List.map_append, List.take_append_drop]
  have hal : ((st.take k).reverse.map (xTv g)).length = k := by rw [List.length_map, List.length_reverse, List.length_take]; omega
  have hr8 : ((st.drop k).map (xTv g) |>.map fun v => v.category).sum ≤ 8 := by rw [xCat_map]; exact hcat
  have hkk : ∀ (H1 : Heap) (locs1 : List Loc), xW g h' H1 → va_S (xA g) s.heap H1 locs1 → W p l e R s m args below meth c H1 locs1 (cells + (h'.1 - h.1)) (slots + (h'.2.1 - h.2.1)) Q (F0 m (pc + 3) Ls ((v.map (xTv g)).toList ++ (st.drop k).map (xTv g))) := by
    intro H1 locs1 w1 w2
    have := kk H1 locs1 w1 w2
    rw [List.map_append] at this
    cases v <;> exact this
  rw [hst]
  generalize (st.take k).reverse = as at *
  generalize st.drop k = rs at *
  unfold xChkC at hC
  rw [hj] at hC
  dsimp only at hC
  rw [hP] at hC
  dsimp only at hC
  simp only [Bool.and_eq_true, decide_eq_true_eq] at hC
  obtain ⟨⟨⟨⟨c1, c2⟩, c3⟩, c5⟩, c6⟩ := hC
  have hmax : M.2.2.1 ≤ 100 := Nat.le_of_ble_eq_true c3
  have hR2 : d + 1 ≤ R.frames ∧ 8 + (M.2.2.1 + 11) + 120 * d ≤ R.locals := ⟨by omega, by omega⟩
  have hPc : ∀ U : State, U.heap = H → s.WarmedH U.vm → xPre g ro as h (as.map (xTv g)).toArray U := by
    intro U hU hWm
    refine ⟨rfl, by rw [hU]; exact hW, ?_⟩
    rw [hU]
    exact (hK.kept (fun q z1 z2 => hS.2.1 q z1 z2)).warm hWm
  have hG := xGoodIn _ hcw
  have nest : ∀ {idx : Nat}, Jvm.Cond.methodLinkNest own idx M.1 "MagpieAccounts" ∈ xNests → va_Nw (.methodLinkNest own idx M.1 "MagpieAccounts") s := fun h => hK.2.1 _ h
  obtain ⟨op, len, A, B, cst, ps⟩ := i
  dsimp only at hd hlen c6
  unfold xRcv at hrc
  dsimp only at hrc
  cases op with
  | invokevirtual idx =>
    obtain rfl : len = 3 := xbeq hlen
    dsimp only at hrc c6
    simp only [Bool.and_eq_true, decide_eq_true_eq] at c6
    obtain ⟨⟨⟨⟨w0, w3⟩, w4⟩, w5⟩, w6⟩ := c6
    split at hrc
    · rename_i a as0
      have hn : (as0.map (xTv g)).length + 1 = k := by rw [← hal]; rfl
      have hpar : (parseMethodDescriptor M.1.desc).map (fun d => d.parameters.length) = some (as0.map (xTv g)).length := by
        cases hp : parseMethodDescriptor M.1.desc with
        | none => rw [hp] at w5; cases w5
        | some q => rw [hp] at w5; have : q.parameters.length + 1 = k := Option.some.inj w5; show some q.parameters.length = _; congr 1; omega
      have hrv : ∃ cell : Cell, H[xad g a]? = some cell ∧ cell.vm.isStatics = false ∧ s.vm.findClass M.1.cls = some cell.cls := by
        split at hrc
        · rename_i c' fs hent
          have hcc := xbeq hrc
          obtain ⟨-, -, hat⟩ := hW.2.2 a _ hent
          rw [xTe_o] at hat
          rw [← hcc] at w6
          split at w6
          · rename_i q hq
            rw [← of_decide_eq_true w6]
            exact va_recv (q0 := 0) hK.1 (xOne hat) hq rfl
          · obtain ⟨r, hr, -⟩ := hat
            rename_i hno
            rw [hno] at hr
            cases hr
        · simp only [Bool.and_eq_true] at hrc
          have h99 := xbeq hrc.2
          rw [h99] at w6
          have w6 : (Nat.beq 99 99 && decide (M.1.cls = "java/lang/String")) = true := w6
          simp only [Bool.and_eq_true, decide_eq_true_eq] at w6
          rw [w6.2]
          obtain ⟨-, -, -, hv, -⟩ := hK.2.2.2.2.2.2
          have h2a : 2 ≤ a := Nat.le_of_ble_eq_true hrc.1.1
          have ha4 : a ≤ 4 := Nat.le_of_ble_eq_true hrc.1.2
          obtain ⟨z1, z2, -⟩ := xstr_at (g := g) h2a ha4
          rw [z2]
          exact vk_recv (adK := fun i => g.2.1 (2 + i)) (i := a - 2) hv z1 hS
      have run := va_runV (e := e) (below := below) (meth := meth) (As := as0.map (xTv g)) (rest := rs.map (xTv g)) (b := xad g a) (cc := cc) (Ts := xTb) (own := own) (C := M.1.cls) (g := F0 m pc Ls ((List.map (xTv g) (Value.ref a :: as0)).reverse ++ rs.map (xTv g))) (locs := locs) (cells := cells) (slots := slots) (n := (as0.map (xTv g)).length)
        ⟨hx, hb, hml, hown, hts⟩ hM ⟨callB_of _ hts hG rfl rfl rfl (hts _ (xwd_in c5)) (hts _ (xwd_in w0)) ⟨c1, c2, hpar⟩ hR2, hts _ (xwd_in w3), hts _ (xwd_in w4)⟩ ⟨xPre_blind, hrv, hPc⟩ rfl rfl hLs (by simp [xTv]) (by show 2 * 0 + _ ≤ 8; omega) hd ⟨hcell, hslot⟩
      exact xback run hS hkk
    · cases hrc
  | invokestatic idx =>
    obtain rfl : len = 3 := xbeq hlen
    dsimp only at c6
    simp only [Bool.and_eq_true, decide_eq_true_eq] at c6
    obtain ⟨⟨w3, w5⟩, w0⟩ := c6
    rw [← hal] at w5
    cases hcst : (cst == 0) with
    | true =>
      rw [hcst] at w0
      have run := va_runS (e := e) (below := below) (meth := meth) (As := as.map (xTv g)) (rest := rs.map (xTv g)) (cc := cc) (Ts := xTb) (own := own) (g := F0 m pc Ls ((as.map (xTv g)).reverse ++ rs.map (xTv g))) (locs := locs) (cells := cells) (slots := slots) (n := (as.map (xTv g)).length)
        ⟨hx, hb, hml, hown, hts⟩ hM ⟨callB_of _ hts hG rfl rfl rfl (hts _ (xwd_in c5)) (hts _ (xwd_in w0)) ⟨c1, c2, w5⟩ hR2, hts _ (xwd_in w3)⟩ ⟨xPre_blind, hPc⟩ rfl rfl hLs rfl (by show 2 * 0 + _ ≤ 8; omega) hd ⟨hcell, hslot⟩
      exact xback run hS hkk
    | false =>
      rw [hcst] at w0
      have run := va_runSN (e := e) (below := below) (meth := meth) (As := as.map (xTv g)) (rest := rs.map (xTv g)) (cc := cc) (Ts := xTb) (own := own) (g := F0 m pc Ls ((as.map (xTv g)).reverse ++ rs.map (xTv g))) (locs := locs) (cells := cells) (slots := slots) (n := (as.map (xTv g)).length)
        ⟨hx, hb, hml, hown, hts⟩ hM ⟨va_cnB _ hts hG rfl rfl rfl (nest (of_decide_eq_true w0)) (hts _ (xwd_in c5)) ⟨c1, c2, w5⟩ hR2, hts _ (xwd_in w3), trivial⟩ ⟨xPre_blind, hPc⟩ rfl rfl hLs rfl (by show 2 * 0 + _ ≤ 8; omega) hd ⟨hcell, hslot⟩
      exact xback run hS hkk
  | invokespecial idx =>
    obtain rfl : len = 3 := xbeq hlen
    dsimp only at hrc c6
    simp only [Bool.and_eq_true, decide_eq_true_eq] at c6
    obtain ⟨⟨⟨w3, w4⟩, w5⟩, w0⟩ := c6
    split at hrc
    · rename_i a as0
      have hn : (as0.map (xTv g)).length + 1 = k := by rw [← hal]; rfl
      have hpar : (parseMethodDescriptor M.1.desc).map (fun d => d.parameters.length) = some (as0.map (xTv g)).length := by
        cases hp : parseMethodDescriptor M.1.desc with
        | none => rw [hp] at w5; cases w5
        | some q => rw [hp] at w5; have : q.parameters.length + 1 = k := Option.some.inj w5; show some q.parameters.length = _; congr 1; omega
      obtain ⟨y, bytes, maxL, ret, code⟩ := M
      obtain ⟨w4, hret⟩ := w4
      dsimp only at hret
      subst hret
      cases hcst : (cst == 0) with
      | true =>
        rw [hcst] at w0
        have run := va_runI (e := e) (below := below) (meth := meth) (As := as0.map (xTv g)) (rest := rs.map (xTv g)) (b := xad g a) (cc := cc) (Ts := xTb) (own := own) (g := F0 m pc Ls ((List.map (xTv g) (Value.ref a :: as0)).reverse ++ rs.map (xTv g))) (locs := locs) (cells := cells) (slots := slots) (n := (as0.map (xTv g)).length)
          ⟨hx, hb, hml, hown, hts⟩ hM ⟨callB_of _ hts hG rfl rfl rfl (hts _ (xwd_in c5)) (hts _ (xwd_in w0)) ⟨c1, c2, hpar⟩ hR2, w4, hts _ (xwd_in w3)⟩ ⟨xPre_blind, hPc⟩ rfl rfl hLs (by simp [xTv]) (by show 2 * 0 + _ ≤ 8; omega) hd ⟨hcell, hslot⟩
        exact xback run hS hkk
      | false =>
        rw [hcst] at w0
        have run := va_runIN (e := e) (below := below) (meth := meth) (As := as0.map (xTv g)) (rest := rs.map (xTv g)) (b := xad g a) (cc := cc) (Ts := xTb) (own := own) (g := F0 m pc Ls ((List.map (xTv g) (Value.ref a :: as0)).reverse ++ rs.map (xTv g))) (locs := locs) (cells := cells) (slots := slots) (n := (as0.map (xTv g)).length)
          ⟨hx, hb, hml, hown, hts⟩ hM ⟨va_cnB _ hts hG rfl rfl rfl (nest (of_decide_eq_true w0)) (hts _ (xwd_in c5)) ⟨c1, c2, hpar⟩ hR2, w4, hts _ (xwd_in w3)⟩ ⟨xPre_blind, hPc⟩ rfl rfl hLs (by simp [xTv]) (by show 2 * 0 + _ ≤ 8; omega) hd ⟨hcell, hslot⟩
        exact xback run hS hkk
    · cases hrc
  | _ => cases c6
end XC
