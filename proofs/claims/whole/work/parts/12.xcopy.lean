/-! ===== arraycopy, and all plain instructions together ===== -/
section XB
variable {p : Program} {l : Launch} {e : Env} {R : Room} {s : State} {m : MethodId} {args : Array Value} {below : List Frame} {meth : Method} {c : Code} {H : Heap} {locs : List Loc} {cells slots : Nat} {Q : State → Prop}
variable {g : xG} {ro : xRo} {own mname : String} {cc : ByteArray} {nL pc : Nat} {h : xH} {Ls : Array Slot} {rest : List Value} {a : Nat}
theorem xcopy (X : xCx p s m args meth c g ro own mname cc nL) (hW : xW g h H) (hS : va_S (xA g) s.heap H locs) (hLs : Ls.size = nL) {idx a0 n0 n1 : Nat} {f f1 : Nat → Int32} (ha0 : h.2.2 a0 = some (.inl (0, n0, .inl f))) (ha1 : h.2.2 a = some (.inl (0, n1, .inl f1)))
    (w0 : Jvm.Cond.methodLink own idx arraycopyName ∈ xTb) (w1 : Jvm.Cond.native arraycopyName ∈ xTb) (w2 : Jvm.Cond.static arraycopyName ∈ xTb) (w3 : Jvm.Cond.initialized "java/lang/System" ∈ xTb)
    {sp dp n : Int32} (h1 : ¬ sp < 0) (h2 : ¬ dp < 0) (h3 : ¬ n < 0) (h4 : sp.toNatClampNeg + n.toNatClampNeg ≤ n0) (h5 : dp.toNatClampNeg + n.toNatClampNeg ≤ n1) (hframes : 1 ≤ R.frames) (hlocals : (rest.map fun v => v.category).sum + (nativeFrameWords "java/lang/System" "arraycopy" 5 + 11) ≤ R.locals) (hdg : decode cc pc = .ok (.invokestatic idx, 3))
    (kk : ∀ (H1 : Heap) (locs1 : List Loc), xW g (xUp h a (.inl (0, n1, .inl (va_cpy f f1 sp.toNatClampNeg dp.toNatClampNeg n.toNatClampNeg)))) H1 → va_S (xA g) s.heap H1 locs1 → W p l e R s m args below meth c H1 locs1 cells slots Q (F0 m (pc + 3) Ls rest)) : W p l e R s m args below meth c H locs cells slots Q (F0 m pc Ls (.int n :: .int dp :: .ref (xad g a) :: .int sp :: .ref (xad g a0) :: rest)) := by
  obtain ⟨hx, hb, hml, hown, hts, hnm, hK⟩ := X
  obtain ⟨-, -, hat0⟩ := hW.2.2 a0 _ ha0
  obtain ⟨i16, ilt, hat1⟩ := hW.2.2 a _ ha1
  have nn : ∀ z : Int32, ¬ z < 0 → z.toInt = (z.toNatClampNeg : Int) := by
    intro z hz
    have hz0 : (0 : Int) ≤ z.toInt := by
      have := Int32.not_lt.mp hz
      simpa using Int32.le_iff_toInt_le.mp this
    show z.toInt = ((z.toInt.toNat : Nat) : Int)
    omega
  intro T hT X
  have hc0 : H[xad g a0]? = some (vp_cell (g.2.2.1 0) (n0, .inl f)) := hat0
  have hc1 : H[xad g a]? = some (vp_cell (g.2.2.1 0) (n1, .inl f1)) := hat1
  have ht : (xTys g)[0]? = some (g.2.2.1 0, .int) := rfl
  obtain ⟨-, k0, hk0, cm0, hkk0⟩ := (hK.1.2 0 _ ht).1 n0 (fun j => .int (f j))
  obtain ⟨-, k1, hk1, cm1, hkk1⟩ := (hK.1.2 0 _ ht).1 n1 (fun j => .int (f1 j))
  obtain ⟨vm', X', step⟩ := X.arraycopy hx hown (hts _ w0) (hts _ w1) (hts _ w2) (hts _ w3) (src := xad g a0) (dst := xad g a) (cs := vp_cell (g.2.2.1 0) (n0, .inl f)) (cd := vp_cell (g.2.2.1 0) (n1, .inl f1)) (srcPos := sp) (destPos := dp) (n := n) (by rw [hT]; exact hc0) (by rw [hT]; exact hc1)
    (fun _ h => by cases h) (fun _ h => by cases h) (fun h => by cases h) (fun h => by cases h) hk0 hk1 hkk0 hkk1 (by simp [refKind]) h1 h2 h3
    (by rw [nn sp h1, nn n h3]; show ¬ _ > ((arrV (g.2.2.1 0) n0 (fun j => .int (f j))).slots.size : Int); rw [arrV_size]; omega)
    (by rw [nn dp h2, nn n h3]; show ¬ _ > ((arrV (g.2.2.1 0) n1 (fun j => .int (f1 j))).slots.size : Int); rw [arrV_size]; omega)
    (fun vm₁ _ i hi => by
      have e : (vp_cell (g.2.2.1 0) (n0, .inl f)).slots.getD (sp.toNatClampNeg + i) .null = .int (f (sp.toNatClampNeg + i)) := by
        show (arrV (g.2.2.1 0) n0 (fun j => .int (f j))).slots.getD _ _ = _
        rw [Array.getD_eq_getD_getElem?, arrV_read _ _ (by omega)]
        rfl
      refine ⟨?_, ?_⟩
      · rw [e]
        rfl
      · rw [e]
        exact trivial)
    (g := F0 m pc Ls (.int n :: .int dp :: .ref (xad g a) :: .int sp :: .ref (xad g a0) :: rest)) rfl (by rw [hml]; exact hLs) (rest := rest) rfl (by rw [hb]; exact hdg) hframes (by show 2 * 0 + _ + _ ≤ _; omega)
  have e1 : copied (vp_cell (g.2.2.1 0) (n0, .inl f)) (vp_cell (g.2.2.1 0) (n1, .inl f1)) sp dp n = vp_cell (g.2.2.1 0) (n1, .inl (va_cpy f f1 sp.toNatClampNeg dp.toNatClampNeg n.toNatClampNeg)) := va_copied (fun z => .int z) _ _ f f1 h4
  rw [e1] at X' step
  generalize hce : vp_cell (g.2.2.1 0) (n1, .inl (va_cpy f f1 sp.toNatClampNeg dp.toNatClampNeg n.toNatClampNeg)) = ce at X' step
  have hl : xad g a < H.size := (Array.getElem?_eq_some_iff.mp hc1).1
  have hheap : ((T.setVm vm').setCell (xad g a) ce).heap = H.setIfInBounds (xad g a) ce := by rw [← hT]; rfl
  have oq : ∀ q : Nat, q ≠ xad g a → (H.setIfInBounds (xad g a) ce)[q]? = H[q]? := fun q hq => by simp [Array.getElem?_setIfInBounds, Ne.symm hq]
  obtain ⟨t, a1, b1⟩ := kk _ _ (hW.up i16 ilt (by simp) oq (show (H.setIfInBounds (xad g a) ce)[xad g a]? = some _ by rw [← hce]; simp [Array.getElem?_setIfInBounds, hl])) ⟨by simp; exact hS.1, fun q g1 g2 => by
      rw [oq q (fun e => g2 (by rw [e]; exact xad_A i16))]
      exact hS.2.1 q g1 g2, fun q hq => by
      rcases List.mem_append.mp hq with h | h
      · exact hS.2.2 q h
      · obtain ⟨z, -, hz⟩ := List.mem_map.mp h
        rw [← hz]
        exact xad_A i16⟩ _ hheap X'
  exact ⟨t, step t a1, b1⟩
theorem xclone (X : xCx p s m args meth c g ro own mname cc nL) (hW : xW g h H) (hS : va_S (xA g) s.heap H locs) (hLs : Ls.size = nL) {idx n : Nat} {f : Nat → Int32} (ha : h.2.2 a = some (.inl (0, n, .inl f)))
    (w0 : Jvm.Cond.methodLink own idx ⟨"[I", "clone", "()Ljava/lang/Object;"⟩ ∈ xTb) (w1 : Jvm.Cond.sameMethod "[I" "java/lang/Object" "clone" "()Ljava/lang/Object;" ∈ xTb) (w2 : Jvm.Cond.native ⟨"java/lang/Object", "clone", "()Ljava/lang/Object;"⟩ ∈ xTb) (w3 : Jvm.Cond.instanceMethod ⟨"java/lang/Object", "clone", "()Ljava/lang/Object;"⟩ ∈ xTb)
    (w4 : Jvm.Cond.selects "[I" ⟨"[I", "clone", "()Ljava/lang/Object;"⟩ ⟨"java/lang/Object", "clone", "()Ljava/lang/Object;"⟩ ∈ xTb)
    (hframes : 1 ≤ R.frames) (hlocals : (rest.map fun v => v.category).sum + 14 ≤ R.locals) (hcells : cells + 1 ≤ R.cells) (hslots : slots + n ≤ R.slots) (hdg : decode cc pc = .ok (.invokevirtual idx, 3))
    (kk : ∀ H1 : Heap, xW g (xNw h n (.inl (0, n, .inl f))) H1 → va_S (xA g) s.heap H1 locs → W p l e R s m args below meth c H1 locs (cells + 1) (slots + n) Q (F0 m (pc + 3) Ls (.ref (xad g h.1) :: rest))) : W p l e R s m args below meth c H locs cells slots Q (F0 m pc Ls (.ref (xad g a) :: rest)) := by
  obtain ⟨hx, hb, hml, hown, hts, hnm, hK⟩ := X
  obtain ⟨-, -, hat⟩ := hW.2.2 a _ ha
  have hc0 : H[xad g a]? = some (vp_cell (g.2.2.1 0) (n, .inl f)) := hat
  have ht : (xTys g)[0]? = some (g.2.2.1 0, .int) := rfl
  have hnmA : s.vm.findClass "[I" = some (g.2.2.1 0) := (hK.1.2 0 _ ht).2
  have hsz : (vp_cell (g.2.2.1 0) (n, .inl f)).slots.size = n := arrV_size _ _ _
  obtain ⟨c0, t0', f1, f2, f3⟩ := Cond.castable_spec (va_Nw.use (A := args) rfl hK.2.2.2.2.2.2.2.2.2.2.2.2)
  cases hnmA.symm.trans f1
  intro T hT X
  have hcellT : T.heap[xad g a]? = some (vp_cell (g.2.2.1 0) (n, .inl f)) := by rw [hT]; exact hc0
  obtain ⟨-, kA, hkA, comp, hkind⟩ := State.isArrayOf_alike X.warmed.alike ((hK.1.2 0 _ ht).1 0 (fun _ => .null))
  obtain ⟨-, kS, hkS, compS, hkindS⟩ := (hK.1.2 0 _ ht).1 0 (fun _ => .null)
  obtain ⟨vm', X', st⟩ := X.cloneArray hx hown (hts _ w0) (hts _ w1) (hts _ w2) (hts _ w3) (hts _ w4) (a := xad g a) (cell := vp_cell (g.2.2.1 0) (n, .inl f)) hcellT (fun k h => by cases h) (fun h => by cases h) hnmA f2 f3
    (fun i v hv => by
      have hk' : T.vm.classes[g.2.2.1 0]? = some kA := hkA
      have hv2 : (arrV (g.2.2.1 0) n (fun j => Value.int (f j))).slots[i]? = some v := hv
      have hi : i < n := by
        have := (Array.getElem?_eq_some_iff.mp hv2).1
        rw [arrV_size] at this
        exact this
      rw [arrV_read _ _ hi] at hv2
      cases hv2
      simp [State.fitsSlot, State.slotType?, hk', hkind, vp_cell, arrV, fits])
    (g := F0 m pc Ls (.ref (xad g a) :: rest)) rfl (by rw [hml]; exact hLs) rfl (by rw [hb]; exact hdg) hframes (by show 2 * 0 + _ + 14 ≤ _; omega) hcells (by rw [hsz]; exact hslots) (hloader := Vm.clonesLoader_of_array hkS hkindS)
  have hcellE : ({ cls := (vp_cell (g.2.2.1 0) (n, .inl f)).cls, slots := (vp_cell (g.2.2.1 0) (n, .inl f)).slots } : Cell) = vp_cell (g.2.2.1 0) (n, .inl f) := rfl
  rw [hcellE, hsz] at X'
  generalize hH1 : H.push (vp_cell (g.2.2.1 0) (n, .inl f)) = H1
  have z1 : H1.size = H.size + 1 := by rw [← hH1, Array.size_push]
  have e1 : H1[H.size]? = some (vp_cell (g.2.2.1 0) (n, .inl f)) := by rw [← hH1, Array.getElem?_push_size]
  have o1 : ∀ q : Nat, q < H.size → H1[q]? = H[q]? := fun q hq => by rw [← hH1, Array.getElem?_push, if_neg (Nat.ne_of_lt hq)]
  have hk := kk H1 (hW.nw z1 o1 e1) (xS_nw hS z1 o1)
  rw [← hW.size] at hk
  obtain ⟨t, b1, b2⟩ := hk _ (by rw [← hH1, ← hT]; rfl) X'
  refine ⟨t, ?_, b2⟩
  refine st t ?_
  rw [← hT] at b1
  exact b1
theorem xcast (X : xCx p s m args meth c g ro own mname cc nL) (hW : xW g h H) {idx n : Nat} {f : Nat → Int32} (ha : h.2.2 a = some (.inl (0, n, .inl f))) (w0 : Jvm.Cond.classLink own idx "[I" ∈ xTb) (hdg : decode cc pc = .ok (.checkcast idx, 3))
    (kk : W p l e R s m args below meth c H locs cells slots Q (F0 m (pc + 3) Ls (.ref (xad g a) :: rest))) : W p l e R s m args below meth c H locs cells slots Q (F0 m pc Ls (.ref (xad g a) :: rest)) := by
  obtain ⟨hx, hb, hml, hown, hts, hnm, hK⟩ := X
  obtain ⟨-, -, hat⟩ := hW.2.2 a _ ha
  have ht : (xTys g)[0]? = some (g.2.2.1 0, .int) := rfl
  exact va_castA hx hb hown (hts _ w0) (xOne hat) 0 rfl (hK.1.2 0 _ ht).2 hdg kk
end XB
