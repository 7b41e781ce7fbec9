/-! ===== arrays and new cells ===== -/
section XA
variable {p : Program} {l : Launch} {e : Env} {R : Room} {s : State} {m : MethodId} {args : Array Value} {below : List Frame} {meth : Method} {c : Code} {H : Heap} {locs : List Loc} {cells slots : Nat} {Q : State → Prop}
variable {g : xG} {ro : xRo} {own mname : String} {cc : ByteArray} {nL pc : Nat} {h : xH} {Ls : Array Slot} {rest : List Value} {a n : Nat}
theorem xiald (X : xCx p s m args meth c g ro own mname cc nL) (hW : xW g h H) {f : Nat → Int32} (ha : h.2.2 a = some (.inl (0, n, .inl f))) {i : Int32} (hin : vp_in i n) (hd : decode cc pc = .ok (.iaload, 1))
    (kk : W p l e R s m args below meth c H locs cells slots Q (F0 m (pc + 1) Ls (.int (f i.toNatClampNeg) :: rest))) : W p l e R s m args below meth c H locs cells slots Q (F0 m pc Ls (.int i :: .ref (xad g a) :: rest)) := by
  obtain ⟨hx, hb, hml, hown, hts, hnm, hK⟩ := X
  obtain ⟨i16, ilt, hat⟩ := hW.2.2 a _ ha
  exact va_iald (tys := xTys g) hx hb hK.1 (xOne hat) 0 0 rfl rfl hin hd kk
theorem xzald (X : xCx p s m args meth c g ro own mname cc nL) (hW : xW g h H) {f : Nat → Int32} (ha : h.2.2 a = some (.inl (2, n, .inl f))) {i : Int32} (hin : vp_in i n) (hd : decode cc pc = .ok (.baload, 1))
    (kk : W p l e R s m args below meth c H locs cells slots Q (F0 m (pc + 1) Ls (.int (f i.toNatClampNeg) :: rest))) : W p l e R s m args below meth c H locs cells slots Q (F0 m pc Ls (.int i :: .ref (xad g a) :: rest)) := by
  obtain ⟨hx, hb, hml, hown, hts, hnm, hK⟩ := X
  obtain ⟨i16, ilt, hat⟩ := hW.2.2 a _ ha
  exact va_zald (tys := xTys g) hx hb hK.1 (xOne hat) 0 2 rfl rfl hin hd kk
theorem xlald (X : xCx p s m args meth c g ro own mname cc nL) (hW : xW g h H) {f : Nat → Int64} (ha : h.2.2 a = some (.inl (1, n, .inr (.inl f)))) {i : Int32} (hin : vp_in i n) (hd : decode cc pc = .ok (.laload, 1))
    (kk : W p l e R s m args below meth c H locs cells slots Q (F0 m (pc + 1) Ls (.long (f i.toNatClampNeg) :: rest))) : W p l e R s m args below meth c H locs cells slots Q (F0 m pc Ls (.int i :: .ref (xad g a) :: rest)) := by
  obtain ⟨hx, hb, hml, hown, hts, hnm, hK⟩ := X
  obtain ⟨i16, ilt, hat⟩ := hW.2.2 a _ ha
  exact va_lald (tys := xTys g) hx hb hK.1 (xOne hat) 0 1 rfl rfl hin hd kk
theorem xaald (X : xCx p s m args meth c g ro own mname cc nL) (hW : xW g h H) {t : Nat} (ht : t = 3 ∨ t = 4) {f : Nat → Option Nat} (ha : h.2.2 a = some (.inl (t, n, .inr (.inr (.inr (.inr f)))))) {i : Int32} (hin : vp_in i n) (hd : decode cc pc = .ok (.aaload, 1))
    (kk : W p l e R s m args below meth c H locs cells slots Q (F0 m (pc + 1) Ls (xTv g (va_rf (f i.toNatClampNeg)) :: rest))) : W p l e R s m args below meth c H locs cells slots Q (F0 m pc Ls (.int i :: .ref (xad g a) :: rest)) := by
  obtain ⟨hx, hb, hml, hown, hts, hnm, hK⟩ := X
  obtain ⟨i16, ilt, hat⟩ := hW.2.2 a _ ha
  rw [xTv_rf] at kk
  rcases ht with rfl | rfl
  · exact va_aldq (tys := xTys g) (C := RX2) hx hb hK.1 (xOne hat) 0 3 rfl rfl hin hd kk
  · exact va_aldq (tys := xTys g) (C := RX10) hx hb hK.1 (xOne hat) 0 4 rfl rfl hin hd kk
theorem xiast (X : xCx p s m args meth c g ro own mname cc nL) (hW : xW g h H) (hS : va_S (xA g) s.heap H locs) {f : Nat → Int32} (ha : h.2.2 a = some (.inl (0, n, .inl f))) {i x : Int32} (hin : vp_in i n) (hd : decode cc pc = .ok (.iastore, 1))
    (kk : ∀ (H1 : Heap) (locs1 : List Loc), xW g (xUp h a (.inl (0, n, .inl (upd f i.toNatClampNeg x)))) H1 → va_S (xA g) s.heap H1 locs1 → W p l e R s m args below meth c H1 locs1 cells slots Q (F0 m (pc + 1) Ls rest)) : W p l e R s m args below meth c H locs cells slots Q (F0 m pc Ls (.int x :: .int i :: .ref (xad g a) :: rest)) := by
  obtain ⟨hx, hb, hml, hown, hts, hnm, hK⟩ := X
  obtain ⟨i16, ilt, hat⟩ := hW.2.2 a _ ha
  have ht : (xTys g)[0]? = some (g.2.2.1 0, .int) := rfl
  refine W.iast hx hb (show H[xad g a]? = some (vp_cell (g.2.2.1 0) (n, .inl f)) from hat) ((hK.1.2 0 _ ht).1 n (fun j => .int (f j))) (fun q => by cases q) (by show ¬ (i < 0 ∨ (arrV _ _ _).slots.size ≤ _); rw [arrV_size]; exact hin) rfl rfl hd fun H1 e z oq => ?_
  refine kk H1 _ (hW.up i16 ilt z oq ?_) (hS.put z oq (xad_A i16))
  show H1[xad g a]? = some (vp_cell _ _)
  rw [e, vp_cell_i, vp_cell_i, arrV_store]
  congr 2
  funext q
  by_cases hq : q = i.toNatClampNeg
  · subst hq
    simp [updV, upd]
  · simp [updV, upd, hq]
theorem xzast (X : xCx p s m args meth c g ro own mname cc nL) (hW : xW g h H) (hS : va_S (xA g) s.heap H locs) {f : Nat → Int32} (ha : h.2.2 a = some (.inl (2, n, .inl f))) {i x : Int32} (hx01 : x = 0 ∨ x = 1) (hin : vp_in i n) (hd : decode cc pc = .ok (.bastore, 1))
    (kk : ∀ (H1 : Heap) (locs1 : List Loc), xW g (xUp h a (.inl (2, n, .inl (upd f i.toNatClampNeg x)))) H1 → va_S (xA g) s.heap H1 locs1 → W p l e R s m args below meth c H1 locs1 cells slots Q (F0 m (pc + 1) Ls rest)) : W p l e R s m args below meth c H locs cells slots Q (F0 m pc Ls (.int x :: .int i :: .ref (xad g a) :: rest)) := by
  obtain ⟨hx, hb, hml, hown, hts, hnm, hK⟩ := X
  obtain ⟨i16, ilt, hat⟩ := hW.2.2 a _ ha
  have ht : (xTys g)[2]? = some (g.2.2.1 2, .boolean) := rfl
  refine W.zast hx hb (show H[xad g a]? = some (vp_cell (g.2.2.1 2) (n, .inl f)) from hat) ((hK.1.2 2 _ ht).1 n (fun j => .int (f j))) (fun q => by cases q) (by show ¬ (i < 0 ∨ (arrV _ _ _).slots.size ≤ _); rw [arrV_size]; exact hin) rfl rfl hd fun H1 e z oq => ?_
  refine kk H1 _ (hW.up i16 ilt z oq ?_) (hS.put z oq (xad_A i16))
  show H1[xad g a]? = some (vp_cell _ _)
  rw [e, vp_cell_i, vp_cell_i, arrV_store]
  congr 2
  funext q
  by_cases hq : q = i.toNatClampNeg
  · subst hq
    rcases hx01 with rfl | rfl <;> simp [updV, upd] <;> rfl
  · simp [updV, upd, hq]
theorem xlast (X : xCx p s m args meth c g ro own mname cc nL) (hW : xW g h H) (hS : va_S (xA g) s.heap H locs) {f : Nat → Int64} (ha : h.2.2 a = some (.inl (1, n, .inr (.inl f)))) {i : Int32} {x : Int64} (hin : vp_in i n) (hd : decode cc pc = .ok (.lastore, 1))
    (kk : ∀ (H1 : Heap) (locs1 : List Loc), xW g (xUp h a (.inl (1, n, .inr (.inl (vp_updL f i.toNatClampNeg x))))) H1 → va_S (xA g) s.heap H1 locs1 → W p l e R s m args below meth c H1 locs1 cells slots Q (F0 m (pc + 1) Ls rest)) : W p l e R s m args below meth c H locs cells slots Q (F0 m pc Ls (.long x :: .int i :: .ref (xad g a) :: rest)) := by
  obtain ⟨hx, hb, hml, hown, hts, hnm, hK⟩ := X
  obtain ⟨i16, ilt, hat⟩ := hW.2.2 a _ ha
  have ht : (xTys g)[1]? = some (g.2.2.1 1, .long) := rfl
  refine W.last hx hb (show H[xad g a]? = some (vp_cell (g.2.2.1 1) (n, .inr (.inl f))) from hat) ((hK.1.2 1 _ ht).1 n (fun j => .long (f j))) (fun q => by cases q) (by show ¬ (i < 0 ∨ (arrV _ _ _).slots.size ≤ _); rw [arrV_size]; exact hin) rfl rfl hd fun H1 e z oq => ?_
  refine kk H1 _ (hW.up i16 ilt z oq ?_) (hS.put z oq (xad_A i16))
  show H1[xad g a]? = some (vp_cell _ _)
  rw [e, vp_cell_l, vp_cell_l, arrV_store]
  congr 2
  funext q
  by_cases hq : q = i.toNatClampNeg
  · subst hq
    simp [updV, vp_updL]
  · simp [updV, vp_updL, hq]
theorem xaast (X : xCx p s m args meth c g ro own mname cc nL) (hW : xW g h H) (hS : va_S (xA g) s.heap H locs) {t o : Nat} (ht : t = 3 ∨ t = 4) {f : Nat → Option Nat} {fs : List Value} (ha : h.2.2 a = some (.inl (t, n, .inr (.inr (.inr (.inr f)))))) (ho : h.2.2 o = some (.inr (xEl t, fs))) {i : Int32} (hin : vp_in i n) (hd : decode cc pc = .ok (.aastore, 1))
    (kk : ∀ (H1 : Heap) (locs1 : List Loc), xW g (xUp h a (.inl (t, n, .inr (.inr (.inr (.inr (va_up f i.toNatClampNeg (some o)))))))) H1 → va_S (xA g) s.heap H1 locs1 → W p l e R s m args below meth c H1 locs1 cells slots Q (F0 m (pc + 1) Ls rest)) : W p l e R s m args below meth c H locs cells slots Q (F0 m pc Ls (.ref (xad g o) :: .int i :: .ref (xad g a) :: rest)) := by
  obtain ⟨hx, hb, hml, hown, hts, hnm, hK⟩ := X
  obtain ⟨i16, ilt, hat⟩ := hW.2.2 a _ ha
  obtain ⟨-, -, hov⟩ := hW.2.2 o _ ho
  have hlt : i.toNatClampNeg < n := Nat.not_le.mp fun q => hin (Or.inr q)
  have h0 : ¬ i < 0 := fun q => hin (Or.inl q)
  obtain ⟨q, hcq, htq⟩ : ∃ q : vw_C, vwCl[xEl t]? = some q ∧ (xTys g)[t]? = some (g.2.2.1 t, .object q.1) := by
    rcases ht with rfl | rfl
    · exact ⟨_, rfl, rfl⟩
    · exact ⟨_, rfl, rfl⟩
  obtain ⟨r', hr', cellV, g1, g2, g3, -⟩ := hov
  have hcls := (hK.1.1 _ q hcq).2
  obtain ⟨kA, comp, k1, k2, k3, -⟩ := (hK.1.2 t _ htq).2
  have hcomp : comp = g.2.2.2.1 (xEl t) := Option.some.inj (k3.symm.trans hcls.1)
  subst hcomp
  obtain ⟨kC, hkC, -⟩ := hcls.2
  refine W.aast hx hb (show H[xad g a]? = some (vp_cell (g.2.2.1 t) (n, .inr (.inr (.inr (.inr (fun j => (f j).map (xad g))))))) from hat) (fun q h => by cases h) (fun h => by cases h) k1 k2 rfl hkC ⟨h0, by show _ < (arrV _ _ _).slots.size; rw [arrV_size]; exact hlt⟩ g1 (fun q h => by rw [g3] at h; cases h) (by rw [g2]; exact hkC) (by rw [g2]; exact va_assign hcls) rfl rfl hd fun H1 e z oq => ?_
  refine kk H1 _ (hW.up i16 ilt z oq ?_) (hS.put z oq (xad_A i16))
  rw [xTe_q]
  show H1[xad g a]? = some (vp_cell _ _)
  rw [e, vp_cell_q, vp_cell_q, arrV_store]
  congr 2
  funext q
  by_cases hq : q = i.toNatClampNeg
  · subst hq
    simp [updV, va_up, va_rf]
  · simp [updV, va_up, hq]
theorem xaastN (X : xCx p s m args meth c g ro own mname cc nL) (hW : xW g h H) (hS : va_S (xA g) s.heap H locs) {t : Nat} (ht : t = 3 ∨ t = 4) {f : Nat → Option Nat} (ha : h.2.2 a = some (.inl (t, n, .inr (.inr (.inr (.inr f)))))) {i : Int32} (hin : vp_in i n) (hd : decode cc pc = .ok (.aastore, 1))
    (kk : ∀ (H1 : Heap) (locs1 : List Loc), xW g (xUp h a (.inl (t, n, .inr (.inr (.inr (.inr (va_up f i.toNatClampNeg none))))))) H1 → va_S (xA g) s.heap H1 locs1 → W p l e R s m args below meth c H1 locs1 cells slots Q (F0 m (pc + 1) Ls rest)) : W p l e R s m args below meth c H locs cells slots Q (F0 m pc Ls (.null :: .int i :: .ref (xad g a) :: rest)) := by
  obtain ⟨hx, hb, hml, hown, hts, hnm, hK⟩ := X
  obtain ⟨i16, ilt, hat⟩ := hW.2.2 a _ ha
  obtain ⟨C, htq⟩ : ∃ C : String, (xTys g)[t]? = some (g.2.2.1 t, .object C) := by
    rcases ht with rfl | rfl
    · exact ⟨_, rfl⟩
    · exact ⟨_, rfl⟩
  refine va_WaastN (C := C) hx hb (show H[xad g a]? = some (vp_cell (g.2.2.1 t) (n, .inr (.inr (.inr (.inr (fun j => (f j).map (xad g))))))) from hat) ((hK.1.2 t _ htq).1 n (fun j => va_rf ((f j).map (xad g)))) (fun h => by cases h) (by show ¬ (i < 0 ∨ (arrV _ _ _).slots.size ≤ _); rw [arrV_size]; exact hin) rfl rfl hd fun H1 e z oq => ?_
  refine kk H1 _ (hW.up i16 ilt z oq ?_) (hS.put z oq (xad_A i16))
  rw [xTe_q]
  show H1[xad g a]? = some (vp_cell _ _)
  rw [e, vp_cell_q, vp_cell_q, arrV_store]
  congr 2
  funext q
  by_cases hq : q = i.toNatClampNeg
  · subst hq
    simp [updV, va_up, va_rf]
  · simp [updV, va_up, hq]
theorem xalen (X : xCx p s m args meth c g ro own mname cc nL) (hW : xW g h H) {t : Nat} (ht : t < 5) {x : (Nat → Int32) ⊕ (Nat → Int64) ⊕ (Nat → UInt32) ⊕ (Nat → UInt64) ⊕ (Nat → Option Nat)} (ha : h.2.2 a = some (.inl (t, n, x))) (hd : decode cc pc = .ok (.arraylength, 1))
    (kk : W p l e R s m args below meth c H locs cells slots Q (F0 m (pc + 1) Ls (.int (Int32.ofNat n) :: rest))) : W p l e R s m args below meth c H locs cells slots Q (F0 m pc Ls (.ref (xad g a) :: rest)) := by
  obtain ⟨hx, hb, hml, hown, hts, hnm, hK⟩ := X
  obtain ⟨i16, ilt, hat⟩ := hW.2.2 a _ ha
  obtain ⟨ty, htq⟩ : ∃ ty : FieldType, (xTys g)[t]? = some (g.2.2.1 t, ty) := by
    match t, ht with
    | 0, _ => exact ⟨_, rfl⟩
    | 1, _ => exact ⟨_, rfl⟩
    | 2, _ => exact ⟨_, rfl⟩
    | 3, _ => exact ⟨_, rfl⟩
    | 4, _ => exact ⟨_, rfl⟩
  obtain f | f | f | f | f := x
  · exact va_alen (tys := xTys g) (x := (n, .inl f)) hx hb hK.1 (xOne hat) 0 t rfl htq rfl hd kk
  · exact va_alen (tys := xTys g) (x := (n, .inr (.inl f))) hx hb hK.1 (xOne hat) 0 t rfl htq rfl hd kk
  · exact va_alen (tys := xTys g) (x := (n, .inr (.inr (.inl f)))) hx hb hK.1 (xOne hat) 0 t rfl htq rfl hd kk
  · exact va_alen (tys := xTys g) (x := (n, .inr (.inr (.inr (.inl f))))) hx hb hK.1 (xOne hat) 0 t rfl htq rfl hd kk
  · exact va_alen (tys := xTys g) (x := (n, .inr (.inr (.inr (.inr (fun j => (f j).map (xad g))))))) hx hb hK.1 (xOne hat) 0 t rfl htq rfl hd kk
theorem xS_nw {A : Nat → Prop} {H0 H H1 : Heap} {locs : List Loc} (hS : va_S A H0 H locs) (z : H1.size = H.size + 1) (oq : ∀ q : Nat, q < H.size → H1[q]? = H[q]?) : va_S A H0 H1 locs :=
  ⟨Nat.le_trans hS.1 (by omega), fun x h1 h2 => (oq x (Nat.lt_of_lt_of_le h1 hS.1)).trans (hS.2.1 x h1 h2), hS.2.2⟩
theorem xnewa (X : xCx p s m args meth c g ro own mname cc nL) (hW : xW g h H) (hS : va_S (xA g) s.heap H locs) {at_ : ArrayType} {t : Nat} (ht : xTag at_ = some t) (hw : Jvm.Cond.arrayClass (newarray.typeOf at_) ∈ xTb) {x : Int32} (h0 : ¬ x < 0) (hle : x.toNatClampNeg ≤ 100000) (hcells : cells + 1 ≤ R.cells) (hslots : slots + x.toNatClampNeg ≤ R.slots) (hd : decode cc pc = .ok (.newarray at_, 2))
    (kk : ∀ H1 : Heap, xW g (xNw h x.toNatClampNeg (.inl (t, xZero t x.toNatClampNeg))) H1 → va_S (xA g) s.heap H1 locs → W p l e R s m args below meth c H1 locs (cells + 1) (slots + x.toNatClampNeg) Q (F0 m (pc + 2) Ls (.ref (xad g h.1) :: rest))) : W p l e R s m args below meth c H locs cells slots Q (F0 m pc Ls (.int x :: rest)) := by
  obtain ⟨hx, hb, hml, hown, hts, hnm, hK⟩ := X
  obtain ⟨ty, hty, hK2, hz⟩ : ∃ ty : FieldType, newarray.typeOf at_ = ty ∧ s.vm.findClass ("[" ++ ty.toString) = some (g.2.2.1 t) ∧ (∀ n : Nat, vp_cell (g.2.2.1 t) (xZero t n) = arrV (g.2.2.1 t) n (fun _ => defaultValue ty)) ∧ xTe g (.inl (t, xZero t x.toNatClampNeg)) = .inl (g.2.2.1 t, xZero t x.toNatClampNeg) ∧ componentBytes ty ≤ 8 := by
    cases at_ <;> cases ht
    · exact ⟨_, rfl, (hK.1.2 2 _ rfl).2, fun n => rfl, rfl, by decide⟩
    · exact ⟨_, rfl, (hK.1.2 0 _ rfl).2, fun n => rfl, rfl, by decide⟩
    · exact ⟨_, rfl, (hK.1.2 1 _ rfl).2, fun n => rfl, rfl, by decide⟩
  have hbytes : x.toNatClampNeg * componentBytes (newarray.typeOf at_) ≤ 536870912 := by
    rw [hty]
    have := Nat.mul_le_mul hle hz.2.2
    omega
  refine va_newaK hx hb (hts _ hw) rfl hd rfl h0 rfl hbytes hcells hslots rfl fun H1 cA e1 z1 o1 hAr hNm => ?_
  rw [hty, hK2] at hNm
  cases hNm
  have hk := kk H1 (hW.nw z1 o1 ?_) (xS_nw hS z1 o1)
  · rw [← hW.size] at hk
    exact hk
  · rw [hz.2.1]
    show H1[H.size]? = some (vp_cell _ _)
    rw [hz.1, e1, hty]
theorem xnewq (X : xCx p s m args meth c g ro own mname cc nL) (hW : xW g h H) (hS : va_S (xA g) s.heap H locs) {t idx : Nat} (hw : (t = 3 ∧ Jvm.Cond.classLink own idx RX2 ∈ xTb) ∨ (t = 4 ∧ Jvm.Cond.classLink own idx RX10 ∈ xTb)) {x : Int32} (h0 : ¬ x < 0) (hle : x.toNatClampNeg ≤ 100000) (hcells : cells + 1 ≤ R.cells) (hslots : slots + x.toNatClampNeg ≤ R.slots) (hd : decode cc pc = .ok (.anewarray idx, 3))
    (kk : ∀ H1 : Heap, xW g (xNw h x.toNatClampNeg (.inl (t, x.toNatClampNeg, .inr (.inr (.inr (.inr (fun _ => none))))))) H1 → va_S (xA g) s.heap H1 locs → W p l e R s m args below meth c H1 locs (cells + 1) (slots + x.toNatClampNeg) Q (F0 m (pc + 3) Ls (.ref (xad g h.1) :: rest))) : W p l e R s m args below meth c H locs cells slots Q (F0 m pc Ls (.int x :: rest)) := by
  obtain ⟨hx, hb, hml, hown, hts, hnm, hK⟩ := X
  obtain ⟨C, hC, hao, kA0, comp0, q1, q2, q3, q4⟩ : ∃ C : String, Jvm.Cond.classLink own idx C ∈ xTb ∧ va_AO C s ∧ ∃ (kA : Class) (comp : ClassId), s.vm.classes[g.2.2.1 t]? = some kA ∧ kA.kind = .array comp (.object C) ∧ s.vm.findClass C = some comp ∧ s.vm.findClass ("[" ++ (FieldType.object C).toString) = some (g.2.2.1 t) := by
    rcases hw with ⟨rfl, hw⟩ | ⟨rfl, hw⟩
    · exact ⟨_, hw, hK.2.2.1, (hK.1.2 3 _ rfl).2⟩
    · exact ⟨_, hw, hK.2.2.2.1, (hK.1.2 4 _ rfl).2⟩
  refine W.anew hx hb hown (hts _ hC) (va_AO.use hao) rfl hd rfl h0 (by omega) hcells hslots fun cA kA comp f1 f2 f3 f4 => ?_
  rw [q4] at f1
  cases f1
  generalize hH1 : H.push ({ cls := g.2.2.1 t, slots := Array.replicate x.toNatClampNeg .null, vm := .none } : Cell) = H1
  have z1 : H1.size = H.size + 1 := by rw [← hH1, Array.size_push]
  have e1 : H1[H.size]? = some (arrV (g.2.2.1 t) x.toNatClampNeg (fun _ => .null)) := by rw [← hH1, Array.getElem?_push_size, ← arrV_new]
  have o1 : ∀ q : Nat, q < H.size → H1[q]? = H[q]? := fun q hq => by rw [← hH1, Array.getElem?_push, if_neg (Nat.ne_of_lt hq)]
  have hk := kk H1 (hW.nw z1 o1 e1) (xS_nw hS z1 o1)
  rw [← hW.size] at hk
  exact hk
theorem xnew (X : xCx p s m args meth c g ro own mname cc nL) (hW : xW g h H) (hS : va_S (xA g) s.heap H locs) {ci idx : Nat} {q : vw_C} (hc : vwCl[ci]? = some q) (hw1 : Jvm.Cond.classLink own idx q.1 ∈ xTb) (hw2 : Jvm.Cond.instantiable q.1 q.2.2 ∈ xTb) (hw3 : Jvm.Cond.initialized q.1 ∈ xTb) (hcells : cells + 1 ≤ R.cells) (hslots : slots + q.2.2 ≤ R.slots) (hd : decode cc pc = .ok (.new idx, 3))
    (kk : ∀ H1 : Heap, xW g (xNw h q.2.2 (.inr (ci, xNew ci q.2.2))) H1 → va_S (xA g) s.heap H1 locs → W p l e R s m args below meth c H1 locs (cells + 1) (slots + q.2.2) Q (F0 m (pc + 3) Ls (.ref (xad g h.1) :: rest))) : W p l e R s m args below meth c H locs cells slots Q (F0 m pc Ls rest) := by
  obtain ⟨hx, hb, hml, hown, hts, hnm, hK⟩ := X
  obtain ⟨C, T, N⟩ := q
  obtain ⟨hin, hty, hnmm⟩ := xCls hc
  have hKn := hK.1.1 ci _ hc
  refine W.newcK hx hb hown (hts _ hw1) (hts _ hw2) (hts _ hw3) rfl hd hcells hslots hKn.2.1 rfl fun H1 kC hkC e1 z1 o1 => ?_
  have hk := kk H1 (hW.nw z1 o1 ?_) (xS_nw hS z1 o1)
  · rw [← hW.size] at hk
    exact hk
  · refine ⟨_, hc, (u_born (xTy ci) hts hin hKn hkC e1 hty).to fun j hj => ?_⟩
    show _ = vp_V ((xNew ci N).map (xTv g)) j
    have hdv : ∀ ty : FieldType, xTv g (defaultValue ty) = defaultValue ty := fun ty => by cases ty <;> rfl
    unfold vp_V xNew
    rw [List.map_map, List.getD_eq_getElem?_getD, List.getElem?_map, List.getElem?_range hj]
    exact (hdv _).symm
end XA
