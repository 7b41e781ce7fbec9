/-! ===== One step of the small machine is a step of the JVM ===== -/
def xTl (g : xG) (ls : xL) : xL := ls.map fun q => (q.1, xTv g q.2)
def xCx (p : Program) (s : State) (m : MethodId) (args : Array Value) (meth : Method) (c : Code) (g : xG) (ro : xRo) (own mname : String) (cc : ByteArray) (nL : Nat) : Prop :=
  p.tables.exec = Jvm.exec ∧ c.code = cc ∧ c.maxLocals = nL ∧ s.vm.findClass own = some m.cls ∧ (∀ w ∈ xTb, w.before args s = true) ∧ (mname = "<init>" → meth.name = "<init>") ∧ xK g ro s s.heap
theorem xFind_mem {α : Type} {l : List (Nat × α)} {k : Nat} {v : α} (h : xFind l k = some v) : (k, v) ∈ l := by
  induction l with
  | nil => cases h
  | cons q l ih =>
    unfold xFind at h
    cases hq : Nat.beq q.1 k with
    | true =>
      rw [hq] at h
      cases h
      rw [← xbeq hq]
      exact List.mem_cons_self
    | false => rw [hq] at h; exact List.mem_cons_of_mem _ (ih h)
theorem xL_at {g : xG} {ls : xL} {Ls : Array Slot} {nL k : Nat} {v : Value} (hL : lv_has Ls nL (xTl g ls)) (h : xgt ls k = some v) : Ls[k]? = some (.val (xTv g v)) := by
  have h1 := xFind_mem h
  exact hL.2.2 (k, xTv g v) (List.mem_map.mpr ⟨(k, v), h1, rfl⟩)
theorem xL_idx {g : xG} {ls : xL} {k : Nat} {v : Value} (h : xgt ls k = some v) : ∃ j : Nat, (xTl g ls)[j]? = some (k, xTv g v) := by
  have h1 := xFind_mem h
  exact List.getElem?_of_mem (List.mem_map.mpr ⟨(k, v), h1, rfl⟩)
theorem xP1_map (g : xG) (ls : xL) (i : Nat) (v : Value) : (i, xTv g v) :: (xTl g ls).filter (fun q => !(q.1 == i) && !(q.1 + 1 == i && q.2.category == 2)) = xTl g (xP1 ls i v) := by
  unfold xTl xP1
  rw [List.map_cons, List.filter_map]
  congr 2
  apply List.filter_congr
  intro q _
  simp [xTv_cat]
theorem xP2_map (g : xG) (ls : xL) (i : Nat) (v : Value) : (i, xTv g v) :: (xTl g ls).filter (fun q => !(q.1 == i) && (!(q.1 == i + 1) && !(q.1 + 1 == i && q.2.category == 2))) = xTl g (xP2 ls i v) := by
  unfold xTl xP2
  rw [List.map_cons, List.filter_map]
  congr 2
  apply List.filter_congr
  intro q _
  simp [xTv_cat]
theorem xLen_eq {i : Instr} {len n : Nat} (h : (match xLen i with
    | some n => Nat.beq len n
    | none => true) = true) (hn : xLen i = some n) : len = n := by
  rw [hn] at h
  exact xbeq h
/-- the tables of a class by its number -/
theorem xCls {ci : Nat} {q : vw_C} (h : vwCl[ci]? = some q) : (∀ w ∈ u_ws q.1 q.2.1 q.2.2, w ∈ xTb) ∧ (∀ k, k < q.2.2 → parseFieldDescriptor (q.2.1 k).2.2.1 = some (xTy ci k)) ∧ (∀ a, a < q.2.2 → ∀ b, b < q.2.2 → a ≠ b → (q.2.1 a).2.1 ≠ (q.2.1 b).2.1) := by
  have good : ∀ {C : String} {T : u_T} {N : Nat}, (∀ w ∈ u_ws C T N, w ∈ lw_tbl) → ∀ w ∈ u_ws C T N, w ∈ xTb := by
    intro C T N h w hw
    refine List.mem_filter.mpr ⟨h w hw, ?_⟩
    obtain ⟨k, -, rfl⟩ := List.mem_map.mp hw
    unfold u_lay
    split <;> rfl
  match ci, h with
  | 0, h => cases h; exact ⟨good inX0, tyX0_ok, nmX0⟩
  | 1, h => cases h; exact ⟨good inX1, tyX1_ok, nmX1⟩
  | 2, h => cases h; exact ⟨good inX2, tyX2_ok, nmX2⟩
  | 3, h => cases h; exact ⟨good inX3, tyX3_ok, nmX3⟩
  | 4, h => cases h; exact ⟨good inX4, tyX4_ok, nmX4⟩
  | 5, h => cases h; exact ⟨good inX5, tyX5_ok, nmX5⟩
  | 6, h => cases h; exact ⟨good inX6, tyX6_ok, nmX6⟩
  | 7, h => cases h; exact ⟨good inX7, tyX7_ok, nmX7⟩
  | 8, h => cases h; exact ⟨good inX8, tyX8_ok, nmX8⟩
  | 9, h => cases h; exact ⟨good inX9, tyX9_ok, nmX9⟩
  | 10, h => cases h; exact ⟨good inX10, tyX10_ok, nmX10⟩
  | 11, h => cases h; exact ⟨good inX11, tyX11_ok, nmX11⟩
  | 12, h => cases h; exact ⟨good inX12, tyX12_ok, nmX12⟩
  | k + 13, h => simp [vwCl] at h
theorem xTe_i (g : xG) (t n : Nat) (f : Nat → Int32) : xTe g (.inl (t, n, .inl f)) = .inl (g.2.2.1 t, n, .inl f) := rfl
theorem xTe_l (g : xG) (t n : Nat) (f : Nat → Int64) : xTe g (.inl (t, n, .inr (.inl f))) = .inl (g.2.2.1 t, n, .inr (.inl f)) := rfl
theorem xTe_q (g : xG) (t n : Nat) (f : Nat → Option Nat) : xTe g (.inl (t, n, .inr (.inr (.inr (.inr f))))) = .inl (g.2.2.1 t, n, .inr (.inr (.inr (.inr (fun j => (f j).map (xad g)))))) := rfl
theorem xTe_o (g : xG) (c : Nat) (fs : List Value) : xTe g (.inr (c, fs)) = .inr (c, fs.map (xTv g)) := rfl
section XS
variable {p : Program} {l : Launch} {e : Env} {R : Room} {s : State} {m : MethodId} {args : Array Value} {below : List Frame} {meth : Method} {c : Code} {H : Heap} {locs : List Loc} {cells slots : Nat} {Q : State → Prop}
variable {g : xG} {ro : xRo} {own mname : String} {cc : ByteArray} {nL pc : Nat} {h : xH} {Ls : Array Slot} {rest : List Value}
/-- a field is written -/
theorem xput (X : xCx p s m args meth c g ro own mname cc nL) {ci k idx a : Nat} {q : vw_C} {fs : List Value} {v : Value} {kd : Int} (hc : vwCl[ci]? = some q) (hk : k < q.2.2) (hl : Jvm.Cond.fieldLink own idx (q.2.1 k).1 (q.2.1 k).2.1 (q.2.1 k).2.2.1 ∈ xTb) (hkd : xKd (xTy ci k) kd = true) (hfin : (!(q.2.1 k).2.2.2 || (decide (mname = "<init>") && decide ((q.2.1 k).1 = own))) = true)
    (hv : xfit kd v = true) (hle : k < fs.length) (ha : h.2.2 a = some (.inr (ci, fs))) (hW : xW g h H) (hS : va_S (xA g) s.heap H locs) (hd : decode cc pc = .ok (.putfield idx, 3))
    (kk : ∀ (H1 : Heap) (locs1 : List Loc), xW g (xUp h a (.inr (ci, fs.set k v))) H1 → va_S (xA g) s.heap H1 locs1 → W p l e R s m args below meth c H1 locs1 cells slots Q (F0 m (pc + 3) Ls rest)) : W p l e R s m args below meth c H locs cells slots Q (F0 m pc Ls (xTv g v :: .ref (xad g a) :: rest)) := by
  obtain ⟨hx, hb, hml, hown, hts, hnm, hK⟩ := X
  obtain ⟨C, T, N⟩ := q
  obtain ⟨i16, ilt, hat⟩ := hW.2.2 a _ ha
  rw [xTe_o] at hat
  obtain ⟨hin, hty, hnmm⟩ := xCls hc
  dsimp only at hk hl hfin hin hty hnmm
  have hap := va_apart (own := own) hts hin (xTy ci) hty hnmm hK.1 hc
  obtain ⟨r, h1, cell, q1, q2, q3, q4⟩ := hat
  have hr : r = (C, T, N) := Option.some.inj (h1.symm.trans hc)
  subst hr
  obtain ⟨hSl, hfc, kC, hkC, hkind⟩ := hK.1.1 ci _ hc
  obtain ⟨cf, kf, fi, f, hi, hsl⟩ := hSl k hk
  have hlay := hts _ (hin _ (u_in_lay hk))
  have hst := (u_facts hfc hkC (u_lays hts hin hk) hi).1
  have hd2 := hty k hk
  have hn : narrow (xTy ci k) (xTv g v) = xTv g v ∧ fits (xTy ci k) (xTv g v) = true := by
    generalize xTy ci k = ty at hkd
    unfold xfit at hv
    cases v with
    | int x =>
      simp only [Bool.or_eq_true, Bool.and_eq_true, beq_iff_eq] at hv
      rcases hv with rfl | ⟨rfl, hv⟩
      · cases ty <;> first | exact ⟨rfl, rfl⟩ | (simp [xKd] at hkd)
      · cases ty <;> first | (simp [xKd] at hkd; done) | (rcases hv with rfl | rfl <;> exact ⟨rfl, rfl⟩)
    | long x =>
      have hv := eq_of_beq hv
      subst hv
      cases ty <;> first | exact ⟨rfl, rfl⟩ | (simp [xKd] at hkd)
    | ref x =>
      have hv := eq_of_beq hv
      subst hv
      cases ty <;> first | exact ⟨rfl, rfl⟩ | (simp [xKd] at hkd)
    | null =>
      have hv := eq_of_beq hv
      subst hv
      cases ty <;> first | exact ⟨rfl, rfl⟩ | (simp [xKd] at hkd)
    | _ => cases hv
  have fin : ∀ H' : Heap, H'[xad g a]? = some (cell.setSlot f.slot (xTv g v)) → H'.size = H.size → (∀ q, q ≠ xad g a → H'[q]? = H[q]?) → W p l e R s m args below meth c H' (locs ++ [⟨xad g a, f.slot⟩]) cells slots Q (F0 m (pc + 3) Ls rest) := by
    intro H' e1 e2 e3
    refine kk H' _ (hW.up i16 ilt e2 e3 ?_) (hS.put e2 e3 (xad_A i16))
    rw [xTe_o, List.map_set]
    rw [hsl] at e1
    exact ⟨_, hc, t_OB.to (V := updV (vp_V (fs.map (xTv g))) k (xTv g v)) ⟨_, e1, q2, q3, t_set q4 hap hk _⟩ (fun j _ => vp_updV_set (by rw [List.length_map]; exact hle) _ j)⟩
  unfold u_lay at hlay
  by_cases hf : (T k).2.2.2 = true
  · rw [if_pos hf] at hlay
    rw [hf] at hfin
    simp only [Bool.not_true, Bool.false_or, Bool.and_eq_true, decide_eq_true_eq] at hfin
    have hcf : m.cls = cf := by
      obtain ⟨_, _, c', _, _, _, -, -, hf', -, -, -, hown2, -⟩ := Cond.laysFinal_spec hlay
      have e1 : c' = cf := by have := hi.symm.trans hf'; simp at this; exact this.1.symm
      rw [hfin.2] at hown2
      rw [← e1]; exact Option.some.inj (hown.symm.trans hown2)
    have h6 := u_fits hfc hkC hkind (Or.inr hlay) hi hd2 hn.1 hn.2
    exact W.putFinK hx hb hown (hts _ hl) hi hst hcf (hnm hfin.1) (by rw [q2]; exact h6) q1 q3 (by rw [hsl]; exact k2_hasslot (q4 k hk)) rfl rfl hd fin
  · rw [if_neg hf] at hlay
    have h6 := u_store hfc hkC hkind hlay hi hd2 hn.1 hn.2
    exact W.putK hx hb (f := f) ⟨hown, hts _ hl, ⟨_, _, _, hi⟩, hst⟩ (by rw [q2]; exact h6) q1 q3 (by rw [hsl]; exact k2_hasslot (q4 k hk)) rfl rfl hd fin
/-- a field is read -/
theorem xget (X : xCx p s m args meth c g ro own mname cc nL) {ci k idx a : Nat} {q : vw_C} {fs : List Value} {v : Value} (hc : vwCl[ci]? = some q) (hk : k < q.2.2) (hl : Jvm.Cond.fieldLink own idx (q.2.1 k).1 (q.2.1 k).2.1 (q.2.1 k).2.2.1 ∈ xTb)
    (hv : fs[k]? = some v) (ha : h.2.2 a = some (.inr (ci, fs))) (hW : xW g h H) (hd : decode cc pc = .ok (.getfield idx, 3))
    (kk : W p l e R s m args below meth c H locs cells slots Q (F0 m (pc + 3) Ls (xTv g v :: rest))) : W p l e R s m args below meth c H locs cells slots Q (F0 m pc Ls (.ref (xad g a) :: rest)) := by
  obtain ⟨hx, hb, hml, hown, hts, hnm, hK⟩ := X
  obtain ⟨C, T, N⟩ := q
  obtain ⟨i16, ilt, hat⟩ := hW.2.2 a _ ha
  rw [xTe_o] at hat
  obtain ⟨hin, hty, hnmm⟩ := xCls hc
  exact va_get (ref := (T k).1) hx hb hts hin hown hK.1 (xOne hat) 0 rfl hc k hk (hts _ hl) (fun _ h => h) (by rw [List.getElem?_map, hv]; rfl) hd kk
end XS
