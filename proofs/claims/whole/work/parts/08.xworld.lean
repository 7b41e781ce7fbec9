/-! ===== The abstract heap in the machine's heap ===== -/
/-- where the numbers lie: below 16 by a table, the others one behind the other from the heap's end at the law's start; the array classes; the classes -/
abbrev xG : Type := Nat × (Nat → Nat) × (Nat → ClassId) × va_G
def xad (g : xG) (i : Nat) : Nat := if i < 16 then g.2.1 i else g.1 + (i - 16)
def xTv (g : xG) (v : Value) : Value := match v with
  | .ref a => .ref (xad g a)
  | v => v
def xTe (g : xG) (e : va_E) : va_E := match e with
  | .inl (t, n, .inr (.inr (.inr (.inr f)))) => .inl (g.2.2.1 t, n, .inr (.inr (.inr (.inr (fun j => (f j).map (xad g))))))
  | .inl (t, n, .inl f) => .inl (g.2.2.1 t, n, .inl f)
  | .inl (t, n, .inr (.inl f)) => .inl (g.2.2.1 t, n, .inr (.inl f))
  | .inl (t, n, .inr (.inr (.inl f))) => .inl (g.2.2.1 t, n, .inr (.inr (.inl f)))
  | .inl (t, n, .inr (.inr (.inr (.inl f)))) => .inl (g.2.2.1 t, n, .inr (.inr (.inr (.inl f))))
  | .inr (c, fs) => .inr (c, fs.map (xTv g))
def xA (g : xG) : Nat → Prop := fun q => g.1 ≤ q
def xTys (g : xG) : List (ClassId × FieldType) := [(g.2.2.1 0, .int), (g.2.2.1 1, .long), (g.2.2.1 2, .boolean), (g.2.2.1 3, .object RX2), (g.2.2.1 4, .object RX10)]
/-- the heap holds the abstract heap -/
def xW (g : xG) (h : xH) (H : Heap) : Prop := 16 ≤ h.1 ∧ H.size + 16 = g.1 + h.1 ∧ ∀ (i : Nat) (e : va_E), h.2.2 i = some e → 16 ≤ i ∧ i < h.1 ∧ va_at g.2.2.2 vwCl (xad g i, xTe g e) H
theorem xad_ge {g : xG} {i : Nat} (h : 16 ≤ i) : xad g i = g.1 + (i - 16) := by simp [xad, Nat.not_lt.mpr h]
theorem xad_A {g : xG} {i : Nat} (h : 16 ≤ i) : xA g (xad g i) := by rw [xad_ge h]; exact Nat.le_add_right _ _
theorem xad_ne {g : xG} {i j : Nat} (hi : 16 ≤ i) (hj : 16 ≤ j) (h : i ≠ j) : xad g i ≠ xad g j := by rw [xad_ge hi, xad_ge hj]; omega
theorem xTv_rf (g : xG) (r : Option Nat) : xTv g (va_rf r) = va_rf (r.map (xad g)) := by cases r <;> rfl
theorem xTv_cat (g : xG) (v : Value) : (xTv g v).category = v.category := by cases v <;> rfl
theorem xCat_map (g : xG) (st : List Value) : ((st.map (xTv g)).map fun v => v.category) = st.map fun v => v.category := by
  rw [List.map_map]
  exact List.map_congr_left fun v _ => xTv_cat g v
theorem xW.up {g : xG} {h : xH} {H H1 : Heap} {i : Nat} {e : va_E} (hW : xW g h H) (hi : 16 ≤ i) (hlt : i < h.1) (z : H1.size = H.size) (oq : ∀ q : Nat, q ≠ xad g i → H1[q]? = H[q]?) (he : va_at g.2.2.2 vwCl (xad g i, xTe g e) H1) : xW g (xUp h i e) H1 := by
  obtain ⟨h1, h2, h3⟩ := hW
  refine ⟨h1, by rw [z]; exact h2, fun j ej hj => ?_⟩
  change (if j = i then some e else h.2.2 j) = some ej at hj
  by_cases hji : j = i
  · subst hji
    rw [if_pos rfl] at hj
    cases hj
    exact ⟨hi, hlt, he⟩
  · rw [if_neg hji] at hj
    obtain ⟨a1, a2, a3⟩ := h3 j ej hj
    exact ⟨a1, a2, a3.kept (oq _ (xad_ne a1 hi hji))⟩
theorem xW.nw {g : xG} {h : xH} {H H1 : Heap} {n : Nat} {e : va_E} (hW : xW g h H) (z : H1.size = H.size + 1) (oq : ∀ q : Nat, q < H.size → H1[q]? = H[q]?) (he : va_at g.2.2.2 vwCl (H.size, xTe g e) H1) : xW g (xNw h n e) H1 := by
  obtain ⟨h1, h2, h3⟩ := hW
  have hs : H.size = xad g h.1 := by rw [xad_ge h1]; omega
  refine ⟨Nat.le_succ_of_le h1, by rw [z]; show _ = g.1 + (h.1 + 1); omega, fun j ej hj => ?_⟩
  change (if j = h.1 then some e else h.2.2 j) = some ej at hj
  by_cases hji : j = h.1
  · subst hji
    rw [if_pos rfl] at hj
    cases hj
    exact ⟨h1, Nat.lt_succ_self _, by rw [← hs]; exact he⟩
  · rw [if_neg hji] at hj
    obtain ⟨a1, a2, a3⟩ := h3 j ej hj
    exact ⟨a1, Nat.lt_succ_of_lt a2, a3.kept (oq _ a3.lt)⟩
theorem xW.size {g : xG} {h : xH} {H : Heap} (hW : xW g h H) : H.size = xad g h.1 := by
  obtain ⟨h1, h2, -⟩ := hW
  rw [xad_ge h1]; omega
theorem xW.A {g : xG} {h : xH} {H : Heap} (hW : xW g h H) {q : Nat} (hq : H.size ≤ q) : xA g q := by
  obtain ⟨h1, h2, -⟩ := hW
  show g.1 ≤ q
  omega
/-- one cell as a world of the kit -/
theorem xOne {D : va_G} {cl : List vw_C} {q : Nat × va_E} {H : Heap} (h : va_at D cl q H) : va_P D cl [q] H := by
  intro k x hx
  have hz : k < 1 := (List.getElem?_eq_some_iff.mp hx).1
  rw [show k = 0 by omega] at hx
  cases hx
  exact h
/-! what never changes: tables, constants -/
theorem xNests_ok {w : Cond} (h : w ∈ xNests) : ∃ a i y z, w = .methodLinkNest a i y z := by
  have h2 := (List.mem_filter.mp h).2
  cases w <;> first | exact ⟨_, _, _, _, rfl⟩ | (exact absurd h2 Bool.false_ne_true)
def xStrs (g : xG) (ro : xRo) (U : State) (H : Heap) : Prop :=
  (∃ tx, vk_R RX9 74 tx (g.2.1 2) U) ∧ (∃ tx, vk_R RX9 67 tx (g.2.1 3) U) ∧ (∃ tx, vk_R RX4 50 tx (g.2.1 4) U) ∧
  vk_S 3 [150, 11, 96] [xBy0, xBy1, xBy2] (fun i => g.2.1 (2 + i)) (fun i => g.2.1 (5 + i)) (xA g) U H ∧ va_Z "java/lang/String" "COMPACT_STRINGS" "Z" (.int 1) (xA g) U H ∧
  va_Z "jdk/internal/util/Preconditions" "SIOOBE_FORMATTER" "Ljava/util/function/BiFunction;" (match ro 8 with
    | some _ => .ref (g.2.1 8)
    | none => .null) (xA g) U H ∧ va_Nw (.castable "[I" "java/lang/Cloneable") U
def xK (g : xG) (ro : xRo) (U : State) (H : Heap) : Prop :=
  va_K g.2.2.2 vwCl (xTys g) U ∧ (∀ w ∈ xNests, va_Nw w U) ∧ va_AO RX2 U ∧ va_AO RX10 U ∧ (∀ (i n : Nat) (f : Nat → Int32), i < 2 → ro i = some (n, f) → va_T .int (g.2.1 i) n (fun j => .int (f j)) (xA g) U H) ∧ va_Z "MagpieAccounts" "GAME_PARTS" "[I" (.ref (g.2.1 1)) (xA g) U H ∧ xStrs g ro U H
theorem xK.kept {g : xG} {ro : xRo} {U : State} {H H1 : Heap} (h : xK g ro U H) (hq : ∀ a : Nat, a < H.size → ¬ xA g a → H1[a]? = H[a]?) : xK g ro U H1 := by
  obtain ⟨h1, h2, h3, h4, h5, h6, ⟨s1, s2, s3, s4, s5, s6, s7⟩⟩ := h
  exact ⟨h1, h2, h3, h4, fun i n f hi hr => (h5 i n f hi hr).kept hq, h6.kept hq, s1, s2, s3, s4.kept hq, s5.kept hq, s6.kept hq, s7⟩
theorem xK.warm {g : xG} {ro : xRo} {s U : State} {H : Heap} (hW : s.WarmedH U.vm) (h : xK g ro s H) : xK g ro U H := by
  obtain ⟨h1, h2, h3, h4, h5, h6, ⟨⟨t1, s1⟩, ⟨t2, s2⟩, ⟨t3, s3⟩, s4, s5, s6, s7⟩⟩ := h
  refine ⟨va_K.moved hW.alike h1, fun w hw => ?_, h3.moved hW.alike, h4.moved hW.alike, fun i n f hi hr => (h5 i n f hi hr).moved hW.alike, h6.moved hW.alike, ⟨t1, s1.warm hW⟩, ⟨t2, s2.warm hW⟩, ⟨t3, s3.warm hW⟩, s4.moved hW.alike, s5.moved hW.alike, s6.moved hW.alike, va_Nw.warmC hW s7⟩
  have h := h2 w hw
  obtain ⟨a, i, y, z, rfl⟩ := xNests_ok hw
  exact va_Nw.warmM hW h
theorem xK.same {g : xG} {ro : xRo} {u U : State} {H : Heap} (hv : u.vm = U.vm) (h : xK g ro u H) : xK g ro U H := by
  have al : u.vm.Alike U.vm := by rw [hv]; exact Vm.Alike.refl _
  obtain ⟨h1, h2, h3, h4, h5, h6, ⟨⟨t1, s1⟩, ⟨t2, s2⟩, ⟨t3, s3⟩, s4, s5, s6, s7⟩⟩ := h
  refine ⟨va_K.moved al h1, fun w hw => ?_, h3.moved al, h4.moved al, fun i n f hi hr => (h5 i n f hi hr).moved al, h6.moved al, ⟨t1, s1.same hv.symm⟩, ⟨t2, s2.same hv.symm⟩, ⟨t3, s3.same hv.symm⟩, s4.moved al, s5.moved al, s6.moved al, va_Nw.same rfl hv s7⟩
  have h := h2 w hw
  obtain ⟨a, i, y, z, rfl⟩ := xNests_ok hw
  exact va_Nw.same rfl hv h
