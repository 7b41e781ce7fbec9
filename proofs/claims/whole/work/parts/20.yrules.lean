/-! ===== rules for walking a method over a shape ===== -/
theorem xRun_more {ro : xRo} {E E' : Nat → List Value → xH → xR → Prop} {ret : Option FieldType} {code : xC} (hE : ∀ j as h r, E j as h r → E' j as h r) : ∀ n pc ls st h r, xRun ro E ret code n pc ls st h r → xRun ro E' ret code n pc ls st h r := by
  intro n
  induction n with
  | zero => intro pc ls st h r hr; exact hr
  | succ n ih =>
    intro pc ls st h r hr
    obtain ⟨i, hi, hr⟩ := hr
    refine ⟨i, hi, ?_⟩
    rcases hr with ⟨pc', ls', st', h', hs, hr⟩ | ⟨j, k, v, h', q1, q2, q3, q4, he, hr⟩ | hr
    · exact Or.inl ⟨pc', ls', st', h', hs, ih _ _ _ _ _ hr⟩
    · exact Or.inr (Or.inl ⟨j, k, v, h', q1, q2, q3, q4, hE _ _ _ _ he, ih _ _ _ _ _ hr⟩)
    · exact Or.inr (Or.inr hr)
theorem xEv_succ {ro : xRo} {P : Nat → Option xMeth} {B : Nat → List Value → xH → xR → Prop} : ∀ d j as h r, xEv ro P B d j as h r → xEv ro P B (d + 1) j as h r := by
  intro d
  induction d with
  | zero => intro j as h r hr; cases hr
  | succ d ih =>
    intro j as h r hr
    rcases hr with ⟨hd, hr⟩ | ⟨M, n, q1, q2, hr⟩
    · exact Or.inl ⟨Nat.le_succ_of_le hd, hr⟩
    · exact Or.inr ⟨M, n, q1, q2, xRun_more ih _ _ _ _ _ _ hr⟩
theorem xEv_le {ro : xRo} {P : Nat → Option xMeth} {B : Nat → List Value → xH → xR → Prop} {d d' j : Nat} {as : List Value} {h : xH} {r : xR} (hd : d ≤ d') (hr : xEv ro P B d j as h r) : xEv ro P B d' j as h r := by
  induction hd with
  | refl => exact hr
  | step _ ih => exact xEv_succ _ _ _ _ _ ih
/-- a walk of method M at depth d, from a place on -/
def Ry (ro : xRo) (B : Nat → List Value → xH → xR → Prop) (K : yK) (z : Nat × Nat) (d : Nat) (M : xMeth) (pc : Nat) (ls : xL) (st : List Value) (S : yS) (r : xR) : Prop := ∃ n, xRun ro (xEv ro xP B d) M.2.2.2.1 M.2.2.2.2 n pc ls st (yH K z S) r
/-- a call that keeps the shape: its answer, what it leaves -/
def yEv (ro : xRo) (B : Nat → List Value → xH → xR → Prop) (K : yK) (d j : Nat) (as : List Value) (S : yS) (v : Option Value) (S' : yS) : Prop := ∀ z, xEv ro xP B d j as (yH K z S) (v, yH K z S')
section RY
variable {ro : xRo} {B : Nat → List Value → xH → xR → Prop} {K K' : yK} {z z' : Nat × Nat} {d : Nat} {M : xMeth} {pc pc' : Nat} {ls ls' : xL} {st st' : List Value} {S S' : yS} {r : xR}
theorem ry_step {i : xI} (h1 : xAt M.2.2.2.2 pc = some i) (h2 : yStep ro K i pc ls st S = some (pc', ls', st', S')) (k : Ry ro B K z d M pc' ls' st' S' r) : Ry ro B K z d M pc ls st S r := by
  obtain ⟨n, hn⟩ := k
  exact ⟨n + 1, i, h1, Or.inl ⟨pc', ls', st', _, yStep_x h2, hn⟩⟩
theorem ry_call {i : xI} {j k : Nat} {v : Option Value} (h1 : xAt M.2.2.2.2 pc = some i) (h2 : xCallee i = some (j, k)) (h3 : Nat.ble k st.length = true) (h4 : Nat.ble ((st.drop k).map fun v => v.category).sum 8 = true) (h5 : xRcv i (st.take k).reverse (yH K z S) = true) (h6 : yEv ro B K d j (st.take k).reverse S v S') (kk : Ry ro B K z d M (pc + 3) ls (v.toList ++ st.drop k) S' r) : Ry ro B K z d M pc ls st S r := by
  obtain ⟨n, hn⟩ := kk
  exact ⟨n + 1, i, h1, Or.inr (Or.inl ⟨j, k, v, _, h2, Nat.le_of_ble_eq_true h3, Nat.le_of_ble_eq_true h4, h5, h6 z, hn⟩)⟩
theorem ry_callx {i : xI} {j k : Nat} {v : Option Value} (h1 : xAt M.2.2.2.2 pc = some i) (h2 : xCallee i = some (j, k)) (h3 : Nat.ble k st.length = true) (h4 : Nat.ble ((st.drop k).map fun v => v.category).sum 8 = true) (h5 : xRcv i (st.take k).reverse (yH K z S) = true) (h6 : xEv ro xP B d j (st.take k).reverse (yH K z S) (v, yH K' z' S')) (kk : Ry ro B K' z' d M (pc + 3) ls (v.toList ++ st.drop k) S' r) : Ry ro B K z d M pc ls st S r := by
  obtain ⟨n, hn⟩ := kk
  exact ⟨n + 1, i, h1, Or.inr (Or.inl ⟨j, k, v, _, h2, Nat.le_of_ble_eq_true h3, Nat.le_of_ble_eq_true h4, h5, h6, hn⟩)⟩
theorem ry_ret {i : xI} {v : Option Value} (h1 : xAt M.2.2.2.2 pc = some i) (h2 : xRetV M.2.2.2.1 i.1 st = some v) : Ry ro B K z d M pc ls st S (v, yH K z S) := ⟨1, i, h1, Or.inr (Or.inr ⟨v, h2, rfl⟩)⟩
theorem ry_meth {j : Nat} {as : List Value} {v : Option Value} (hP : xP j = some M) (hs : Nat.ble (lg_sl as).length M.2.2.1 = true) (h : ∀ z, Ry ro B K z d M 0 (lv_args 0 as) [] S (v, yH K z S')) : yEv ro B K (d + 1) j as S v S' := by
  intro z
  obtain ⟨n, hn⟩ := h z
  exact Or.inr ⟨M, n, hP, hs, hn⟩
theorem ry_methx {j : Nat} {as : List Value} (hP : xP j = some M) (hs : Nat.ble (lg_sl as).length M.2.2.1 = true) (h : Ry ro B K z d M 0 (lv_args 0 as) [] S r) : xEv ro xP B (d + 1) j as (yH K z S) r := by
  obtain ⟨n, hn⟩ := h
  exact Or.inr ⟨M, n, hP, hs, hn⟩
theorem ry_if {c : Prop} [Decidable c] {p1 p2 : Nat} (h1 : c → Ry ro B K z d M p1 ls st S r) (h2 : ¬ c → Ry ro B K z d M p2 ls st S r) : Ry ro B K z d M (if c then p1 else p2) ls st S r := by
  by_cases hc : c
  · rw [if_pos hc]; exact h1 hc
  · rw [if_neg hc]; exact h2 hc
theorem ry_ite {c : Prop} [Decidable c] {p1 p2 : Nat} {x y : Int32} {h : xH} (h1 : c → Ry ro B K z d M p1 ls st S (some (.int x), h)) (h2 : ¬ c → Ry ro B K z d M p2 ls st S (some (.int y), h)) : Ry ro B K z d M (if c then p1 else p2) ls st S (some (.int (if c then x else y)), h) := by
  by_cases hc : c
  · rw [if_pos hc, if_pos hc]; exact h1 hc
  · rw [if_neg hc, if_neg hc]; exact h2 hc
theorem ry_itel {c : Prop} [Decidable c] {p1 p2 : Nat} {x y : Int64} {h : xH} (h1 : c → Ry ro B K z d M p1 ls st S (some (.long x), h)) (h2 : ¬ c → Ry ro B K z d M p2 ls st S (some (.long y), h)) : Ry ro B K z d M (if c then p1 else p2) ls st S (some (.long (if c then x else y)), h) := by
  by_cases hc : c
  · rw [if_pos hc, if_pos hc]; exact h1 hc
  · rw [if_neg hc, if_neg hc]; exact h2 hc
theorem xRetZ {x : Int32} (h : x = 0 ∨ x = 1) : xRetV (some .boolean) .ireturn [.int x] = some (some (.int x)) := if_pos h
theorem yEv_le {d' j : Nat} {as : List Value} {v : Option Value} (hd : d ≤ d') (h : yEv ro B K d j as S v S') : yEv ro B K d' j as S v S' := fun z => xEv_le hd (h z)
end RY
