/-! ===== fewer locals suffice ===== -/
def xNd (ls : xL) : Prop := (ls.map (fun q => q.1)).Nodup
def xSub (ls ls' : xL) : Prop := (∀ q ∈ ls, q ∈ ls') ∧ xNd ls'
theorem xFind_nd {ls : xL} (hn : xNd ls) {k : Nat} {v : Value} (h : (k, v) ∈ ls) : xFind ls k = some v := by
  induction ls with
  | nil => cases h
  | cons q l ih =>
    unfold xFind
    unfold xNd at hn
    rw [List.map_cons, List.nodup_cons] at hn
    rcases List.mem_cons.mp h with rfl | h
    · rw [show Nat.beq (k, v).1 k = true from Nat.beq_refl k]; rfl
    · cases hq : Nat.beq q.1 k with
      | true =>
        exact absurd (List.mem_map.mpr ⟨(k, v), h, (xbeq hq).symm⟩) hn.1
      | false => exact ih hn.2 h
theorem xSub_get {ls ls' : xL} (h : xSub ls ls') {k : Nat} {v : Value} (hk : xgt ls k = some v) : xgt ls' k = some v := xFind_nd h.2 (h.1 _ (xFind_mem hk))
theorem xSub_put {ls ls' : xL} (h : xSub ls ls') (i : Nat) (v : Value) (f : Nat × Value → Bool) (hf : ∀ q, f q = true → q.1 ≠ i) : xSub ((i, v) :: ls.filter f) ((i, v) :: ls'.filter f) := by
  refine ⟨fun q hq => ?_, ?_⟩
  · rcases List.mem_cons.mp hq with rfl | hq
    · exact List.mem_cons_self
    · obtain ⟨h1, h2⟩ := List.mem_filter.mp hq
      exact List.mem_cons_of_mem _ (List.mem_filter.mpr ⟨h.1 q h1, h2⟩)
  · unfold xNd
    rw [List.map_cons, List.nodup_cons]
    refine ⟨fun hm => ?_, ?_⟩
    · obtain ⟨q, hq, he⟩ := List.mem_map.mp hm
      exact hf q (List.mem_filter.mp hq).2 he
    · exact h.2.sublist (List.filter_sublist.map _)
theorem xSub_p1 {ls ls' : xL} (h : xSub ls ls') (i : Nat) (v : Value) : xSub (xP1 ls i v) (xP1 ls' i v) := xSub_put h i v _ (fun q hq e => by
  simp only [Bool.and_eq_true, Bool.not_eq_true', beq_eq_false_iff_ne] at hq
  exact hq.1 e)
theorem xSub_p2 {ls ls' : xL} (h : xSub ls ls') (i : Nat) (v : Value) : xSub (xP2 ls i v) (xP2 ls' i v) := xSub_put h i v _ (fun q hq e => by
  simp only [Bool.and_eq_true, Bool.not_eq_true', beq_eq_false_iff_ne] at hq
  exact hq.1 e)
/-- what a step does with more locals -/
def xLm (ls' : xL) (o o' : Option xS) : Prop := ∀ s, o = some s → ∃ l', o' = some (s.1, l', s.2.2) ∧ xSub s.2.1 l'
theorem xLm_no {ls' : xL} {o' : Option xS} : xLm ls' none o' := fun _ h => by cases h
theorem xLm_at {ls ls' : xL} (h : xSub ls ls') {pc : Nat} {st : List Value} {h0 : xH} : xLm ls' (some (pc, ls, st, h0)) (some (pc, ls', st, h0)) := fun s hs => by cases hs; exact ⟨ls', rfl, h⟩
theorem xLm_p1 {ls ls' : xL} (h : xSub ls ls') {pc i : Nat} {v : Value} {st : List Value} {h0 : xH} : xLm ls' (some (pc, xP1 ls i v, st, h0)) (some (pc, xP1 ls' i v, st, h0)) := fun s hs => by cases hs; exact ⟨_, rfl, xSub_p1 h i v⟩
theorem xLm_p2 {ls ls' : xL} (h : xSub ls ls') {pc i : Nat} {v : Value} {st : List Value} {h0 : xH} : xLm ls' (some (pc, xP2 ls i v, st, h0)) (some (pc, xP2 ls' i v, st, h0)) := fun s hs => by cases hs; exact ⟨_, rfl, xSub_p2 h i v⟩
theorem xLm_i {ls' : xL} {st : List Value} {k k' : Int32 → List Value → Option xS} (hk : ∀ x r, xLm ls' (k x r) (k' x r)) : xLm ls' (xi st k) (xi st k') := fun s hs => by
  obtain ⟨x, r, rfl, he⟩ := xi_inv hs; exact hk x r s he
theorem xLm_ii {ls' : xL} {st : List Value} {k k' : Int32 → Int32 → List Value → Option xS} (hk : ∀ x y r, xLm ls' (k x y r) (k' x y r)) : xLm ls' (xii st k) (xii st k') := fun s hs => by
  obtain ⟨x, y, r, rfl, he⟩ := xii_inv hs; exact hk x y r s he
theorem xLm_l {ls' : xL} {st : List Value} {k k' : Int64 → List Value → Option xS} (hk : ∀ x r, xLm ls' (k x r) (k' x r)) : xLm ls' (xl st k) (xl st k') := fun s hs => by
  obtain ⟨x, r, rfl, he⟩ := xl_inv hs; exact hk x r s he
theorem xLm_ll {ls' : xL} {st : List Value} {k k' : Int64 → Int64 → List Value → Option xS} (hk : ∀ x y r, xLm ls' (k x y r) (k' x y r)) : xLm ls' (xll st k) (xll st k') := fun s hs => by
  obtain ⟨x, y, r, rfl, he⟩ := xll_inv hs; exact hk x y r s he
theorem xLm_li {ls' : xL} {st : List Value} {k k' : Int64 → Int32 → List Value → Option xS} (hk : ∀ x y r, xLm ls' (k x y r) (k' x y r)) : xLm ls' (xli st k) (xli st k') := fun s hs => by
  obtain ⟨x, y, r, rfl, he⟩ := xli_inv hs; exact hk x y r s he
theorem xLm_a {ls' : xL} {st : List Value} {k k' : Nat → List Value → Option xS} (hk : ∀ x r, xLm ls' (k x r) (k' x r)) : xLm ls' (xa st k) (xa st k') := fun s hs => by
  obtain ⟨x, r, rfl, he⟩ := xa_inv hs; exact hk x r s he
theorem xLm_ai {ls' : xL} {st : List Value} {k k' : Nat → Int32 → List Value → Option xS} (hk : ∀ x y r, xLm ls' (k x y r) (k' x y r)) : xLm ls' (xai st k) (xai st k') := fun s hs => by
  obtain ⟨x, y, r, rfl, he⟩ := xai_inv hs; exact hk x y r s he
theorem xLm_q {ls' : xL} {st : List Value} {k k' : Option Nat → List Value → Option xS} (hk : ∀ x r, xLm ls' (k x r) (k' x r)) : xLm ls' (xq st k) (xq st k') := fun s hs => by
  obtain ⟨x, r, rfl, he⟩ := xq_inv hs
  obtain ⟨l', h1, h2⟩ := hk x r s he
  exact ⟨l', by cases x <;> exact h1, h2⟩
theorem xLm_ob {ls' : xL} {h : xH} {a ci : Nat} {k k' : List Value → Option xS} (hk : ∀ x, xLm ls' (k x) (k' x)) : xLm ls' (xob h a ci k) (xob h a ci k') := fun s hs => by
  obtain ⟨x, hx, he⟩ := xob_inv hs
  obtain ⟨l', h1, h2⟩ := hk x s he
  exact ⟨l', by rw [xob_of hx]; exact h1, h2⟩
theorem xLm_ar {ls' : xL} {h : xH} {a t : Nat} {k k' : Nat → (Nat → Int32) → Option xS} (hk : ∀ x y, xLm ls' (k x y) (k' x y)) : xLm ls' (xar h a t k) (xar h a t k') := fun s hs => by
  obtain ⟨x, y, hx, he⟩ := xar_inv hs
  obtain ⟨l', h1, h2⟩ := hk x y s he
  exact ⟨l', by rw [xar_of hx]; exact h1, h2⟩
theorem xLm_arl {ls' : xL} {h : xH} {a : Nat} {k k' : Nat → (Nat → Int64) → Option xS} (hk : ∀ x y, xLm ls' (k x y) (k' x y)) : xLm ls' (xarl h a k) (xarl h a k') := fun s hs => by
  obtain ⟨x, y, hx, he⟩ := xarl_inv hs
  obtain ⟨l', h1, h2⟩ := hk x y s he
  exact ⟨l', by rw [xarl_of hx]; exact h1, h2⟩
theorem xLm_arq {ls' : xL} {h : xH} {a : Nat} {k k' : Nat → Nat → (Nat → Option Nat) → Option xS} (hk : ∀ x y w, xLm ls' (k x y w) (k' x y w)) : xLm ls' (xarq h a k) (xarq h a k') := fun s hs => by
  obtain ⟨x, y, w, ht, hx, he⟩ := xarq_inv hs
  obtain ⟨l', h1, h2⟩ := hk x y w s he
  exact ⟨l', by rw [xarq_of ht hx]; exact h1, h2⟩
theorem xLm_in {ls' : xL} {i : Int32} {n : Nat} {k k' : Nat → Option xS} (hk : ∀ x, xLm ls' (k x) (k' x)) : xLm ls' (xin i n k) (xin i n k') := fun s hs => by
  obtain ⟨hin, he⟩ := xin_inv hs
  obtain ⟨l', h1, h2⟩ := hk _ s he
  exact ⟨l', by rw [xin_of hin]; exact h1, h2⟩
theorem xLm_b {ls' : xL} {α : Type} {o : Option α} {k k' : α → Option xS} (hk : ∀ x, xLm ls' (k x) (k' x)) : xLm ls' (o.bind k) (o.bind k') := fun s hs => by
  obtain ⟨x, hx, he⟩ := Option.bind_eq_some_iff.mp hs
  obtain ⟨l', h1, h2⟩ := hk _ s he
  exact ⟨l', by rw [hx]; exact h1, h2⟩
theorem xLm_g {ls ls' : xL} (h : xSub ls ls') {n : Nat} {k k' : Value → Option xS} (hk : ∀ x, xLm ls' (k x) (k' x)) : xLm ls' ((xgt ls n).bind k) ((xgt ls' n).bind k') := fun s hs => by
  obtain ⟨x, hx, he⟩ := Option.bind_eq_some_iff.mp hs
  obtain ⟨l', h1, h2⟩ := hk _ s he
  exact ⟨l', by rw [xSub_get h hx]; exact h1, h2⟩
theorem xLm_c {ls' : xL} {b : Bool} {x y x' y' : Option xS} (hx : xLm ls' x x') (hy : xLm ls' y y') : xLm ls' (bif b then x else y) (bif b then x' else y') := by cases b <;> assumption
theorem xLm_t {ls' : xL} {c : Prop} [Decidable c] {x y x' y' : Option xS} (hx : xLm ls' x x') (hy : xLm ls' y y') : xLm ls' (if c then x else y) (if c then x' else y') := by
  by_cases hc : c
  · rw [if_pos hc, if_pos hc]; exact hx
  · rw [if_neg hc, if_neg hc]; exact hy
set_option maxHeartbeats 8000000 in
theorem xStep_sub {ro : xRo} {i : xI} {pc : Nat} {ls ls' : xL} {st : List Value} {h : xH} (hS : xSub ls ls') : xLm ls' (xStep ro i pc ls st h) (xStep ro i pc ls' st h) := by
  obtain ⟨op, len, A, B, k, ps⟩ := i
  unfold xStep
  dsimp only
  cases op <;> dsimp only <;> repeat (first
    | exact xLm_no | exact xLm_at hS | exact xLm_p1 hS | exact xLm_p2 hS
    | (refine xLm_g hS fun _ => ?_)
    | (refine xLm_i fun _ _ => ?_) | (refine xLm_ii fun _ _ _ => ?_) | (refine xLm_l fun _ _ => ?_) | (refine xLm_ll fun _ _ _ => ?_) | (refine xLm_li fun _ _ _ => ?_)
    | (refine xLm_a fun _ _ => ?_) | (refine xLm_ai fun _ _ _ => ?_) | (refine xLm_q fun _ _ => ?_) | (refine xLm_ob fun _ => ?_) | (refine xLm_ar fun _ _ => ?_) | (refine xLm_arl fun _ _ => ?_) | (refine xLm_arq fun _ _ _ => ?_)
    | (refine xLm_in fun _ => ?_) | (refine xLm_b fun _ => ?_) | (refine xLm_c ?_ ?_) | (refine xLm_t ?_ ?_) | split)
theorem xRun_sub {ro : xRo} {E : Nat → List Value → xH → xR → Prop} {ret : Option FieldType} {code : xC} : ∀ n pc ls ls' st h r, xSub ls ls' → xRun ro E ret code n pc ls st h r → xRun ro E ret code n pc ls' st h r := by
  intro n
  induction n with
  | zero => intro pc ls ls' st h r _ hr; exact hr
  | succ n ih =>
    intro pc ls ls' st h r hS hr
    obtain ⟨i, hi, hr⟩ := hr
    refine ⟨i, hi, ?_⟩
    rcases hr with ⟨pc', l1, st', h', hs, hr⟩ | ⟨j, k, v, h', q1, q2, q3, q4, he, hr⟩ | hr
    · obtain ⟨l', h1, h2⟩ := xStep_sub hS _ hs
      exact Or.inl ⟨pc', l', st', h', h1, ih _ _ _ _ _ _ h2 hr⟩
    · exact Or.inr (Or.inl ⟨j, k, v, h', q1, q2, q3, q4, he, ih _ _ _ _ _ _ hS hr⟩)
    · exact Or.inr (Or.inr hr)
theorem xNd_of : ∀ l : List Nat, va_nd l = true → l.Nodup
  | [], _ => List.nodup_nil
  | a :: l, h => by
    simp only [va_nd, Bool.and_eq_true, decide_eq_true_eq] at h
    exact List.nodup_cons.mpr ⟨h.1, xNd_of l h.2⟩
theorem ry_sub {ro : xRo} {B : Nat → List Value → xH → xR → Prop} {K : yK} {z : Nat × Nat} {d : Nat} {M : xMeth} {pc : Nat} {ls ls' : xL} {st : List Value} {S : yS} {r : xR} (is : List Nat) (hs : is.filterMap (fun i => ls'[i]?) = ls) (hn : va_nd (ls'.map fun q => q.1) = true) (h : Ry ro B K z d M pc ls st S r) : Ry ro B K z d M pc ls' st S r := by
  obtain ⟨n, hn2⟩ := h
  refine ⟨n, xRun_sub n pc ls ls' st _ r ⟨fun q hq => ?_, ?_⟩ hn2⟩
  · rw [← hs] at hq
    obtain ⟨i, -, hi⟩ := List.mem_filterMap.mp hq
    exact List.mem_of_getElem? hi
  · exact xNd_of _ hn
