/-! ===== what is told: cells of the county and of the row ===== -/
def rU (A : Nat → Int) (j : Nat) (x : Int) (k : Nat) : Int := if k = j then x else A k
theorem rU_eq {A : Nat → Int} {j : Nat} {x : Int} : rU A j x j = x := if_pos rfl
theorem rU_ne {A : Nat → Int} {j k : Nat} {x : Int} (h : k ≠ j) : rU A j x k = A k := if_neg h
theorem rv_w {S : yS} {j : Nat} {x : Int} (h1 : -2147483648 ≤ x) (h2 : x < 2147483648) : rv (ySa S 266 (upd (S.2.2.1 266) j (Int32.ofInt x))) 266 = rU (rv S 266) j x := by
  funext k
  unfold rv rU
  rw [ySa_at]
  unfold upd
  split
  · exact i_toInt h1 h2
  · rfl
theorem cA_same {A A' : Nat → Int} {S S' : yS} (h : cA 0 A S) (hA : ∀ k, 21 ≤ k → k ≤ 112 → A' k = A k) (h2 : ∀ i, 114 ≤ i → i ≤ 131 → S'.2.2.1 i = S.2.2.1 i) : cA 0 A' S' := by
  intro e he k hk
  obtain ⟨r1, r2, r3, r4, r5, r6, r7, r8⟩ := cTab_rng e he
  rw [hA _ (r7 k hk).1 (r7 k hk).2, h2 _ (by omega) (by omega)]
  exact h e he k hk
theorem rA_same {A A' : Nat → Int} (h : rA A) (hA : ∀ k, 21 ≤ k → k ≤ 112 → A' k = A k) : rA A' := by
  intro e he k hk
  obtain ⟨r1, r2, r3, r4, r5, r6, r7, r8⟩ := cTab_rng e he
  rw [hA _ (r7 k hk).1 (r7 k hk).2]
  exact h e he k hk
theorem cA_up {A A' : Nat → Int} {S S' : yS} {id n off st : Nat} {lo hi : Int} (h : cA 0 A S) (he : (id, n, off, st, lo, hi) ∈ cTab) {j : Nat} (hj : j < n) {x : Int} (hA : ∀ k, 21 ≤ k → k ≤ 112 → A' k = rU A (off + st * j) x k) (h1 : S'.2.2.1 id = upd (S.2.2.1 id) j (Int32.ofInt x)) (h2 : ∀ i, 114 ≤ i → i ≤ 131 → i ≠ id → S'.2.2.1 i = S.2.2.1 i) : cA 0 A' S' := by
  intro e he' k hk
  obtain ⟨r1, r2, r3, r4, r5, r6, r7, r8⟩ := cTab_rng e he'
  rw [hA _ (r7 k hk).1 (r7 k hk).2]
  by_cases hid : e.1 = id
  · have e0 := cTab_id e he' _ he hid
    subst e0
    show S'.2.2.1 id k = _
    rw [h1]
    unfold upd
    by_cases hkj : k = j
    · rw [if_pos hkj, hkj, rU_eq]
    · rw [if_neg hkj, rU_ne]
      · exact h _ he' k hk
      · intro hq
        have hq : st * k = st * j := by
          have hq : off + st * k = off + st * j := hq
          omega
        exact hkj (Nat.eq_of_mul_eq_mul_left (by have : 1 ≤ st := r8; omega) hq)
  · have ho := cTab_off e he' _ he hid k hk j hj
    rw [rU_ne ho, h2 _ (by omega) (by omega) (by omega)]
    exact h e he' k hk
theorem rA_up {A A' : Nat → Int} {id n off st : Nat} {lo hi : Int} (h : rA A) (he : (id, n, off, st, lo, hi) ∈ cTab) {j : Nat} (hj : j < n) {x : Int} (hx : lo ≤ x ∧ x ≤ hi) (hA : ∀ k, 21 ≤ k → k ≤ 112 → A' k = rU A (off + st * j) x k) : rA A' := by
  intro e he' k hk
  obtain ⟨r1, r2, r3, r4, r5, r6, r7, r8⟩ := cTab_rng e he'
  rw [hA _ (r7 k hk).1 (r7 k hk).2]
  by_cases hid : e.1 = id
  · have e0 := cTab_id e he' _ he hid
    subst e0
    by_cases hkj : k = j
    · rw [hkj, rU_eq]; exact hx
    · rw [rU_ne]
      · exact h _ he' k hk
      · intro hq
        have hq : st * k = st * j := by
          have hq : off + st * k = off + st * j := hq
          omega
        exact hkj (Nat.eq_of_mul_eq_mul_left (by have : 1 ≤ st := r8; omega) hq)
  · have ho := cTab_off e he' _ he hid k hk j hj
    rw [rU_ne ho]
    exact h e he' k hk
theorem Rel_told {T : yK} {S S2 : yS} (h : Rel T S) (f1 : ∀ i, i ≠ 18 → i ≠ 119 → S2.1 i = S.1 i) (f2 : ∀ i, ¬ (114 ≤ i ∧ i ≤ 131) → i ≠ 266 → S2.2.2.1 i = S.2.2.1 i) (f3 : S2.2.2.2.2 = S.2.2.2.2) (f4 : ∀ k, (k = 1 ∨ k = 3 ∨ (6 ≤ k ∧ k < 21) ∨ 113 ≤ k) → rv S2 266 k = rv S 266 k) (g0 : rv S 266 0 ≤ rv S2 266 0) (g1 : cI 0 (rv S2 266) S2) (g2 : cA 0 (rv S2 266) S2) (g3 : (0 ≤ rv S2 266 0 ∧ rv S2 266 0 ≤ 8) ∧ (-1 ≤ rv S2 266 2 ∧ rv S2 266 2 < rv S 266 1) ∧ (0 ≤ rv S2 266 4 ∧ rv S2 266 4 ≤ 12) ∧ (0 ≤ rv S2 266 5 ∧ rv S2 266 5 ≤ 8)) (g4 : rA (rv S2 266)) (g5 : ∀ k : Nat, (k : Int) < rv S2 266 0 → 1 ≤ rv S2 266 (21 + k) ∧ rv S2 266 (29 + k) < rv S2 266 (21 + k)) : Rel T S2 := by
  obtain ⟨c0, c1, r0, r1, ht, hf, hx⟩ := h
  have e7 : rv S2 267 = rv S 267 := rv_congr (f2 267 (by omega) (by omega))
  have hn : ∀ k, k < 40 → nowF (rv S2 266) k = nowF (rv S 266) k := nowF_congr (fun k a b => f4 k (by omega)) (fun k a b => f4 k (by omega))
  have hs : ∀ i, i < 30 → ∀ k, k < 40 → stF (rv S2 266) i k = stF (rv S 266) i k := fun i hi => stF_congr (fun k a b => f4 k (by omega)) hi
  have e1 := f4 1 (by omega)
  have e3 := f4 3 (by omega)
  have h3 := r0.1.2.2.2.1
  refine ⟨⟨g1, g2, ?_, ?_⟩, ?_, ?_, ?_, ?_, ?_, ?_⟩
  · exact mR_congr c0.2.2.1 (f1 19 (by omega) (by omega)) (f2 20 (by omega) (by omega)) (f2 21 (by omega) (by omega)) hn r0.2.2.2.1.2.2.2.2.2.1.2
  · obtain ⟨q1, q2, fi, q3, q4, q5⟩ := c0.2.2.2
    refine ⟨by rw [f3]; exact q1, by rw [f1 _ (by omega) (by omega), e3]; exact q2, fi, q3, by rw [f1 _ (by omega) (by omega)]; exact q4, fun i hi => ?_⟩
    rw [e3] at hi
    have := Nat.mod_lt (fi + i) (show 0 < 30 by omega)
    exact mR_congr (q5 i hi) (f1 _ (by omega) (by omega)) (f2 _ (by omega) (by omega)) (f2 _ (by omega) (by omega)) (hs i (by omega)) (r0.2.2.2.2 i hi).2.2.2.2.2.1.2
  · rw [e7]
    exact cR_frame c1 r1 (fun i a b => f1 i (by omega) (by omega)) (fun i a b c => f2 i (by omega) (by omega)) (by rw [f3])
  · refine ⟨⟨g3.1, by rw [e1]; exact r0.1.2.1, by rw [e1]; exact g3.2.1, by rw [e3]; exact h3, g3.2.2.1, g3.2.2.2⟩, g4, g5, mI_congr r0.2.2.2.1 g0 hn, fun i hi => ?_⟩
    rw [e3] at hi
    exact mI_congr (r0.2.2.2.2 i hi) g0 (hs i (by omega))
  · rw [e7]; exact r1
  · obtain ⟨n, n1, n2, n3, n4⟩ := ht
    refine ⟨n, n1, ?_, ?_, fun k hk => ?_⟩
    · rw [f1 251 (by omega) (by omega)]; exact n2
    · rw [f1 265 (by omega) (by omega)]; exact n3
    · rw [rv_congr (f2 252 (by omega) (by omega)), f2 252 (by omega) (by omega), f2 269 (by omega) (by omega)]; exact n4 k hk
  · unfold flR
    rw [f1 16 (by omega) (by omega), f1 265 (by omega) (by omega)]; exact hf
  · exact txR_congr hx (fun i hi => f1 i (by omega) (by omega)) (fun i hi => f2 i (by omega) (by omega)) (f2 268 (by omega) (by omega)) f3 e1 (by rw [e7])
/-- both answer the same, and the relation holds behind both -/
def PM (T : yK) (S : yS) (f g : yS → Option (Int32 × yS)) : Prop := ∃ q S1 S2, f S = some (q, S1) ∧ g S1 = some (q, S2) ∧ Rel T S2
def PM0 (S : yS) (f g : yS → Option Int32) : Prop := ∃ q, f S = some q ∧ g S = some q
def PMl (T : yK) (S : yS) (f g : yS → Option (Int64 × yS)) : Prop := ∃ q S1 S2, f S = some (q, S1) ∧ g S1 = some (q, S2) ∧ Rel T S2
/-- one cell told: an array of the county at k, the row at its place -/
theorem Rel_cell {T : yK} {S : yS} (h : Rel T S) {id n off st : Nat} {lo hi : Int} (he : (id, n, off, st, lo, hi) ∈ cTab) {j : Nat} (hj : j < n) {x : Int} (hx : lo ≤ x ∧ x ≤ hi) (ho : 45 ≤ off) : Rel T (ySa (ySa S id (upd (S.2.2.1 id) j (Int32.ofInt x))) 266 (upd (S.2.2.1 266) (off + st * j) (Int32.ofInt x))) := by
  obtain ⟨r1, r2, r3, r4, r5, r6, r7, r8⟩ := cTab_rng _ he
  dsimp only at r1 r2 r3 r4 r5 r6 r7 r8
  have r9 := r7 j hj
  have hb : -2147483648 ≤ x ∧ x < 2147483648 := by
    have : ∀ e ∈ cTab, -99 ≤ e.2.2.2.2.1 ∧ e.2.2.2.2.2 ≤ 999 := by decide
    have := this _ he
    dsimp only at this
    omega
  have eA : rv (ySa (ySa S id (upd (S.2.2.1 id) j (Int32.ofInt x))) 266 (upd (S.2.2.1 266) (off + st * j) (Int32.ofInt x))) 266 = rU (rv S 266) (off + st * j) x := by
    have e1 : (ySa S id (upd (S.2.2.1 id) j (Int32.ofInt x))).2.2.1 266 = S.2.2.1 266 := ySa_ne S _ (by omega)
    rw [← e1, rv_w hb.1 hb.2, rv_congr e1]
  have eF : ∀ i, i ≠ 266 → i ≠ id → (ySa (ySa S id (upd (S.2.2.1 id) j (Int32.ofInt x))) 266 (upd (S.2.2.1 266) (off + st * j) (Int32.ofInt x))).2.2.1 i = S.2.2.1 i := fun i h1 h2 => by rw [ySa_ne _ _ h1, ySa_ne _ _ h2]
  have eI : (ySa (ySa S id (upd (S.2.2.1 id) j (Int32.ofInt x))) 266 (upd (S.2.2.1 266) (off + st * j) (Int32.ofInt x))).2.2.1 id = upd (S.2.2.1 id) j (Int32.ofInt x) := by rw [ySa_ne _ _ (by omega), ySa_at]
  have c0 := h.1
  have r0 := h.2.2.1
  refine Rel_told h (fun _ _ _ => rfl) (fun i a b => eF i b (by omega)) rfl (fun k hk => ?_) ?_ ?_ ?_ ?_ ?_ ?_
  · rw [eA, rU_ne (by omega)]
  · rw [eA, rU_ne (by omega)]; exact Int.le_refl _
  · unfold cI
    rw [eA, rU_ne (by omega), rU_ne (by omega), rU_ne (by omega), rU_ne (by omega), rU_ne (by omega)]
    exact c0.1
  · rw [eA]
    exact cA_up c0.2.1 he hj (fun _ _ _ => rfl) eI (fun i a b c => eF i (by omega) c)
  · rw [eA, rU_ne (by omega), rU_ne (by omega), rU_ne (by omega), rU_ne (by omega)]
    exact ⟨r0.1.1, r0.1.2.2.1, r0.1.2.2.2.2.1, r0.1.2.2.2.2.2⟩
  · rw [eA]
    exact rA_up r0.2.1 he hj hx (fun _ _ _ => rfl)
  · intro k hk
    have h0 := r0.1.1
    rw [eA] at hk ⊢
    rw [rU_ne (by omega)] at hk
    rw [rU_ne (by omega), rU_ne (by omega)]
    exact r0.2.2.1 k hk
section PMS
variable {T : yK} {S : yS}
theorem pm_rhyme (h : Rel T S) (v0 v1 : Int32) : PM T S (fX11_rhyme v0 v1) (fX12_rhyme v0 v1) := by
  obtain ⟨a, a1, a2, rfl⟩ := i_ex v0
  obtain ⟨b, b1, b2, rfl⟩ := i_ex v1
  unfold PM fX11_rhyme fX12_rhyme
  by_cases ha : 0 ≤ a ∧ a ≤ 8
  · by_cases hb : 0 ≤ b ∧ b ≤ 9
    · obtain ⟨k, rfl⟩ := Int.eq_ofNat_of_zero_le ha.1
      refine ⟨Int32.ofInt 1, ySa S 117 (upd (S.2.2.1 117) k (Int32.ofInt b)), ySa (ySa S 117 (upd (S.2.2.1 117) k (Int32.ofInt b))) 266 (upd (S.2.2.1 266) (45 + 1 * k) (Int32.ofInt b)), ?_, ?_, Rel_cell h (show (117, 9, 45, 1, (0 : Int), (9 : Int)) ∈ cTab by decide) (by omega) hb (by omega)⟩
      · refine h_neg (by first | omega | ((simp (disch := omega) only [i0, i1, i_lt, i_le, i_eq, i_add, i_sub, i_mul, i_neg, i_ofNat, i_rem, i_div, w_in, w_in2, w_cnt, w_cnt2, z01, z01', il, li, lc_ge, lc_le, lc_gt, lc_lt, lc_eq, l_ofNat, l0, l_eq, l_lt, l_le]) <;> omega)) (h_pos (by first | omega | ((simp (disch := omega) only [i0, i1, i_lt, i_le, i_eq, i_add, i_sub, i_mul, i_neg, i_ofNat, i_rem, i_div, w_in, w_in2, w_cnt, w_cnt2, z01, z01', il, li, lc_ge, lc_le, lc_gt, lc_lt, lc_eq, l_ofNat, l0, l_eq, l_lt, l_le]) <;> omega)) ?_)
        exact h_ainN (by omega) (by omega) rfl
      · rw [i_add, show (45 : Int) + (k : Int) = ((45 + 1 * k : Nat) : Int) by omega]
        refine h_neg (by first | omega | ((simp (disch := omega) only [i0, i1, i_lt, i_le, i_eq, i_add, i_sub, i_mul, i_neg, i_ofNat, i_rem, i_div, w_in, w_in2, w_cnt, w_cnt2, z01, z01', il, li, lc_ge, lc_le, lc_gt, lc_lt, lc_eq, l_ofNat, l0, l_eq, l_lt, l_le]) <;> omega)) (h_pos (by first | omega | ((simp (disch := omega) only [i0, i1, i_lt, i_le, i_eq, i_add, i_sub, i_mul, i_neg, i_ofNat, i_rem, i_div, w_in, w_in2, w_cnt, w_cnt2, z01, z01', il, li, lc_ge, lc_le, lc_gt, lc_lt, lc_eq, l_ofNat, l0, l_eq, l_lt, l_le]) <;> omega)) ?_)
        exact h_ainN (by omega) (by omega) rfl
    · refine ⟨Int32.ofInt 0, S, S, ?_, ?_, h⟩
      · exact h_neg (by first | omega | ((simp (disch := omega) only [i0, i1, i_lt, i_le, i_eq, i_add, i_sub, i_mul, i_neg, i_ofNat, i_rem, i_div, w_in, w_in2, w_cnt, w_cnt2, z01, z01', il, li, lc_ge, lc_le, lc_gt, lc_lt, lc_eq, l_ofNat, l0, l_eq, l_lt, l_le]) <;> omega)) (h_neg (by first | omega | ((simp (disch := omega) only [i0, i1, i_lt, i_le, i_eq, i_add, i_sub, i_mul, i_neg, i_ofNat, i_rem, i_div, w_in, w_in2, w_cnt, w_cnt2, z01, z01', il, li, lc_ge, lc_le, lc_gt, lc_lt, lc_eq, l_ofNat, l0, l_eq, l_lt, l_le]) <;> omega)) rfl)
      · exact h_neg (by first | omega | ((simp (disch := omega) only [i0, i1, i_lt, i_le, i_eq, i_add, i_sub, i_mul, i_neg, i_ofNat, i_rem, i_div, w_in, w_in2, w_cnt, w_cnt2, z01, z01', il, li, lc_ge, lc_le, lc_gt, lc_lt, lc_eq, l_ofNat, l0, l_eq, l_lt, l_le]) <;> omega)) (h_neg (by first | omega | ((simp (disch := omega) only [i0, i1, i_lt, i_le, i_eq, i_add, i_sub, i_mul, i_neg, i_ofNat, i_rem, i_div, w_in, w_in2, w_cnt, w_cnt2, z01, z01', il, li, lc_ge, lc_le, lc_gt, lc_lt, lc_eq, l_ofNat, l0, l_eq, l_lt, l_le]) <;> omega)) rfl)
  · refine ⟨Int32.ofInt 0, S, S, ?_, ?_, h⟩
    · exact h_pos (by first | omega | ((simp (disch := omega) only [i0, i1, i_lt, i_le, i_eq, i_add, i_sub, i_mul, i_neg, i_ofNat, i_rem, i_div, w_in, w_in2, w_cnt, w_cnt2, z01, z01', il, li, lc_ge, lc_le, lc_gt, lc_lt, lc_eq, l_ofNat, l0, l_eq, l_lt, l_le]) <;> omega)) rfl
    · exact h_pos (by first | omega | ((simp (disch := omega) only [i0, i1, i_lt, i_le, i_eq, i_add, i_sub, i_mul, i_neg, i_ofNat, i_rem, i_div, w_in, w_in2, w_cnt, w_cnt2, z01, z01', il, li, lc_ge, lc_le, lc_gt, lc_lt, lc_eq, l_ofNat, l0, l_eq, l_lt, l_le]) <;> omega)) rfl
theorem pm_follows (h : Rel T S) (v0 v1 : Int32) : PM T S (fX11_follows v0 v1) (fX12_follows v0 v1) := by
  obtain ⟨a, a1, a2, rfl⟩ := i_ex v0
  obtain ⟨b, b1, b2, rfl⟩ := i_ex v1
  unfold PM fX11_follows fX12_follows
  by_cases ha : 0 ≤ a ∧ a ≤ 8
  · by_cases hb : 0 ≤ b ∧ b ≤ 8
    · obtain ⟨k, rfl⟩ := Int.eq_ofNat_of_zero_le ha.1
      refine ⟨Int32.ofInt 1, ySa S 123 (upd (S.2.2.1 123) k (Int32.ofInt b)), ySa (ySa S 123 (upd (S.2.2.1 123) k (Int32.ofInt b))) 266 (upd (S.2.2.1 266) (78 + 1 * k) (Int32.ofInt b)), ?_, ?_, Rel_cell h (show (123, 9, 78, 1, (0 : Int), (8 : Int)) ∈ cTab by decide) (by omega) hb (by omega)⟩
      · refine h_neg (by first | omega | ((simp (disch := omega) only [i0, i1, i_lt, i_le, i_eq, i_add, i_sub, i_mul, i_neg, i_ofNat, i_rem, i_div, w_in, w_in2, w_cnt, w_cnt2, z01, z01', il, li, lc_ge, lc_le, lc_gt, lc_lt, lc_eq, l_ofNat, l0, l_eq, l_lt, l_le]) <;> omega)) (h_pos (by first | omega | ((simp (disch := omega) only [i0, i1, i_lt, i_le, i_eq, i_add, i_sub, i_mul, i_neg, i_ofNat, i_rem, i_div, w_in, w_in2, w_cnt, w_cnt2, z01, z01', il, li, lc_ge, lc_le, lc_gt, lc_lt, lc_eq, l_ofNat, l0, l_eq, l_lt, l_le]) <;> omega)) ?_)
        exact h_ainN (by omega) (by omega) rfl
      · rw [i_add, show (78 : Int) + (k : Int) = ((78 + 1 * k : Nat) : Int) by omega]
        refine h_neg (by first | omega | ((simp (disch := omega) only [i0, i1, i_lt, i_le, i_eq, i_add, i_sub, i_mul, i_neg, i_ofNat, i_rem, i_div, w_in, w_in2, w_cnt, w_cnt2, z01, z01', il, li, lc_ge, lc_le, lc_gt, lc_lt, lc_eq, l_ofNat, l0, l_eq, l_lt, l_le]) <;> omega)) (h_pos (by first | omega | ((simp (disch := omega) only [i0, i1, i_lt, i_le, i_eq, i_add, i_sub, i_mul, i_neg, i_ofNat, i_rem, i_div, w_in, w_in2, w_cnt, w_cnt2, z01, z01', il, li, lc_ge, lc_le, lc_gt, lc_lt, lc_eq, l_ofNat, l0, l_eq, l_lt, l_le]) <;> omega)) ?_)
        exact h_ainN (by omega) (by omega) rfl
    · refine ⟨Int32.ofInt 0, S, S, ?_, ?_, h⟩
      · exact h_neg (by first | omega | ((simp (disch := omega) only [i0, i1, i_lt, i_le, i_eq, i_add, i_sub, i_mul, i_neg, i_ofNat, i_rem, i_div, w_in, w_in2, w_cnt, w_cnt2, z01, z01', il, li, lc_ge, lc_le, lc_gt, lc_lt, lc_eq, l_ofNat, l0, l_eq, l_lt, l_le]) <;> omega)) (h_neg (by first | omega | ((simp (disch := omega) only [i0, i1, i_lt, i_le, i_eq, i_add, i_sub, i_mul, i_neg, i_ofNat, i_rem, i_div, w_in, w_in2, w_cnt, w_cnt2, z01, z01', il, li, lc_ge, lc_le, lc_gt, lc_lt, lc_eq, l_ofNat, l0, l_eq, l_lt, l_le]) <;> omega)) rfl)
      · exact h_neg (by first | omega | ((simp (disch := omega) only [i0, i1, i_lt, i_le, i_eq, i_add, i_sub, i_mul, i_neg, i_ofNat, i_rem, i_div, w_in, w_in2, w_cnt, w_cnt2, z01, z01', il, li, lc_ge, lc_le, lc_gt, lc_lt, lc_eq, l_ofNat, l0, l_eq, l_lt, l_le]) <;> omega)) (h_neg (by first | omega | ((simp (disch := omega) only [i0, i1, i_lt, i_le, i_eq, i_add, i_sub, i_mul, i_neg, i_ofNat, i_rem, i_div, w_in, w_in2, w_cnt, w_cnt2, z01, z01', il, li, lc_ge, lc_le, lc_gt, lc_lt, lc_eq, l_ofNat, l0, l_eq, l_lt, l_le]) <;> omega)) rfl)
  · refine ⟨Int32.ofInt 0, S, S, ?_, ?_, h⟩
    · exact h_pos (by first | omega | ((simp (disch := omega) only [i0, i1, i_lt, i_le, i_eq, i_add, i_sub, i_mul, i_neg, i_ofNat, i_rem, i_div, w_in, w_in2, w_cnt, w_cnt2, z01, z01', il, li, lc_ge, lc_le, lc_gt, lc_lt, lc_eq, l_ofNat, l0, l_eq, l_lt, l_le]) <;> omega)) rfl
    · exact h_pos (by first | omega | ((simp (disch := omega) only [i0, i1, i_lt, i_le, i_eq, i_add, i_sub, i_mul, i_neg, i_ofNat, i_rem, i_div, w_in, w_in2, w_cnt, w_cnt2, z01, z01', il, li, lc_ge, lc_le, lc_gt, lc_lt, lc_eq, l_ofNat, l0, l_eq, l_lt, l_le]) <;> omega)) rfl
theorem pm_votes (h : Rel T S) (v0 v1 : Int32) : PM T S (fX11_votes v0 v1) (fX12_votes v0 v1) := by
  obtain ⟨a, a1, a2, rfl⟩ := i_ex v0
  obtain ⟨b, b1, b2, rfl⟩ := i_ex v1
  unfold PM fX11_votes fX12_votes fX11_isParish
  by_cases ha : 0 ≤ a ∧ a ≤ 4
  · by_cases hb : 0 ≤ b ∧ b ≤ 999
    · obtain ⟨k, rfl⟩ := Int.eq_ofNat_of_zero_le ha.1
      refine ⟨Int32.ofInt 1, ySa S 125 (upd (S.2.2.1 125) k (Int32.ofInt b)), ySa (ySa S 125 (upd (S.2.2.1 125) k (Int32.ofInt b))) 266 (upd (S.2.2.1 266) (87 + 1 * k) (Int32.ofInt b)), ?_, ?_, Rel_cell h (show (125, 5, 87, 1, (0 : Int), (999 : Int)) ∈ cTab by decide) (by omega) hb (by omega)⟩
      · refine h_neg (by first | omega | ((simp (disch := omega) only [i0, i1, i_lt, i_le, i_eq, i_add, i_sub, i_mul, i_neg, i_ofNat, i_rem, i_div, w_in, w_in2, w_cnt, w_cnt2, z01, z01', il, li, lc_ge, lc_le, lc_gt, lc_lt, lc_eq, l_ofNat, l0, l_eq, l_lt, l_le]) <;> omega)) (h_pos (by first | omega | ((simp (disch := omega) only [i0, i1, i_lt, i_le, i_eq, i_add, i_sub, i_mul, i_neg, i_ofNat, i_rem, i_div, w_in, w_in2, w_cnt, w_cnt2, z01, z01', il, li, lc_ge, lc_le, lc_gt, lc_lt, lc_eq, l_ofNat, l0, l_eq, l_lt, l_le]) <;> omega)) ?_)
        exact h_ainN (by omega) (by omega) rfl
      · rw [i_add, show (87 : Int) + (k : Int) = ((87 + 1 * k : Nat) : Int) by omega]
        refine h_neg (by first | omega | ((simp (disch := omega) only [i0, i1, i_lt, i_le, i_eq, i_add, i_sub, i_mul, i_neg, i_ofNat, i_rem, i_div, w_in, w_in2, w_cnt, w_cnt2, z01, z01', il, li, lc_ge, lc_le, lc_gt, lc_lt, lc_eq, l_ofNat, l0, l_eq, l_lt, l_le]) <;> omega)) (h_pos (by first | omega | ((simp (disch := omega) only [i0, i1, i_lt, i_le, i_eq, i_add, i_sub, i_mul, i_neg, i_ofNat, i_rem, i_div, w_in, w_in2, w_cnt, w_cnt2, z01, z01', il, li, lc_ge, lc_le, lc_gt, lc_lt, lc_eq, l_ofNat, l0, l_eq, l_lt, l_le]) <;> omega)) ?_)
        exact h_ainN (by omega) (by omega) rfl
    · refine ⟨Int32.ofInt 0, S, S, ?_, ?_, h⟩
      · exact h_neg (by first | omega | ((simp (disch := omega) only [i0, i1, i_lt, i_le, i_eq, i_add, i_sub, i_mul, i_neg, i_ofNat, i_rem, i_div, w_in, w_in2, w_cnt, w_cnt2, z01, z01', il, li, lc_ge, lc_le, lc_gt, lc_lt, lc_eq, l_ofNat, l0, l_eq, l_lt, l_le]) <;> omega)) (h_neg (by first | omega | ((simp (disch := omega) only [i0, i1, i_lt, i_le, i_eq, i_add, i_sub, i_mul, i_neg, i_ofNat, i_rem, i_div, w_in, w_in2, w_cnt, w_cnt2, z01, z01', il, li, lc_ge, lc_le, lc_gt, lc_lt, lc_eq, l_ofNat, l0, l_eq, l_lt, l_le]) <;> omega)) rfl)
      · exact h_neg (by first | omega | ((simp (disch := omega) only [i0, i1, i_lt, i_le, i_eq, i_add, i_sub, i_mul, i_neg, i_ofNat, i_rem, i_div, w_in, w_in2, w_cnt, w_cnt2, z01, z01', il, li, lc_ge, lc_le, lc_gt, lc_lt, lc_eq, l_ofNat, l0, l_eq, l_lt, l_le]) <;> omega)) (h_neg (by first | omega | ((simp (disch := omega) only [i0, i1, i_lt, i_le, i_eq, i_add, i_sub, i_mul, i_neg, i_ofNat, i_rem, i_div, w_in, w_in2, w_cnt, w_cnt2, z01, z01', il, li, lc_ge, lc_le, lc_gt, lc_lt, lc_eq, l_ofNat, l0, l_eq, l_lt, l_le]) <;> omega)) rfl)
  · refine ⟨Int32.ofInt 0, S, S, ?_, ?_, h⟩
    · exact h_pos (by first | omega | ((simp (disch := omega) only [i0, i1, i_lt, i_le, i_eq, i_add, i_sub, i_mul, i_neg, i_ofNat, i_rem, i_div, w_in, w_in2, w_cnt, w_cnt2, z01, z01', il, li, lc_ge, lc_le, lc_gt, lc_lt, lc_eq, l_ofNat, l0, l_eq, l_lt, l_le]) <;> omega)) rfl
    · exact h_pos (by first | omega | ((simp (disch := omega) only [i0, i1, i_lt, i_le, i_eq, i_add, i_sub, i_mul, i_neg, i_ofNat, i_rem, i_div, w_in, w_in2, w_cnt, w_cnt2, z01, z01', il, li, lc_ge, lc_le, lc_gt, lc_lt, lc_eq, l_ofNat, l0, l_eq, l_lt, l_le]) <;> omega)) rfl
theorem pm_ranks (h : Rel T S) (v0 v1 : Int32) : PM T S (fX11_ranks v0 v1) (fX12_ranks v0 v1) := by
  obtain ⟨a, a1, a2, rfl⟩ := i_ex v0
  obtain ⟨b, b1, b2, rfl⟩ := i_ex v1
  unfold PM fX11_ranks fX12_ranks fX11_isParish
  by_cases ha : 0 ≤ a ∧ a ≤ 4
  · by_cases hb : 0 ≤ b ∧ b ≤ 23
    · obtain ⟨k, rfl⟩ := Int.eq_ofNat_of_zero_le ha.1
      refine ⟨Int32.ofInt 1, ySa S 126 (upd (S.2.2.1 126) k (Int32.ofInt b)), ySa (ySa S 126 (upd (S.2.2.1 126) k (Int32.ofInt b))) 266 (upd (S.2.2.1 266) (108 + 1 * k) (Int32.ofInt b)), ?_, ?_, Rel_cell h (show (126, 5, 108, 1, (0 : Int), (23 : Int)) ∈ cTab by decide) (by omega) hb (by omega)⟩
      · refine h_neg (by first | omega | ((simp (disch := omega) only [i0, i1, i_lt, i_le, i_eq, i_add, i_sub, i_mul, i_neg, i_ofNat, i_rem, i_div, w_in, w_in2, w_cnt, w_cnt2, z01, z01', il, li, lc_ge, lc_le, lc_gt, lc_lt, lc_eq, l_ofNat, l0, l_eq, l_lt, l_le]) <;> omega)) (h_pos (by first | omega | ((simp (disch := omega) only [i0, i1, i_lt, i_le, i_eq, i_add, i_sub, i_mul, i_neg, i_ofNat, i_rem, i_div, w_in, w_in2, w_cnt, w_cnt2, z01, z01', il, li, lc_ge, lc_le, lc_gt, lc_lt, lc_eq, l_ofNat, l0, l_eq, l_lt, l_le]) <;> omega)) ?_)
        exact h_ainN (by omega) (by omega) rfl
      · rw [i_add, show (108 : Int) + (k : Int) = ((108 + 1 * k : Nat) : Int) by omega]
        refine h_neg (by first | omega | ((simp (disch := omega) only [i0, i1, i_lt, i_le, i_eq, i_add, i_sub, i_mul, i_neg, i_ofNat, i_rem, i_div, w_in, w_in2, w_cnt, w_cnt2, z01, z01', il, li, lc_ge, lc_le, lc_gt, lc_lt, lc_eq, l_ofNat, l0, l_eq, l_lt, l_le]) <;> omega)) (h_pos (by first | omega | ((simp (disch := omega) only [i0, i1, i_lt, i_le, i_eq, i_add, i_sub, i_mul, i_neg, i_ofNat, i_rem, i_div, w_in, w_in2, w_cnt, w_cnt2, z01, z01', il, li, lc_ge, lc_le, lc_gt, lc_lt, lc_eq, l_ofNat, l0, l_eq, l_lt, l_le]) <;> omega)) ?_)
        exact h_ainN (by omega) (by omega) rfl
    · refine ⟨Int32.ofInt 0, S, S, ?_, ?_, h⟩
      · exact h_neg (by first | omega | ((simp (disch := omega) only [i0, i1, i_lt, i_le, i_eq, i_add, i_sub, i_mul, i_neg, i_ofNat, i_rem, i_div, w_in, w_in2, w_cnt, w_cnt2, z01, z01', il, li, lc_ge, lc_le, lc_gt, lc_lt, lc_eq, l_ofNat, l0, l_eq, l_lt, l_le]) <;> omega)) (h_neg (by first | omega | ((simp (disch := omega) only [i0, i1, i_lt, i_le, i_eq, i_add, i_sub, i_mul, i_neg, i_ofNat, i_rem, i_div, w_in, w_in2, w_cnt, w_cnt2, z01, z01', il, li, lc_ge, lc_le, lc_gt, lc_lt, lc_eq, l_ofNat, l0, l_eq, l_lt, l_le]) <;> omega)) rfl)
      · exact h_neg (by first | omega | ((simp (disch := omega) only [i0, i1, i_lt, i_le, i_eq, i_add, i_sub, i_mul, i_neg, i_ofNat, i_rem, i_div, w_in, w_in2, w_cnt, w_cnt2, z01, z01', il, li, lc_ge, lc_le, lc_gt, lc_lt, lc_eq, l_ofNat, l0, l_eq, l_lt, l_le]) <;> omega)) (h_neg (by first | omega | ((simp (disch := omega) only [i0, i1, i_lt, i_le, i_eq, i_add, i_sub, i_mul, i_neg, i_ofNat, i_rem, i_div, w_in, w_in2, w_cnt, w_cnt2, z01, z01', il, li, lc_ge, lc_le, lc_gt, lc_lt, lc_eq, l_ofNat, l0, l_eq, l_lt, l_le]) <;> omega)) rfl)
  · refine ⟨Int32.ofInt 0, S, S, ?_, ?_, h⟩
    · exact h_pos (by first | omega | ((simp (disch := omega) only [i0, i1, i_lt, i_le, i_eq, i_add, i_sub, i_mul, i_neg, i_ofNat, i_rem, i_div, w_in, w_in2, w_cnt, w_cnt2, z01, z01', il, li, lc_ge, lc_le, lc_gt, lc_lt, lc_eq, l_ofNat, l0, l_eq, l_lt, l_le]) <;> omega)) rfl
    · exact h_pos (by first | omega | ((simp (disch := omega) only [i0, i1, i_lt, i_le, i_eq, i_add, i_sub, i_mul, i_neg, i_ofNat, i_rem, i_div, w_in, w_in2, w_cnt, w_cnt2, z01, z01', il, li, lc_ge, lc_le, lc_gt, lc_lt, lc_eq, l_ofNat, l0, l_eq, l_lt, l_le]) <;> omega)) rfl
end PMS
