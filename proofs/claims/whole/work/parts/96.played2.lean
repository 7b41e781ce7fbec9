/-! ===== played ===== -/
def plB (A : Nat → Int) (sr v w : Int) : Bool := if sr = 2 then bdB A v w else if sr = 3 then rhB v w else if sr = 4 then thB A v else if sr = 5 then clB A v else if sr = 6 then gnB A v else if sr = 7 then decide (v ≤ 9999 - A 6) else true
def plA (W : Nat → wP) (A : Nat → Int) (sr v w : Int) : Nat → Int := if sr = 2 then (if bdB A v w = true then bdA A v w else A) else if sr = 3 then (if rhB v w = true then rhA A v w else A) else if sr = 4 then thA A v else if sr = 5 then caA A v else if sr = 6 then grA A v else if sr = 7 then dyA W (min v (9999 - A 6)).toNat A else A
section PMS
variable {T : yK} {S S' S1 S2 : yS} {A A' : Nat → Int} {W : Nat → wP}
theorem k_clause (h : ClR T A S W) {N : Nat} (hN : 2000000 ≤ N) {sr v w a b : Int} (hs : 0 ≤ sr ∧ sr ≤ 7) (hv : 2 ≤ sr → 0 ≤ v ∧ v ≤ 999 ∧ a = v) (h7 : sr = 7 → 1 ≤ v ∧ v ≤ 60) (hw : sr = 2 ∨ sr = 3 → 0 ≤ w ∧ w ≤ 10 ∧ b = w) : ∃ S1, fX11_playClause N T (Int32.ofInt (vbC sr)) (Int32.ofInt a) (Int32.ofInt b) S = some (Int32.ofInt (if plB A sr v w = true then 1 else 0), S1) ∧ ClR T (plA W A sr v w) S1 W ∧ Gp S S1 := by
  have hr := h.2.1
  have h6 := I_day hr
  have h0 := I_i0 hr
  have hc : sr = 0 ∨ sr = 1 ∨ sr = 2 ∨ sr = 3 ∨ sr = 4 ∨ sr = 5 ∨ sr = 6 ∨ sr = 7 := by omega
  unfold fX11_playClause
  rcases hc with rfl | rfl | rfl | rfl | rfl | rfl | rfl | rfl
  · exact ⟨S, h_neg (by decide) (h_neg (by decide) (h_neg (by decide) (h_neg (by decide) (h_neg (by decide) (h_neg (by decide) rfl))))), h, Gp_refl S⟩
  · exact ⟨S, h_neg (by decide) (h_neg (by decide) (h_neg (by decide) (h_neg (by decide) (h_neg (by decide) (h_neg (by decide) rfl))))), h, Gp_refl S⟩
  · obtain ⟨v1, v2, rfl⟩ := hv (by omega)
    obtain ⟨w1, w2, rfl⟩ := hw (by omega)
    obtain ⟨S1, a1, a2, a3⟩ := k_bird h (p := a) (d := b) (by omega) (by omega) (by omega) (by omega)
    refine ⟨S1, h_neg (by decide) (h_neg (by decide) (h_pos (by decide) (h_bind a1 ?_))), a2, a3⟩
    dsimp only
    show _ = some (Int32.ofInt (if bdB A a b = true then 1 else 0), S1)
    by_cases q : bdB A a b = true
    · simp only [if_pos q]
      exact h_neg (by first | omega | ((simp (disch := omega) only [i0, i1, i_lt, i_le, i_eq, i_add, i_sub, i_mul, i_neg, i_ofNat, i_rem, i_div, w_in, w_in2, w_cnt, w_cnt2, z01, z01', il, li, lc_ge, lc_le, lc_gt, lc_lt, lc_eq, l_ofNat, l0, l_eq, l_lt, l_le]) <;> omega)) rfl
    · simp only [if_neg q]
      exact h_pos trivial rfl
  · obtain ⟨v1, v2, rfl⟩ := hv (by omega)
    obtain ⟨w1, w2, rfl⟩ := hw (by omega)
    obtain ⟨S1, a1, a2, a3⟩ := k_rhyme h (c := a) (x := b) (by omega) (by omega) (by omega) (by omega)
    refine ⟨S1, h_neg (by decide) (h_pos (by decide) (h_bind a1 ?_)), a2, a3⟩
    dsimp only
    rw [i0, i1]
    exact h_pos (by rw [z01']; trivial) rfl
  · obtain ⟨v1, v2, rfl⟩ := hv (by omega)
    obtain ⟨S1, a1, a2, a3⟩ := k_thin h (v := a) (by omega) (by omega)
    refine ⟨S1, h_neg (by decide) (h_neg (by decide) (h_neg (by decide) (h_pos (by decide) (h_bind a1 ?_)))), a2, Gp_Gs a3⟩
    dsimp only
    rw [i0, i1]
    exact h_pos (by rw [z01']; trivial) rfl
  · obtain ⟨v1, v2, rfl⟩ := hv (by omega)
    obtain ⟨S1, a1, a2, a3⟩ := k_call h (v := a) (by omega) (by omega)
    refine ⟨S1, h_neg (by decide) (h_neg (by decide) (h_neg (by decide) (h_neg (by decide) (h_pos (by decide) (h_bind a1 ?_))))), a2, Gp_Gs a3⟩
    dsimp only
    rw [i0, i1]
    exact h_pos (by rw [z01']; trivial) rfl
  · obtain ⟨v1, v2, rfl⟩ := hv (by omega)
    obtain ⟨S1, a1, a2, a3⟩ := k_grant h (v := a) (by omega) (by omega)
    refine ⟨S1, h_neg (by decide) (h_neg (by decide) (h_neg (by decide) (h_neg (by decide) (h_neg (by decide) (h_pos (by decide) (h_bind a1 ?_)))))), a2, Gp_Gs a3⟩
    dsimp only
    rw [i0, i1]
    exact h_pos (by rw [z01']; trivial) rfl
  · obtain ⟨v1, v2, rfl⟩ := hv (by omega)
    have hv7 := h7 rfl
    obtain ⟨r, hrr⟩ : ∃ r : Nat, min a (9999 - A 6) = r := ⟨(min a (9999 - A 6)).toNat, by omega⟩
    obtain ⟨S1, a1, a2, a3⟩ := k_days (W := W) hN r N 0 0 S A h (by omega) (by omega) (by omega)
    rw [Nat.zero_add, Nat.zero_add] at a1
    have eA : plA W A 7 a w = dyA W r A := by
      show dyA W (min a (9999 - A 6)).toNat A = _
      rw [hrr, Int.toNat_natCast]
    have eB : plB A 7 a w = decide (a ≤ 9999 - A 6) := rfl
    rw [eA, eB, K_day h.1, i_sub]
    refine ⟨S1, h_pos (by decide) (h_pst ?_), a2, Gp_Gs a3⟩
    have ew : (if Int32.ofInt (9999 - A 6) < Int32.ofInt a then Int32.ofInt (9999 - A 6) else Int32.ofInt a) = Int32.ofInt (r : Int) := by
      by_cases q : 9999 - A 6 < a
      · rw [← hrr]
        refine h_pos (by first | omega | ((simp (disch := omega) only [i0, i1, i_lt, i_le, i_eq, i_add, i_sub, i_mul, i_neg, i_ofNat, i_rem, i_div, w_in, w_in2, w_cnt, w_cnt2, z01, z01', il, li, lc_ge, lc_le, lc_gt, lc_lt, lc_eq, l_ofNat, l0, l_eq, l_lt, l_le]) <;> omega)) ?_
        congr 1
        omega
      · rw [← hrr]
        refine h_neg (by first | omega | ((simp (disch := omega) only [i0, i1, i_lt, i_le, i_eq, i_add, i_sub, i_mul, i_neg, i_ofNat, i_rem, i_div, w_in, w_in2, w_cnt, w_cnt2, z01, z01', il, li, lc_ge, lc_le, lc_gt, lc_lt, lc_eq, l_ofNat, l0, l_eq, l_lt, l_le]) <;> omega)) ?_
        congr 1
        omega
    rw [ew]
    refine h_bind (v := (Int32.ofInt ((dyC W r A : Nat) : Int), S1)) a1 ?_
    dsimp only
    by_cases q : a ≤ 9999 - A 6
    · rw [decide_eq_true q]
      exact h_neg (fun z => z (by rw [← hrr]; congr 1; omega)) rfl
    · rw [decide_eq_false q]
      exact h_pos (by first | omega | ((simp (disch := omega) only [i0, i1, i_lt, i_le, i_eq, i_add, i_sub, i_mul, i_neg, i_ofNat, i_rem, i_div, w_in, w_in2, w_cnt, w_cnt2, z01, z01', il, li, lc_ge, lc_le, lc_gt, lc_lt, lc_eq, l_ofNat, l0, l_eq, l_lt, l_le]) <;> omega)) rfl
theorem q_clause (h : RfR S W) (hA : rv S 266 = A) {N : Nat} (hN : 2000000 ≤ N) (hw23 : S.1 265 23 = Int32.ofInt 1) {x : Nat} (hx : x < 2722) {sr v w : Int} (e0 : rv S 268 x = sr) (e1 : rv S 268 (x + 1) = v) (e2 : rv S 268 (x + 2) = w) (hs : 0 ≤ sr ∧ sr ≤ 7) (hv : 2 ≤ sr → 0 ≤ v ∧ v ≤ 999) (h7 : sr = 7 → 1 ≤ v ∧ v ≤ 60) : ∃ S1, fX12_isPlayed N (Int32.ofInt (x : Int)) S = some (Int32.ofInt (if plB A sr v w = true then 1 else 0), S1) ∧ RfR S1 W ∧ rv S1 266 = plA W A sr v w ∧ Hn S S1 := by
  have hr := h.1
  rw [hA] at hr
  have h6 := I_day hr
  have h0 := I_i0 hr
  have v1 := rv_ge S 268 (x + 1)
  have v2 := rv_lt S 268 (x + 1)
  have w1 := rv_ge S 268 (x + 2)
  have w2 := rv_lt S 268 (x + 2)
  rw [e1] at v1 v2
  rw [e2] at w1 w2
  have hc : sr = 0 ∨ sr = 1 ∨ sr = 2 ∨ sr = 3 ∨ sr = 4 ∨ sr = 5 ∨ sr = 6 ∨ sr = 7 := by omega
  unfold fX12_isPlayed
  rw [i_add, i_add, show (x : Int) + 1 = ((x + 1 : Nat) : Int) by omega, show (x : Int) + 2 = ((x + 2 : Nat) : Int) by omega]
  have g : ∀ X, (pSt (Int32.ofInt sr) fun w4 => (if w4 = (Int32.ofInt 2) then (fX12_bird (Int32.ofInt v) (Int32.ofInt 0) (Int32.ofInt w) S).bind fun (u22, S21) => (if u22 < 0 then some ((Int32.ofInt 0), S21) else some ((Int32.ofInt 1), S21)) else (if w4 = (Int32.ofInt 3) then (fX12_rhyme (Int32.ofInt v) (Int32.ofInt w) S).bind fun (u19, S18) => (if u19 = 0 ∨ u19 = 1 then some (u19, S18) else none) else (if w4 = (Int32.ofInt 4) then (fX12_thin N (Int32.ofInt v) S).bind fun (u16, S15) => (if u16 = 0 ∨ u16 = 1 then some (u16, S15) else none) else (if w4 = (Int32.ofInt 5) then (fX12_call N (Int32.ofInt v) S).bind fun (u13, S12) => (if u13 = 0 ∨ u13 = 1 then some (u13, S12) else none) else (if w4 = (Int32.ofInt 6) then (fX12_grant N (Int32.ofInt v) S).bind fun (u10, S9) => (if u10 = 0 ∨ u10 = 1 then some (u10, S9) else none) else (if w4 = (Int32.ofInt 7) then (fX12_arePassed N (Int32.ofInt v) S).bind fun (u7, S6) => (if u7 = 0 ∨ u7 = 1 then some (u7, S6) else none) else some ((Int32.ofInt 1), S)))))))) = some X → ((ain 2724 (Int32.ofInt ((x + 1 : Nat) : Int))).bind fun j1 => (ain 2724 (Int32.ofInt ((x + 2 : Nat) : Int))).bind fun j2 => (ain 2724 (Int32.ofInt (x : Int))).bind fun j3 => pSt (S.2.2.1 268 j3) fun w4 => (if w4 = (Int32.ofInt 2) then (fX12_bird (S.2.2.1 268 j1) (Int32.ofInt 0) (S.2.2.1 268 j2) S).bind fun (u22, S21) => (if u22 < 0 then some ((Int32.ofInt 0), S21) else some ((Int32.ofInt 1), S21)) else (if w4 = (Int32.ofInt 3) then (fX12_rhyme (S.2.2.1 268 j1) (S.2.2.1 268 j2) S).bind fun (u19, S18) => (if u19 = 0 ∨ u19 = 1 then some (u19, S18) else none) else (if w4 = (Int32.ofInt 4) then (fX12_thin N (S.2.2.1 268 j1) S).bind fun (u16, S15) => (if u16 = 0 ∨ u16 = 1 then some (u16, S15) else none) else (if w4 = (Int32.ofInt 5) then (fX12_call N (S.2.2.1 268 j1) S).bind fun (u13, S12) => (if u13 = 0 ∨ u13 = 1 then some (u13, S12) else none) else (if w4 = (Int32.ofInt 6) then (fX12_grant N (S.2.2.1 268 j1) S).bind fun (u10, S9) => (if u10 = 0 ∨ u10 = 1 then some (u10, S9) else none) else (if w4 = (Int32.ofInt 7) then (fX12_arePassed N (S.2.2.1 268 j1) S).bind fun (u7, S6) => (if u7 = 0 ∨ u7 = 1 then some (u7, S6) else none) else some ((Int32.ofInt 1), S)))))))) = some X := by
    intro X hX
    refine h_ainN (by omega) (by omega) (h_ainN (by omega) (by omega) (h_ainN (by omega) (by omega) ?_))
    rw [rv_eq S 268 x, rv_eq S 268 (x + 1), rv_eq S 268 (x + 2), e0, e1, e2]
    exact hX
  rcases hc with rfl | rfl | rfl | rfl | rfl | rfl | rfl | rfl
  · exact ⟨S, g _ (h_pst (h_neg (by decide) (h_neg (by decide) (h_neg (by decide) (h_neg (by decide) (h_neg (by decide) (h_neg (by decide) rfl))))))), h, hA, Hn_refl S⟩
  · exact ⟨S, g _ (h_pst (h_neg (by decide) (h_neg (by decide) (h_neg (by decide) (h_neg (by decide) (h_neg (by decide) (h_neg (by decide) rfl))))))), h, hA, Hn_refl S⟩
  · obtain ⟨S1, a1, a2, a3, a4⟩ := q_bird h hA (p := v) (d := w) v1 v2 w1 w2
    refine ⟨S1, g _ (h_pst (h_pos rfl (h_bind a1 ?_))), a2, a3, a4⟩
    dsimp only
    show _ = some (Int32.ofInt (if bdB A v w = true then 1 else 0), S1)
    by_cases q : bdB A v w = true
    · simp only [if_pos q]
      exact h_neg (by first | omega | ((simp (disch := omega) only [i0, i1, i_lt, i_le, i_eq, i_add, i_sub, i_mul, i_neg, i_ofNat, i_rem, i_div, w_in, w_in2, w_cnt, w_cnt2, z01, z01', il, li, lc_ge, lc_le, lc_gt, lc_lt, lc_eq, l_ofNat, l0, l_eq, l_lt, l_le]) <;> omega)) rfl
    · simp only [if_neg q]
      exact h_pos (by decide) rfl
  · obtain ⟨S1, a1, a2, a3, a4⟩ := q_rhyme h hA (c := v) (x := w) v1 v2 w1 w2
    refine ⟨S1, g _ (h_pst (h_neg (by decide) (h_pos rfl (h_bind a1 ?_)))), a2, a3, a4⟩
    dsimp only
    rw [i0, i1]
    exact h_pos (by rw [z01']; trivial) rfl
  · obtain ⟨S1, a1, a2, a3, a4⟩ := q_thin h hA hN (v := v) v1 v2
    refine ⟨S1, g _ (h_pst (h_neg (by decide) (h_neg (by decide) (h_pos rfl (h_bind a1 ?_))))), a2, a3, a4⟩
    dsimp only
    rw [i0, i1]
    exact h_pos (by rw [z01']; trivial) rfl
  · obtain ⟨S1, a1, a2, a3, a4⟩ := q_call h hA hN (v := v) v1 v2
    refine ⟨S1, g _ (h_pst (h_neg (by decide) (h_neg (by decide) (h_neg (by decide) (h_pos rfl (h_bind a1 ?_)))))), a2, a3, a4⟩
    dsimp only
    rw [i0, i1]
    exact h_pos (by rw [z01']; trivial) rfl
  · obtain ⟨S1, a1, a2, a3, a4⟩ := q_grant h hA hN (v := v) v1 v2
    refine ⟨S1, g _ (h_pst (h_neg (by decide) (h_neg (by decide) (h_neg (by decide) (h_neg (by decide) (h_pos rfl (h_bind a1 ?_))))))), a2, a3, a4⟩
    dsimp only
    rw [i0, i1]
    exact h_pos (by rw [z01']; trivial) rfl
  · have hv7 := h7 rfl
    obtain ⟨m, rfl⟩ := Int.eq_ofNat_of_zero_le (show 0 ≤ v by omega)
    obtain ⟨r, hrr⟩ : ∃ r : Nat, min (m : Int) (9999 - A 6) = r := ⟨(min (m : Int) (9999 - A 6)).toNat, by omega⟩
    obtain ⟨S1, a1, a2, a3, a4, a5⟩ := q_days (W := W) hN r N 0 m 0 (ySi S 265 24 (Int32.ofInt 0)) A (RfR_i h) hA (by rw [fld_ne (by omega)]; exact hw23) fld_at (by omega) (by omega) (by omega) (by omega) (by omega)
    have eA : plA W A 7 (m : Int) w = dyA W r A := by
      show dyA W (min (m : Int) (9999 - A 6)).toNat A = _
      rw [hrr, Int.toNat_natCast]
    have eB : plB A 7 (m : Int) w = decide ((m : Int) ≤ 9999 - A 6) := rfl
    rw [eA, eB]
    refine ⟨S1, g _ (h_pst (h_neg (by decide) (h_neg (by decide) (h_neg (by decide) (h_neg (by decide) (h_neg (by decide) (h_pos rfl ?_))))))), a2, a3, Hn_trans Hn_i a4⟩
    unfold fX12_arePassed
    refine h_bind (h_pst a1) ?_
    dsimp only
    by_cases q : (m : Int) ≤ 9999 - A 6
    · rw [decide_eq_true q, if_pos (show 0 + r = m by omega)]
      exact h_pos (Or.inr rfl) rfl
    · rw [decide_eq_false q, if_neg (show ¬ 0 + r = m by omega)]
      exact h_pos (Or.inl rfl) rfl
/-! the clauses one behind another -/
def pyL (W : Nat → wP) (c : Nat → Int × Int × Int) : Nat → Nat → (Nat → Int) → Int × (Nat → Int)
  | 0, _, A => (-1, A)
  | r + 1, k, A => if plB A (c k).1 (c k).2.1 (c k).2.2 = true then pyL W c r (k + 1) (plA W A (c k).1 (c k).2.1 (c k).2.2) else ((k : Int), plA W A (c k).1 (c k).2.1 (c k).2.2)
def clG (c : Int × Int × Int) : Prop := (0 ≤ c.1 ∧ c.1 ≤ 7) ∧ (2 ≤ c.1 → 0 ≤ c.2.1 ∧ c.2.1 ≤ 999) ∧ (c.1 = 7 → 1 ≤ c.2.1 ∧ c.2.1 ≤ 60) ∧ (c.1 = 2 ∨ c.1 = 3 → 0 ≤ c.2.2 ∧ c.2.2 ≤ 10)
theorem k_pyL {N : Nat} (hN : 2000000 ≤ N) {c : Nat → Int × Int × Int} {o m : Nat} (ho : 281 ≤ o) (hm : m ≤ 24) (l3 : tLn T (o + 3) = m) (l4 : tLn T (o + 4) = m) (l5 : tLn T (o + 5) = m) (hg : ∀ k, k < m → clG (c k)) : ∀ (r n k : Nat) (S : yS) (A : Nat → Int), k + r = m → r < n → ClR T A S W → (∀ k, k < m → rv S (o + 3) k = vbC (c k).1 ∧ (2 ≤ (c k).1 → rv S (o + 4) k = (c k).2.1) ∧ ((c k).1 = 2 ∨ (c k).1 = 3 → rv S (o + 5) k = (c k).2.2)) → ∃ S1, lX11_played N T o n (Int32.ofInt (k : Int)) S = some (Int32.ofInt (pyL W c r k A).1, S1) ∧ ClR T (pyL W c r k A).2 S1 W ∧ Gp S S1
  | 0, n + 1, k, S, A, hk, hn, h, hc => by
    rw [lX11_played, l3, i_ofNat]
    exact ⟨S, h_pos (by first | omega | ((simp (disch := omega) only [i0, i1, i_lt, i_le, i_eq, i_add, i_sub, i_mul, i_neg, i_ofNat, i_rem, i_div, w_in, w_in2, w_cnt, w_cnt2, z01, z01', il, li, lc_ge, lc_le, lc_gt, lc_lt, lc_eq, l_ofNat, l0, l_eq, l_lt, l_le]) <;> omega)) rfl, h, Gp_refl S⟩
  | r + 1, n + 1, k, S, A, hk, hn, h, hc => by
    obtain ⟨g1, g2, g3, g4⟩ := hg k (by omega)
    obtain ⟨c1, c2, c3⟩ := hc k (by omega)
    obtain ⟨S1, a1, a2, a3⟩ := k_clause h hN (sr := (c k).1) (v := (c k).2.1) (w := (c k).2.2) (a := rv S (o + 4) k) (b := rv S (o + 5) k) g1 (fun q => ⟨(g2 q).1, (g2 q).2, c2 q⟩) g3 (fun q => ⟨(g4 q).1, (g4 q).2, c3 q⟩)
    have st : ∀ {X : Option (Int32 × yS)}, (if ¬ (Int32.ofInt (if plB A (c k).1 (c k).2.1 (c k).2.2 = true then 1 else 0)) = 0 then lX11_played N T o n (Int32.ofInt ((k + 1 : Nat) : Int)) S1 else some (Int32.ofInt (k : Int), S1)) = X → lX11_played N T o (n + 1) (Int32.ofInt (k : Int)) S = X := by
      intro X hX
      rw [lX11_played, l3, l4, l5, i_ofNat]
      refine h_neg (by first | omega | ((simp (disch := omega) only [i0, i1, i_lt, i_le, i_eq, i_add, i_sub, i_mul, i_neg, i_ofNat, i_rem, i_div, w_in, w_in2, w_cnt, w_cnt2, z01, z01', il, li, lc_ge, lc_le, lc_gt, lc_lt, lc_eq, l_ofNat, l0, l_eq, l_lt, l_le]) <;> omega)) (h_ainN (by omega) (by omega) (h_ainN (by omega) (by omega) (h_ainN (by omega) (by omega) ?_)))
      rw [rv_eq S (o + 3) k, rv_eq S (o + 4) k, rv_eq S (o + 5) k, c1]
      refine h_bind a1 ?_
      dsimp only
      rw [i_add, show (k : Int) + 1 = ((k + 1 : Nat) : Int) by omega]
      exact hX
    unfold pyL
    by_cases q : plB A (c k).1 (c k).2.1 (c k).2.2 = true
    · obtain ⟨S2, b1, b2, b3⟩ := k_pyL hN ho hm l3 l4 l5 hg r n (k + 1) S1 _ (by omega) (by omega) a2 (fun j hj => by
        rw [rv_congr (a3.2.1 (o + 3) (by unfold kA; omega) (by omega) (by omega)), rv_congr (a3.2.1 (o + 4) (by unfold kA; omega) (by omega) (by omega)), rv_congr (a3.2.1 (o + 5) (by unfold kA; omega) (by omega) (by omega))]
        exact hc j hj)
      rw [if_pos q] at st
      have eq : (if plB A (c k).1 (c k).2.1 (c k).2.2 = true then pyL W c r (k + 1) (plA W A (c k).1 (c k).2.1 (c k).2.2) else ((k : Int), plA W A (c k).1 (c k).2.1 (c k).2.2)) = pyL W c r (k + 1) (plA W A (c k).1 (c k).2.1 (c k).2.2) := if_pos q
      rw [eq]
      exact ⟨S2, st (h_pos (by decide) b1), b2, Gp_trans a3 b3⟩
    · rw [if_neg q] at st
      have eq : (if plB A (c k).1 (c k).2.1 (c k).2.2 = true then pyL W c r (k + 1) (plA W A (c k).1 (c k).2.1 (c k).2.2) else ((k : Int), plA W A (c k).1 (c k).2.1 (c k).2.2)) = ((k : Int), plA W A (c k).1 (c k).2.1 (c k).2.2) := if_neg q
      rw [eq]
      exact ⟨S1, st (h_neg (by decide) rfl), a2, a3⟩
theorem q_pyL {N : Nat} (hN : 2000000 ≤ N) {c : Nat → Int × Int × Int} {t m : Nat} (ht : t < 4) (hm : m ≤ 24) (hg : ∀ k, k < m → clG (c k)) : ∀ (r n k : Nat) (S : yS) (A : Nat → Int), k + r = m → r < n → RfR S W → rv S 266 = A → S.1 265 23 = Int32.ofInt 1 → rv S 268 (681 * t) = m → (∀ k, k < m → rv S 268 (681 * t + 1 + 3 * k) = (c k).1 ∧ rv S 268 (681 * t + 1 + 3 * k + 1) = (c k).2.1 ∧ rv S 268 (681 * t + 1 + 3 * k + 2) = (c k).2.2) → ∃ S1, lX12_played N n (Int32.ofInt (t : Int)) (Int32.ofInt (k : Int)) S = some (Int32.ofInt (pyL W c r k A).1, S1) ∧ RfR S1 W ∧ rv S1 266 = (pyL W c r k A).2 ∧ Hn S S1
  | 0, n + 1, k, S, A, hk, hn, h, hA, w, e, hc => by
    rw [lX12_played, i_mul, show (681 : Int) * (t : Int) = ((681 * t : Nat) : Int) by omega]
    refine ⟨S, h_ainN (by omega) (by omega) ?_, h, hA, Hn_refl S⟩
    rw [rv_eq S 268 (681 * t), e]
    exact h_pos (by first | omega | ((simp (disch := omega) only [i0, i1, i_lt, i_le, i_eq, i_add, i_sub, i_mul, i_neg, i_ofNat, i_rem, i_div, w_in, w_in2, w_cnt, w_cnt2, z01, z01', il, li, lc_ge, lc_le, lc_gt, lc_lt, lc_eq, l_ofNat, l0, l_eq, l_lt, l_le]) <;> omega)) rfl
  | r + 1, n + 1, k, S, A, hk, hn, h, hA, w, e, hc => by
    obtain ⟨g1, g2, g3, g4⟩ := hg k (by omega)
    obtain ⟨c1, c2, c3⟩ := hc k (by omega)
    obtain ⟨S1, a1, a2, a3, a4⟩ := q_clause h hA hN w (x := 681 * t + 1 + 3 * k) (by omega) c1 c2 c3 g1 g2 g3
    have st : ∀ {X : Option (Int32 × yS)}, (if ¬ (Int32.ofInt (if plB A (c k).1 (c k).2.1 (c k).2.2 = true then 1 else 0)) = 0 then lX12_played N n (Int32.ofInt (t : Int)) (Int32.ofInt ((k + 1 : Nat) : Int)) S1 else some (Int32.ofInt (k : Int), S1)) = X → lX12_played N (n + 1) (Int32.ofInt (t : Int)) (Int32.ofInt (k : Int)) S = X := by
      intro X hX
      rw [lX12_played]
      simp only [i_mul, i_add]
      rw [show (681 : Int) * (t : Int) + 1 + 3 * (k : Int) = ((681 * t + 1 + 3 * k : Nat) : Int) by omega, show (681 : Int) * (t : Int) = ((681 * t : Nat) : Int) by omega, show (k : Int) + 1 = ((k + 1 : Nat) : Int) by omega]
      refine h_ainN (by omega) (by omega) ?_
      rw [rv_eq S 268 (681 * t), e]
      exact h_neg (by first | omega | ((simp (disch := omega) only [i0, i1, i_lt, i_le, i_eq, i_add, i_sub, i_mul, i_neg, i_ofNat, i_rem, i_div, w_in, w_in2, w_cnt, w_cnt2, z01, z01', il, li, lc_ge, lc_le, lc_gt, lc_lt, lc_eq, l_ofNat, l0, l_eq, l_lt, l_le]) <;> omega)) (h_bind a1 hX)
    unfold pyL
    by_cases q : plB A (c k).1 (c k).2.1 (c k).2.2 = true
    · have e8 : rv S1 268 = rv S 268 := rv_congr (a4.2.2.1 268 (by unfold kA; omega) (by omega))
      obtain ⟨S2, b1, b2, b3, b4⟩ := q_pyL hN ht hm hg r n (k + 1) S1 _ (by omega) (by omega) a2 a3 (by rw [a4.2.1 23 (by omega)]; exact w) (by rw [e8]; exact e) (fun j hj => by rw [e8]; exact hc j hj)
      rw [if_pos q] at st
      have eq : (if plB A (c k).1 (c k).2.1 (c k).2.2 = true then pyL W c r (k + 1) (plA W A (c k).1 (c k).2.1 (c k).2.2) else ((k : Int), plA W A (c k).1 (c k).2.1 (c k).2.2)) = pyL W c r (k + 1) (plA W A (c k).1 (c k).2.1 (c k).2.2) := if_pos q
      rw [eq]
      exact ⟨S2, st (h_pos (by decide) b1), b2, b3, Hn_trans a4 b4⟩
    · rw [if_neg q] at st
      have eq : (if plB A (c k).1 (c k).2.1 (c k).2.2 = true then pyL W c r (k + 1) (plA W A (c k).1 (c k).2.1 (c k).2.2) else ((k : Int), plA W A (c k).1 (c k).2.1 (c k).2.2)) = ((k : Int), plA W A (c k).1 (c k).2.1 (c k).2.2) := if_neg q
      rw [eq]
      exact ⟨S1, st (h_neg (by decide) rfl), a2, a3, a4⟩
theorem pm_played (h : Rel T S) {N : Nat} (hN : 2000000 ≤ N) (v0 : Int32) : PM T S (fX11_played N T v0) (fX12_played N v0) := by
  obtain ⟨v, v1, v2, rfl⟩ := i_ex v0
  have i1 := R_i1 h
  by_cases hv : 0 ≤ v ∧ v < rv S 266 1
  · obtain ⟨W, hcl, hf⟩ := Rel_W h
    obtain ⟨t, rfl⟩ := Int.eq_ofNat_of_zero_le hv.1
    obtain ⟨-, ⟨o, x2, x3⟩, -, -⟩ := h.2.2.2.2.2.2
    obtain ⟨y1, y2, m, L, hm, hL, hl, hn, hc, -, -⟩ := x2 t hv.2
    have ho : 281 ≤ o t := (yTx_K y2).2.2.2.2.2.2
    obtain ⟨c, hcd⟩ : ∃ c : Nat → Int × Int × Int, ∀ k, c k = (rv S 268 (681 * t + 1 + 3 * k), rv S 268 (681 * t + 1 + 3 * k + 1), rv S 268 (681 * t + 1 + 3 * k + 2)) := ⟨fun k => _, fun k => rfl⟩
    have hg : ∀ k, k < m → clG (c k) := fun k hk => by
      obtain ⟨sr, u, s1, s2, u1, u2, s3, s4, s5, s6⟩ := hc k hk
      unfold clG
      rw [hcd k]
      dsimp only
      rw [s3]
      refine ⟨⟨s1, s2⟩, fun q => ?_, fun q => ?_, fun q => ?_⟩
      · rw [(s5 q).1]; exact ⟨u1, u2⟩
      · rw [(s5 (by omega)).1]; exact (s5 (by omega)).2.2 q
      · rw [← (s6 q).1]; exact (s6 q).2
    obtain ⟨S1, a1, a2, a3⟩ := k_pyL (W := W) hN ho hm hl.2.2.1 hl.2.2.2.1 hl.2.2.2.2 hg m N 0 S _ (by omega) (by omega) hcl (fun k hk => by
      obtain ⟨sr, u, s1, s2, u1, u2, s3, s4, s5, s6⟩ := hc k hk
      rw [hcd k]
      dsimp only
      rw [s3]
      exact ⟨s4, fun q => by rw [(s5 q).1, (s5 q).2.1], fun q => (s6 q).1⟩)
    refine PM_gp h hf (f := fX11_played N T (Int32.ofInt (t : Int))) (g := fX12_played N (Int32.ofInt (t : Int))) (q := Int32.ofInt (pyL W c m 0 (rv S 266)).1) ?_ a2 a3 (fun r e w => ?_)
    · unfold fX11_played fX0_textAt fX0_hasText
      rw [C_texts h]
      refine h_bind (v := some (o t)) (h_bind (v := Int32.ofInt 1) (h_neg (by first | omega | ((simp (disch := omega) only [i0, i1, i_lt, i_le, i_eq, i_add, i_sub, i_mul, i_neg, i_ofNat, i_rem, i_div, w_in, w_in2, w_cnt, w_cnt2, z01, z01', il, li, lc_ge, lc_le, lc_gt, lc_lt, lc_eq, l_ofNat, l0, l_eq, l_lt, l_le]) <;> omega)) (h_neg (by first | omega | ((simp (disch := omega) only [i0, i1, i_lt, i_le, i_eq, i_add, i_sub, i_mul, i_neg, i_ofNat, i_rem, i_div, w_in, w_in2, w_cnt, w_cnt2, z01, z01', il, li, lc_ge, lc_le, lc_gt, lc_lt, lc_eq, l_ofNat, l0, l_eq, l_lt, l_le]) <;> omega)) rfl)) (h_neg (by decide) (h_ainN (by omega) (by omega) ?_))) ?_
      · rw [y1]
        exact h_pos y2 rfl
      · exact h_pos y2 a1
    · have e8 : rv S1 268 = rv S 268 := rv_congr (a3.2.1 268 (by unfold kA; omega) (by omega) (by omega))
      obtain ⟨S2, b1, b2, b3, b4⟩ := q_pyL (W := W) hN (t := t) (by omega) hm hg m N 0 S1 _ (by omega) (by omega) r e w (by rw [e8]; exact hn) (fun k hk => by rw [e8, hcd k]; exact ⟨rfl, rfl, rfl⟩)
      refine ⟨S2, ?_, b2, b3, b4⟩
      unfold fX12_played
      rw [rv_eq S1 266 1, e, i_sub]
      exact h_pos (by first | omega | ((simp (disch := omega) only [i0, i1, i_lt, i_le, i_eq, i_add, i_sub, i_mul, i_neg, i_ofNat, i_rem, i_div, w_in, w_in2, w_cnt, w_cnt2, z01, z01', il, li, lc_ge, lc_le, lc_gt, lc_lt, lc_eq, l_ofNat, l0, l_eq, l_lt, l_le]) <;> omega)) b1
  · refine ⟨Int32.ofInt (-2), S, S, ?_, ?_, h⟩
    · unfold fX11_played fX0_textAt fX0_hasText
      rw [C_texts h]
      by_cases q : v < 0
      · exact h_bind (v := none) (h_bind (v := Int32.ofInt 0) (h_pos (by first | omega | ((simp (disch := omega) only [i0, i1, i_lt, i_le, i_eq, i_add, i_sub, i_mul, i_neg, i_ofNat, i_rem, i_div, w_in, w_in2, w_cnt, w_cnt2, z01, z01', il, li, lc_ge, lc_le, lc_gt, lc_lt, lc_eq, l_ofNat, l0, l_eq, l_lt, l_le]) <;> omega)) rfl) (h_pos (by decide) rfl)) rfl
      · exact h_bind (v := none) (h_bind (v := Int32.ofInt 0) (h_neg (by first | omega | ((simp (disch := omega) only [i0, i1, i_lt, i_le, i_eq, i_add, i_sub, i_mul, i_neg, i_ofNat, i_rem, i_div, w_in, w_in2, w_cnt, w_cnt2, z01, z01', il, li, lc_ge, lc_le, lc_gt, lc_lt, lc_eq, l_ofNat, l0, l_eq, l_lt, l_le]) <;> omega)) (h_pos (by first | omega | ((simp (disch := omega) only [i0, i1, i_lt, i_le, i_eq, i_add, i_sub, i_mul, i_neg, i_ofNat, i_rem, i_div, w_in, w_in2, w_cnt, w_cnt2, z01, z01', il, li, lc_ge, lc_le, lc_gt, lc_lt, lc_eq, l_ofNat, l0, l_eq, l_lt, l_le]) <;> omega)) rfl)) (h_pos (by decide) rfl)) rfl
    · unfold fX12_played
      rw [rv_eq S 266 1, i_sub]
      exact h_neg (by first | omega | ((simp (disch := omega) only [i0, i1, i_lt, i_le, i_eq, i_add, i_sub, i_mul, i_neg, i_ofNat, i_rem, i_div, w_in, w_in2, w_cnt, w_cnt2, z01, z01', il, li, lc_ge, lc_le, lc_gt, lc_lt, lc_eq, l_ofNat, l0, l_eq, l_lt, l_le]) <;> omega)) rfl
end PMS
