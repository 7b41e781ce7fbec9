/-! ===== foretold ===== -/
def eqB (A B : Nat → Int) : Prop := ∀ k, k ≠ 11 → k < 1313 → A k = B k
theorem eL_eq {A B : Nat → Int} (h : eqB A B) {b c : Nat} (hb : b < 8) (hc : c < 9) : eL A b c = eL B b c := by
  funext k
  by_cases h1 : 10 ≤ k ∧ k < 19
  · rw [show k = 10 + (k - 10) by omega, eL_10 (by omega), eL_10 (by omega)]
    exact h _ (by omega) (by omega)
  · by_cases h2 : 20 ≤ k ∧ k < 28
    · rw [show k = 20 + (k - 20) by omega, eL_20 (by omega), eL_20 (by omega)]
      exact h _ (by omega) (by omega)
    · unfold eL
      rw [h 6 (by omega) (by omega), h 8 (by omega) (by omega), h 9 (by omega) (by omega), h 12 (by omega) (by omega), h (37 + b) (by omega) (by omega), h (21 + b) (by omega) (by omega), h (45 + c) (by omega) (by omega), h 0 (by omega) (by omega), if_neg h1, if_neg h1, if_neg h2, if_neg h2]
theorem chS_eq {W : Nat → wP} {A B : Nat → Int} (h : eqB A B) {b : Nat} (hb : b < 8) : chS W A b = chS W B b := by
  unfold chS
  rw [h 2 (by omega) (by omega), h (37 + b) (by omega) (by omega), eL_eq h hb (by omega)]
theorem brS_eq {W : Nat → wP} {A B : Nat → Int} (h : eqB A B) {t : Int} {c : Nat} (hc : c < 9) : brS W A t c = brS W B t c := by
  unfold brS
  rw [h (45 + c) (by omega) (by omega), eL_eq h (by omega) hc]
theorem dueB_eq {A B : Nat → Int} (h : eqB A B) {d : Int} {b : Nat} (hb : b < 8) : dueB A d b = dueB B d b := by
  unfold dueB
  rw [h 12 (by omega) (by omega), h (21 + b) (by omega) (by omega), h (29 + b) (by omega) (by omega)]
theorem eqB_U {A B : Nat → Int} (h : eqB A B) {j : Nat} {x : Int} : eqB (rU A j x) (rU B j x) := by
  intro k h1 h2
  unfold rU
  split
  · rfl
  · exact h k h1 h2
theorem eqB_dw {A B : Nat → Int} (h : eqB A B) : eqB (dwA A) (dwA B) := by
  unfold dwA
  rw [h 7 (by omega) (by omega)]
  exact eqB_U h
theorem eqB_cm {A B : Nat → Int} (h : eqB A B) {b : Nat} (hb : b < 8) : eqB (cmA A b) (cmA B b) := by
  unfold cmA
  rw [h (13 + b) (by omega) (by omega)]
  exact eqB_U h
theorem psL_eq {W : Nat → wP} : ∀ (r b c : Nat) (A B : Nat → Int), eqB A B → b + r ≤ 8 → (psL W r b c A).1 = (psL W r b c B).1 ∧ eqB (psL W r b c A).2 (psL W r b c B).2
  | 0, _, _, A, B, h, _ => ⟨rfl, h⟩
  | r + 1, b, c, A, B, h, hb => by
    unfold psL
    rw [h 6 (by omega) (by omega), h 7 (by omega) (by omega), dueB_eq h (show b < 8 by omega), chS_eq (eqB_dw h) (show b < 8 by omega)]
    by_cases q1 : dueB B (B 6) b = true
    · by_cases q2 : B 7 % 10 < chS W (dwA B) b
      · simp only [if_pos q1, if_pos q2]
        exact psL_eq r (b + 1) (c + 1) _ _ (eqB_cm (eqB_dw h) (by omega)) (by omega)
      · simp only [if_pos q1, if_neg q2]
        exact psL_eq r (b + 1) c _ _ (eqB_dw h) (by omega)
    · simp only [if_neg q1]
      exact psL_eq r (b + 1) c _ _ h (by omega)
theorem wrA_lt {A : Nat → Int} {v : Int} {k : Nat} (h1 : k ≠ 11) (h2 : k < 1313) : wrA A v k = A k := by
  unfold wrA
  by_cases q : A 11 < 25
  · rw [if_pos q, rU_ne h1, rU_ne (by omega)]
  · rw [if_neg q, if_neg (by omega), if_neg (by omega)]
theorem psA_eq {W : Nat → wP} {A B : Nat → Int} (h : eqB A B) (h0 : 0 ≤ A 0 ∧ A 0 ≤ 8) : eqB (psA W true A) (psA W false B) := by
  have e0 := h 0 (by omega) (by omega)
  have hc := psL_c (W := W) (A 0).toNat 0 0 A
  obtain ⟨p1, p2⟩ := psL_eq (W := W) (A 0).toNat 0 0 A B h (by omega)
  unfold psA
  rw [← e0, ← p1]
  generalize hc2 : (psL W (A 0).toNat 0 0 A).1 = c at *
  generalize (psL W (A 0).toNat 0 0 A).2 = A1 at *
  generalize (psL W (A 0).toNat 0 0 B).2 = B1 at *
  have hc9 : c < 9 := by omega
  rw [p2 2 (by omega) (by omega), brS_eq p2 hc9]
  unfold edA enA
  rw [p2 6 (by omega) (by omega), p2 8 (by omega) (by omega), p2 (45 + c) (by omega) (by omega), if_pos rfl, if_neg (by decide)]
  refine eqB_U (fun k k1 k2 => ?_)
  rw [wrA_lt k1 k2]
  exact eqB_U (eqB_U (eqB_U p2)) k k1 k2
def ftA (W : Nat → wP) (wf : Bool) : Nat → (Nat → Int) → (Nat → Int)
  | 0, A => A
  | r + 1, A => if A 6 < 9999 then ftA W wf r (psA W wf A) else A
theorem psA_f {W : Nat → wP} {A : Nat → Int} (h0 : A 0 ≤ 8) {k : Nat} (hk : k < 6 ∨ 11 ≤ k ∧ k < 13 ∨ 21 ≤ k) : psA W false A k = A k := by
  unfold psA edA enA
  rw [rU_ne (by omega), if_neg (by decide), rU_ne (by omega), rU_ne (by omega), rU_ne (by omega), psL_o _ _ _ _ _ (by omega) (by omega)]
theorem ftA_f {W : Nat → wP} : ∀ (r : Nat) (A : Nat → Int), A 0 ≤ 8 → ∀ k, k < 6 ∨ 21 ≤ k → ftA W false r A k = A k
  | 0, _, _, _, _ => rfl
  | r + 1, A, h0, k, hk => by
    unfold ftA
    split
    · rw [ftA_f r _ (by rw [psA_f h0 (by omega)]; exact h0) k hk, psA_f h0 (by omega)]
    · rfl
theorem ftA_eq {W : Nat → wP} : ∀ (r : Nat) (A B : Nat → Int), eqB A B → 0 ≤ A 0 ∧ A 0 ≤ 8 → eqB (ftA W true r A) (ftA W false r B)
  | 0, _, _, h, _ => h
  | r + 1, A, B, h, h0 => by
    unfold ftA
    rw [h 6 (by omega) (by omega)]
    have e := psA_eq (W := W) h h0
    have e0 := e 0 (by omega) (by omega)
    rw [psA_f (by rw [← h 0 (by omega) (by omega)]; omega) (by omega), ← h 0 (by omega) (by omega)] at e0
    split
    · exact ftA_eq r _ _ e (by omega)
    · exact h
section PMS
variable {T : yK} {S S' S1 S2 : yS} {A A' : Nat → Int} {W : Nat → wP}
theorem k_fore {N : Nat} (hN : 2000000 ≤ N) {w : Int} (hw : w = 0 ∨ w = 1) : ∀ (r n i : Nat) (S : yS) (A : Nat → Int), ClR T A S W → r < n → i + r < 1000 → ∃ S1, lX11_foretold N T n (Int32.ofInt ((i + r : Nat) : Int)) (Int32.ofInt w) (Int32.ofInt (i : Int)) S = some (Int32.ofInt (if w = 0 then ftA W true r A 8 else ftA W true r A 9), mCopy S1 19 247) ∧ Gn S S1
  | 0, n + 1, i, S, A, h, hn, hi => by
    have c : fX2_copy_247 S = some (mCopy S 19 247) := rfl
    rw [lX11_foretold, K_fund h.1, K_cnt h.1]
    refine ⟨S, h_pos (by first | omega | ((simp (disch := omega) only [i0, i1, i_lt, i_le, i_eq, i_add, i_sub, i_mul, i_neg, i_ofNat, i_rem, i_div, w_in, w_in2, w_cnt, w_cnt2, z01, z01', il, li, lc_ge, lc_le, lc_gt, lc_lt, lc_eq, l_ofNat, l0, l_eq, l_lt, l_le]) <;> omega)) ?_, Gn_refl S⟩
    rcases hw with rfl | rfl
    · exact h_neg (by decide) (h_bind c rfl)
    · exact h_pos (by decide) (h_bind c rfl)
  | r + 1, n + 1, i, S, A, h, hn, hi => by
    have c : fX2_copy_247 S = some (mCopy S 19 247) := rfl
    have h6 := I_day h.2.1
    rw [lX11_foretold, K_fund h.1, K_cnt h.1]
    unfold ftA fX0_canPass
    rw [K_day h.1]
    by_cases q : A 6 < 9999
    · obtain ⟨S1, m1, m2, m3⟩ := k_pass h hN (by omega)
      obtain ⟨S2, b1, b2⟩ := k_fore hN hw r n (i + 1) S1 _ m2 (by omega) (by omega)
      simp only [if_pos q]
      refine ⟨S2, h_neg (by first | omega | ((simp (disch := omega) only [i0, i1, i_lt, i_le, i_eq, i_add, i_sub, i_mul, i_neg, i_ofNat, i_rem, i_div, w_in, w_in2, w_cnt, w_cnt2, z01, z01', il, li, lc_ge, lc_le, lc_gt, lc_lt, lc_eq, l_ofNat, l0, l_eq, l_lt, l_le]) <;> omega)) (h_bind (v := Int32.ofInt 1) (h_neg (by first | omega | ((simp (disch := omega) only [i0, i1, i_lt, i_le, i_eq, i_add, i_sub, i_mul, i_neg, i_ofNat, i_rem, i_div, w_in, w_in2, w_cnt, w_cnt2, z01, z01', il, li, lc_ge, lc_le, lc_gt, lc_lt, lc_eq, l_ofNat, l0, l_eq, l_lt, l_le]) <;> omega)) rfl) (h_neg (by decide) (h_bind m1 ?_))), Gn_trans m3 b2⟩
      dsimp only
      rw [i_add, show (i : Int) + 1 = ((i + 1 : Nat) : Int) by omega, show i + (r + 1) = i + 1 + r by omega]
      exact b1
    · simp only [if_neg q]
      refine ⟨S, h_neg (by first | omega | ((simp (disch := omega) only [i0, i1, i_lt, i_le, i_eq, i_add, i_sub, i_mul, i_neg, i_ofNat, i_rem, i_div, w_in, w_in2, w_cnt, w_cnt2, z01, z01', il, li, lc_ge, lc_le, lc_gt, lc_lt, lc_eq, l_ofNat, l0, l_eq, l_lt, l_le]) <;> omega)) (h_bind (v := Int32.ofInt 0) (h_pos (by first | omega | ((simp (disch := omega) only [i0, i1, i_lt, i_le, i_eq, i_add, i_sub, i_mul, i_neg, i_ofNat, i_rem, i_div, w_in, w_in2, w_cnt, w_cnt2, z01, z01', il, li, lc_ge, lc_le, lc_gt, lc_lt, lc_eq, l_ofNat, l0, l_eq, l_lt, l_le]) <;> omega)) rfl) (h_pos (by decide) ?_)), Gn_refl S⟩
      rcases hw with rfl | rfl
      · exact h_neg (by decide) (h_bind c rfl)
      · exact h_pos (by decide) (h_bind c rfl)
/-- the class is where it was -/
theorem k_same (h : ClR T A S W) (g : Gn (mCopy S 247 19) S1) : ClR T A (mCopy S1 19 247) W ∧ Gs S (mCopy S1 19 247) := by
  have hr := h.2.1
  have h3 := I_i3 hr
  have hm : nowF A 5 ≤ 25 := hr.2.2.2.1.2.2.2.2.2.1.2
  obtain ⟨c1, c2, c3, c4, c5, fi, c6, c7, c8⟩ := h.1
  have m1 : mR 247 (nowF A) (mCopy S 247 19) := mR_copy c3 hm (by omega) (by omega)
  have m2 : mR 247 (nowF A) S1 := mR_congr m1 (g.1 _ (by unfold kO; omega) (by omega)) (g.2.1 _ (by unfold kA; omega) (by omega) (by omega)) (g.2.1 _ (by unfold kA; omega) (by omega) (by omega)) (fun _ _ => rfl) hm
  have m3 : mR 19 (nowF A) (mCopy S1 19 247) := mR_copy m2 hm (by omega) (by omega)
  have gs : Gs S (mCopy S1 19 247) := Gs_trans (Gs_c (by omega)) (Gs_trans (Gs_Gn g) (Gs_c (by omega)))
  have f1 : ∀ i, 20 ≤ i → i ≤ 113 → (mCopy S1 19 247).1 i = S.1 i := fun i a b => (mCopy_o (by omega)).trans ((g.1 i (by unfold kO; omega) (by omega)).trans (mCopy_o (by omega)))
  have f2 : ∀ i, 22 ≤ i → i ≤ 113 → (mCopy S1 19 247).2.2.1 i = S.2.2.1 i := fun i a b => (mCopy_a (by omega) (by omega)).trans ((g.2.1 i (by unfold kA; omega) (by omega) (by omega)).trans (mCopy_a (by omega) (by omega)))
  refine ⟨ClR_st h gs (fun k _ _ _ => rfl) hr m3 ⟨by rw [gs.2.2]; exact c4, by rw [f1 _ (by omega) (by omega)]; exact c5, fi, c6, by rw [f1 _ (by omega) (by omega)]; exact c7, fun i hi => ?_⟩, gs⟩
  have hl := Nat.mod_lt (fi + i) (show 0 < 30 by omega)
  exact mR_congr (c8 i hi) (f1 _ (by omega) (by omega)) (f2 _ (by omega) (by omega)) (f2 _ (by omega) (by omega)) (fun _ _ => rfl) (hr.2.2.2.2 i hi).2.2.2.2.2.1.2
/-! the reference -/
theorem ft_s0 {N : Nat} {v0 v1 : Int32} (n k : Nat) (S : yS) (hk : k < 15) : lX12_foretold N (n + 1) 0 v0 v1 (Int32.ofInt ((6 + k : Nat) : Int)) 0 S = lX12_foretold N n 0 v0 v1 (Int32.ofInt ((6 + k + 1 : Nat) : Int)) 0 (ySa S 274 (upd (S.2.2.1 274) (6 + k) (S.2.2.1 266 (6 + k)))) := by
  rw [lX12_foretold]
  refine h_pos rfl (h_neg (by first | omega | ((simp (disch := omega) only [i0, i1, i_lt, i_le, i_eq, i_add, i_sub, i_mul, i_neg, i_ofNat, i_rem, i_div, w_in, w_in2, w_cnt, w_cnt2, z01, z01', il, li, lc_ge, lc_le, lc_gt, lc_lt, lc_eq, l_ofNat, l0, l_eq, l_lt, l_le]) <;> omega)) ?_)
  simp only [i_add]
  rw [show ((6 + k : Nat) : Int) + 1 = ((6 + k + 1 : Nat) : Int) by omega]
  exact h_ainN (by omega) (by omega) (h_ainN (by omega) (by omega) rfl)
theorem ft_s2 {N : Nat} {v : Int32} (n k : Nat) (S : yS) (hk : k < 15) : lX12_foretold N (n + 1) 2 0 0 v (Int32.ofInt ((6 + k : Nat) : Int)) S = lX12_foretold N n 2 0 0 v (Int32.ofInt ((6 + k + 1 : Nat) : Int)) (ySa S 266 (upd (S.2.2.1 266) (6 + k) (S.2.2.1 274 (6 + k)))) := by
  rw [lX12_foretold]
  refine h_neg (by decide) (h_neg (by decide) (h_neg (by first | omega | ((simp (disch := omega) only [i0, i1, i_lt, i_le, i_eq, i_add, i_sub, i_mul, i_neg, i_ofNat, i_rem, i_div, w_in, w_in2, w_cnt, w_cnt2, z01, z01', il, li, lc_ge, lc_le, lc_gt, lc_lt, lc_eq, l_ofNat, l0, l_eq, l_lt, l_le]) <;> omega)) ?_))
  simp only [i_add]
  rw [show ((6 + k : Nat) : Int) + 1 = ((6 + k + 1 : Nat) : Int) by omega]
  exact h_ainN (by omega) (by omega) (h_ainN (by omega) (by omega) rfl)
theorem q_fore {N : Nat} (hN : 2000000 ≤ N) {w : Int32} : ∀ (r n i : Nat) (S : yS) (A : Nat → Int), RfR S W → rv S 266 = A → S.1 265 23 = Int32.ofInt 0 → i + r < 1000 → ∃ S1, lX12_foretold N (n + r) 1 (Int32.ofInt ((i + r : Nat) : Int)) w (Int32.ofInt (i : Int)) 0 S = lX12_foretold N n 1 (Int32.ofInt ((i + r : Nat) : Int)) w (Int32.ofInt ((i + r : Nat) : Int)) 0 S1 ∧ RfR S1 W ∧ rv S1 266 = ftA W false r A ∧ Hn S S1
  | 0, n, i, S, A, h, hA, w, hi => ⟨S, rfl, h, hA, Hn_refl S⟩
  | r + 1, n, i, S, A, h, hA, w, hi => by
    have hr := h.1
    rw [hA] at hr
    have h6 := I_day hr
    rw [show n + (r + 1) = (n + r) + 1 by omega, lX12_foretold, rv_eq S 266 6, hA, i_add, show (i : Int) + 1 = ((i + 1 : Nat) : Int) by omega, show i + (r + 1) = i + 1 + r by omega]
    unfold ftA
    by_cases q : A 6 < 9999
    · obtain ⟨S1, m1, m2, m3, m4, m5⟩ := q_pass h hA hN (wf := false) (by omega) w
      obtain ⟨S2, b1, b2, b3, b4⟩ := q_fore hN r n (i + 1) S1 _ m2 m3 (by rw [m4.2.1 23 (by omega)]; exact w) (by omega)
      have eq : (if A 6 < 9999 then ftA W false r (psA W false A) else A) = ftA W false r (psA W false A) := if_pos q
      rw [eq]
      exact ⟨S2, h_neg (by decide) (h_pos rfl (h_neg (by first | omega | ((simp (disch := omega) only [i0, i1, i_lt, i_le, i_eq, i_add, i_sub, i_mul, i_neg, i_ofNat, i_rem, i_div, w_in, w_in2, w_cnt, w_cnt2, z01, z01', il, li, lc_ge, lc_le, lc_gt, lc_lt, lc_eq, l_ofNat, l0, l_eq, l_lt, l_le]) <;> omega)) (h_neg (by first | omega | ((simp (disch := omega) only [i0, i1, i_lt, i_le, i_eq, i_add, i_sub, i_mul, i_neg, i_ofNat, i_rem, i_div, w_in, w_in2, w_cnt, w_cnt2, z01, z01', il, li, lc_ge, lc_le, lc_gt, lc_lt, lc_eq, l_ofNat, l0, l_eq, l_lt, l_le]) <;> omega)) (h_bind m1 b1)))), b2, b3, Hn_trans m4 b4⟩
    · obtain ⟨S2, b1, b2, b3, b4⟩ := q_fore hN r n (i + 1) S A h hA w (by omega)
      have eq : (if A 6 < 9999 then ftA W false r (psA W false A) else A) = A := if_neg q
      rw [eq]
      refine ⟨S2, h_neg (by decide) (h_pos rfl (h_neg (by first | omega | ((simp (disch := omega) only [i0, i1, i_lt, i_le, i_eq, i_add, i_sub, i_mul, i_neg, i_ofNat, i_rem, i_div, w_in, w_in2, w_cnt, w_cnt2, z01, z01', il, li, lc_ge, lc_le, lc_gt, lc_lt, lc_eq, l_ofNat, l0, l_eq, l_lt, l_le]) <;> omega)) (h_pos (by first | omega | ((simp (disch := omega) only [i0, i1, i_lt, i_le, i_eq, i_add, i_sub, i_mul, i_neg, i_ofNat, i_rem, i_div, w_in, w_in2, w_cnt, w_cnt2, z01, z01', il, li, lc_ge, lc_le, lc_gt, lc_lt, lc_eq, l_ofNat, l0, l_eq, l_lt, l_le]) <;> omega)) b1))), b2, ?_, b4⟩
      rw [b3]
      cases r with
      | zero => rfl
      | succ r => exact if_neg q
theorem q_fback {S0 : yS} (h : RfR S0 W) (hA : rv S0 266 = A) {N : Nat} (hw : S0.1 265 23 = Int32.ofInt 1) (e274 : ∀ k, 6 ≤ k → k < 21 → S1.2.2.1 274 k = S0.2.2.1 266 k) (hS1 : ySa S0 274 (S1.2.2.1 274) = S1) (b4 : Hn (ySi S1 265 23 (Int32.ofInt 0)) S2) (b3 : ∀ k, k < 6 ∨ 21 ≤ k → rv S2 266 k = A k) (n : Nat) (v : Int32) (hn : 16 ≤ n) : ∃ S3, lX12_foretold N n 2 0 0 v (Int32.ofInt ((6 : Nat) : Int)) S2 = some (v, S3) ∧ RfR S3 W ∧ rv S3 266 = A ∧ Hw S0 S3 := by
  have l2 := cpL0 (F := fun n l4 S => lX12_foretold N n 2 0 0 v l4 S) (r := 274) (q := 266) (src := 6) (dst := 6) (K := 15) (c0 := 6) (n := n - 16 + 1) (fun n k S hk => ft_s2 n k S hk) S2 (by omega)
  rw [show n - 16 + 1 + 15 = n by omega] at l2
  have e4 : S2.2.2.1 274 = S1.2.2.1 274 := b4.2.2.1 274 (by unfold kA; omega) (by omega)
  have e2 : rv (ySa S2 266 (cpF (S2.2.2.1 266) (S2.2.2.1 274) 6 6 15)) 266 = A := by
    rw [rv_ySa]
    funext k
    unfold rf cpF
    by_cases q : 6 ≤ k ∧ k < 6 + 15
    · rw [if_pos q, show 6 + (k - 6) = k by omega, e4, e274 k (by omega) (by omega)]
      exact congrFun hA k
    · rw [if_neg q]
      exact b3 k (by omega)
  have f1 : ∀ i, S1.1 i = S0.1 i := fun i => by rw [← hS1, ySa_1]
  have f2 : ∀ i, i ≠ 274 → S1.2.2.1 i = S0.2.2.1 i := fun i hi => by rw [← hS1, ySa_ne _ _ hi]
  have f3 : S1.2.2.2.2 = S0.2.2.2.2 := by rw [← hS1]; rfl
  have hr := h.1
  rw [hA] at hr
  refine ⟨ySi (ySa S2 266 (cpF (S2.2.2.1 266) (S2.2.2.1 274) 6 6 15)) 265 23 (Int32.ofInt 1), ?_, RfR_i ⟨by rw [e2]; exact hr, fun t ht => ?_⟩, e2, ?_⟩
  · refine Eq.trans l2 ?_
    show lX12_foretold N (n - 16 + 1) 2 0 0 v _ _ = _
    rw [lX12_foretold]
    exact h_neg (by decide) (h_neg (by decide) (h_pos (by decide) rfl))
  · rw [e2, ← hA] at ht
    refine txF_congr (h.2 t ht) ?_
    rw [ySa_ne _ _ (by omega), b4.2.2.1 268 (by unfold kA; omega) (by omega), ySi_2, f2 _ (by omega)]
  · refine ⟨fun i a b => ?_, fun k hk => ?_, fun i a b c => ?_, ?_⟩
    · rw [fld_o b, ySa_1, b4.1 i a b, fld_o b, f1]
    · by_cases k23 : k = 23
      · rw [k23, fld_at, hw]
      · rw [fld_ne k23, ySa_1, b4.2.1 k hk, fld_ne k23, f1]
    · rw [ySi_2, ySa_ne _ _ b, b4.2.2.1 i a b, ySi_2, f2 i c]
    · show S2.2.2.2.2 = _
      rw [b4.2.2.2]
      exact f3
theorem q_foretold (h : RfR S W) (hA : rv S 266 = A) {N : Nat} (hN : 2000000 ≤ N) (hw : S.1 265 23 = Int32.ofInt 1) {m : Nat} (hm : 1 ≤ m ∧ m ≤ 60) {w : Int} (hw2 : w = 0 ∨ w = 1) : ∃ S1, fX12_foretold N (Int32.ofInt (m : Int)) (Int32.ofInt w) S = some (Int32.ofInt (if w = 0 then ftA W false m A 8 else ftA W false m A 9), S1) ∧ RfR S1 W ∧ rv S1 266 = A ∧ Hw S S1 := by
  have hr := h.1
  rw [hA] at hr
  have h0 := I_i0 hr
  obtain ⟨n, hn⟩ : ∃ n, N = n + 1 + m + 1 + 15 := ⟨N - 17 - m, by omega⟩
  have l0 := cpL0 (F := fun n l3 S => lX12_foretold N n 0 (Int32.ofInt (m : Int)) (Int32.ofInt w) l3 0 S) (r := 266) (q := 274) (src := 6) (dst := 6) (K := 15) (c0 := 6) (n := n + 1 + m + 1) (fun n k S hk => ft_s0 n k S hk) S (by omega)
  rw [← hn] at l0
  have e274 : ∀ k, 6 ≤ k → k < 21 → (ySa S 274 (cpF (S.2.2.1 274) (S.2.2.1 266) 6 6 15)).2.2.1 274 k = S.2.2.1 266 k := fun k a b => by
    rw [ySa_at]
    unfold cpF
    rw [if_pos (by omega), show 6 + (k - 6) = k by omega]
  have hS0 : ySa S 274 ((ySa S 274 (cpF (S.2.2.1 274) (S.2.2.1 266) 6 6 15)).2.2.1 274) = ySa S 274 (cpF (S.2.2.1 274) (S.2.2.1 266) 6 6 15) := by rw [ySa_at]
  have r1 : RfR (ySa S 274 (cpF (S.2.2.1 274) (S.2.2.1 266) 6 6 15)) W := h
  have a1 : rv (ySa S 274 (cpF (S.2.2.1 274) (S.2.2.1 266) 6 6 15)) 266 = A := hA
  generalize ySa S 274 (cpF (S.2.2.1 274) (S.2.2.1 266) 6 6 15) = S1 at l0 e274 hS0 r1 a1
  obtain ⟨S2, b1, b2, b3, b4⟩ := q_fore (W := W) hN (w := Int32.ofInt w) m (n + 1) 0 (ySi S1 265 23 (Int32.ofInt 0)) A (RfR_i r1) a1 fld_at (by omega)
  rw [Nat.zero_add] at b1
  obtain ⟨p, hp⟩ : ∃ p : Nat, 8 + w = p := ⟨(8 + w).toNat, by omega⟩
  obtain ⟨S3, f1, f2, f3, f4⟩ := q_fback h hA hw e274 hS0 b4 (fun k hk => by rw [b3]; exact ftA_f m A h0.2 k hk) n (S2.2.2.1 266 p) (by omega)
  refine ⟨S3, ?_, f2, f3, f4⟩
  have g1 : lX12_foretold N (n + 1) 1 (Int32.ofInt (m : Int)) (Int32.ofInt w) (Int32.ofInt (m : Int)) 0 S2 = some (Int32.ofInt (if w = 0 then ftA W false m A 8 else ftA W false m A 9), S3) := by
    rw [lX12_foretold, i_add 8 w, hp]
    refine h_neg (by decide) (h_pos rfl (h_pos (by first | omega | ((simp (disch := omega) only [i0, i1, i_lt, i_le, i_eq, i_add, i_sub, i_mul, i_neg, i_ofNat, i_rem, i_div, w_in, w_in2, w_cnt, w_cnt2, z01, z01', il, li, lc_ge, lc_le, lc_gt, lc_lt, lc_eq, l_ofNat, l0, l_eq, l_lt, l_le]) <;> omega)) (h_ainN (by omega) (by omega) (Eq.trans f1 ?_))))
    rw [rv_eq S2 266 p, b3]
    rcases hw2 with h2 | h2
    · rw [if_pos h2, show p = 8 by omega]
    · rw [if_neg (by omega), show p = 9 by omega]
  have g2 : lX12_foretold N (n + 1 + m + 1) 0 (Int32.ofInt (m : Int)) (Int32.ofInt w) (Int32.ofInt ((6 + 15 : Nat) : Int)) 0 S1 = some (Int32.ofInt (if w = 0 then ftA W false m A 8 else ftA W false m A 9), S3) := by
    rw [lX12_foretold]
    exact h_pos rfl (h_pos (by decide) (h_pst (Eq.trans b1 g1)))
  unfold fX12_foretold
  exact h_neg (by first | omega | ((simp (disch := omega) only [i0, i1, i_lt, i_le, i_eq, i_add, i_sub, i_mul, i_neg, i_ofNat, i_rem, i_div, w_in, w_in2, w_cnt, w_cnt2, z01, z01', il, li, lc_ge, lc_le, lc_gt, lc_lt, lc_eq, l_ofNat, l0, l_eq, l_lt, l_le]) <;> omega)) (h_pos (by first | omega | ((simp (disch := omega) only [i0, i1, i_lt, i_le, i_eq, i_add, i_sub, i_mul, i_neg, i_ofNat, i_rem, i_div, w_in, w_in2, w_cnt, w_cnt2, z01, z01', il, li, lc_ge, lc_le, lc_gt, lc_lt, lc_eq, l_ofNat, l0, l_eq, l_lt, l_le]) <;> omega)) (Eq.trans l0 g2))
theorem pm_foretold (h : Rel T S) {N : Nat} (hN : 2000000 ≤ N) (v0 v1 : Int32) : PM T S (fX11_foretold N T v0 v1) (fX12_foretold N v0 v1) := by
  obtain ⟨s, s1, s2, rfl⟩ := i_ex v0
  obtain ⟨w, w1, w2, rfl⟩ := i_ex v1
  obtain ⟨W, hc, hf⟩ := Rel_W h
  by_cases hs : 1 ≤ s ∧ s ≤ 60
  · by_cases hv : 0 ≤ w ∧ w ≤ 1
    · obtain ⟨m, rfl⟩ := Int.eq_ofNat_of_zero_le (show 0 ≤ s by omega)
      have cc : ClR T (rv S 266) (mCopy S 247 19) W := by
        obtain ⟨a, b⟩ := k_same hc (Gn_refl _)
        have hr := hc.2.1
        have hm : nowF (rv S 266) 5 ≤ 25 := hr.2.2.2.1.2.2.2.2.2.1.2
        obtain ⟨c1, c2, c3, c4, c5, fi, c6, c7, c8⟩ := hc.1
        have h3 := I_i3 hr
        refine ClR_st hc (Gs_c (by omega)) (fun k _ _ _ => rfl) hr (mR_congr c3 (mCopy_o (by omega)) (mCopy_a (by omega) (by omega)) (mCopy_a (by omega) (by omega)) (fun _ _ => rfl) hm) ⟨c4, by rw [mCopy_o (by omega)]; exact c5, fi, c6, by rw [mCopy_o (by omega)]; exact c7, fun i hi => ?_⟩
        have hl := Nat.mod_lt (fi + i) (show 0 < 30 by omega)
        exact mR_congr (c8 i hi) (mCopy_o (by omega)) (mCopy_a (by omega) (by omega)) (mCopy_a (by omega) (by omega)) (fun _ _ => rfl) (hr.2.2.2.2 i hi).2.2.2.2.2.1.2
      obtain ⟨S1, a1, a2⟩ := k_fore (W := W) hN (w := w) (by omega) m N 0 _ _ cc (by omega) (by omega)
      rw [Nat.zero_add] at a1
      obtain ⟨b1, b2⟩ := k_same hc a2
      have c : fX2_copy_t247_19 S = some (mCopy S 247 19) := rfl
      refine PM_gw h hf (f := fX11_foretold N T (Int32.ofInt (m : Int)) (Int32.ofInt w)) (g := fX12_foretold N (Int32.ofInt (m : Int)) (Int32.ofInt w)) ?_ b1 (Gp_Gs b2) (fun r e u => ?_) (q := Int32.ofInt (if w = 0 then ftA W true m (rv S 266) 8 else ftA W true m (rv S 266) 9))
      · unfold fX11_foretold
        exact h_neg (by first | omega | ((simp (disch := omega) only [i0, i1, i_lt, i_le, i_eq, i_add, i_sub, i_mul, i_neg, i_ofNat, i_rem, i_div, w_in, w_in2, w_cnt, w_cnt2, z01, z01', il, li, lc_ge, lc_le, lc_gt, lc_lt, lc_eq, l_ofNat, l0, l_eq, l_lt, l_le]) <;> omega)) (h_pos (by first | omega | ((simp (disch := omega) only [i0, i1, i_lt, i_le, i_eq, i_add, i_sub, i_mul, i_neg, i_ofNat, i_rem, i_div, w_in, w_in2, w_cnt, w_cnt2, z01, z01', il, li, lc_ge, lc_le, lc_gt, lc_lt, lc_eq, l_ofNat, l0, l_eq, l_lt, l_le]) <;> omega)) (h_bind c a1))
      · obtain ⟨S2, d1, d2, d3, d4⟩ := q_foretold r e hN u (m := m) (by omega) (w := w) (by omega)
        have ee := ftA_eq (W := W) m (rv S 266) (rv S 266) (fun _ _ _ => rfl) (R_i0 h)
        rw [ee 8 (by omega) (by omega), ee 9 (by omega) (by omega)]
        exact ⟨S2, d1, d2, d3, d4⟩
    · refine ⟨Int32.ofInt (-100000), S, S, ?_, ?_, h⟩
      · unfold fX11_foretold
        exact h_neg (by first | omega | ((simp (disch := omega) only [i0, i1, i_lt, i_le, i_eq, i_add, i_sub, i_mul, i_neg, i_ofNat, i_rem, i_div, w_in, w_in2, w_cnt, w_cnt2, z01, z01', il, li, lc_ge, lc_le, lc_gt, lc_lt, lc_eq, l_ofNat, l0, l_eq, l_lt, l_le]) <;> omega)) (h_neg (by first | omega | ((simp (disch := omega) only [i0, i1, i_lt, i_le, i_eq, i_add, i_sub, i_mul, i_neg, i_ofNat, i_rem, i_div, w_in, w_in2, w_cnt, w_cnt2, z01, z01', il, li, lc_ge, lc_le, lc_gt, lc_lt, lc_eq, l_ofNat, l0, l_eq, l_lt, l_le]) <;> omega)) rfl)
      · unfold fX12_foretold
        exact h_neg (by first | omega | ((simp (disch := omega) only [i0, i1, i_lt, i_le, i_eq, i_add, i_sub, i_mul, i_neg, i_ofNat, i_rem, i_div, w_in, w_in2, w_cnt, w_cnt2, z01, z01', il, li, lc_ge, lc_le, lc_gt, lc_lt, lc_eq, l_ofNat, l0, l_eq, l_lt, l_le]) <;> omega)) (h_neg (by first | omega | ((simp (disch := omega) only [i0, i1, i_lt, i_le, i_eq, i_add, i_sub, i_mul, i_neg, i_ofNat, i_rem, i_div, w_in, w_in2, w_cnt, w_cnt2, z01, z01', il, li, lc_ge, lc_le, lc_gt, lc_lt, lc_eq, l_ofNat, l0, l_eq, l_lt, l_le]) <;> omega)) rfl)
  · refine ⟨Int32.ofInt (-100000), S, S, ?_, ?_, h⟩
    · unfold fX11_foretold
      exact h_pos (by first | omega | ((simp (disch := omega) only [i0, i1, i_lt, i_le, i_eq, i_add, i_sub, i_mul, i_neg, i_ofNat, i_rem, i_div, w_in, w_in2, w_cnt, w_cnt2, z01, z01', il, li, lc_ge, lc_le, lc_gt, lc_lt, lc_eq, l_ofNat, l0, l_eq, l_lt, l_le]) <;> omega)) rfl
    · unfold fX12_foretold
      exact h_pos (by first | omega | ((simp (disch := omega) only [i0, i1, i_lt, i_le, i_eq, i_add, i_sub, i_mul, i_neg, i_ofNat, i_rem, i_div, w_in, w_in2, w_cnt, w_cnt2, z01, z01', il, li, lc_ge, lc_le, lc_gt, lc_lt, lc_eq, l_ofNat, l0, l_eq, l_lt, l_le]) <;> omega)) rfl
end PMS
