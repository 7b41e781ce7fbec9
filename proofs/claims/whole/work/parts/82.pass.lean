/-! ===== a day passes: the birds ===== -/
def cmA (A : Nat → Int) (b : Nat) : Nat → Int := rU A (13 + b) (min (A (13 + b) + 1) 9999)
def psL (W : Nat → wP) : Nat → Nat → Nat → (Nat → Int) → Nat × (Nat → Int)
  | 0, _, c, A => (c, A)
  | r + 1, b, c, A => if dueB A (A 6) b = true then (if A 7 % 10 < chS W (dwA A) b then psL W r (b + 1) (c + 1) (cmA (dwA A) b) else psL W r (b + 1) c (dwA A)) else psL W r (b + 1) c A
section PMS
variable {T : yK} {S S' : yS} {A A' : Nat → Int} {W : Nat → wP}
theorem cm_mI (h : rI A) {b : Nat} (hb : b < 8) : mI (A 0) (nowF (cmA A b)) := by
  have := I_came h hb
  exact up_mI h (by omega) (by omega) (by omega) (by omega) (by omega) (by omega) (by omega) (by omega) (fun _ => by omega)
theorem k_came (h : ClR T A S W) {b : Nat} (hb : b < 8) : ∃ S1, fX2_noteCame (Int32.ofInt (b : Int)) S = some S1 ∧ ClR T (cmA A b) S1 W ∧ Gn S S1 := by
  have hc := I_came h.2.1 hb
  have ec := K_came h.1 hb
  unfold fX2_noteCame
  by_cases h9 : A (13 + b) = 9999
  · refine ⟨S, h_ainN (by omega) (by omega) ?_, ?_, Gn_refl S⟩
    · rw [ec]
      exact h_pos (by first | omega | ((simp (disch := omega) only [i0, i1, i_lt, i_le, i_eq, i_add, i_sub, i_mul, i_neg, i_ofNat, i_rem, i_div, w_in, w_in2, w_cnt, w_cnt2, z01, z01', il, li, lc_ge, lc_le, lc_gt, lc_lt, lc_eq, l_ofNat, l0, l_eq, l_lt, l_le]) <;> omega)) rfl
    · have e : cmA A b = A := by
        funext k
        unfold cmA rU
        split
        · rename_i q; rw [q, h9]; rfl
        · rfl
      rw [e]; exact h
  · refine ⟨ySa S 20 (upd (S.2.2.1 20) b (Int32.ofInt (A (13 + b) + 1))), h_ainN (by omega) (by omega) ?_, ?_, Gn_a (by omega)⟩
    · rw [ec]
      refine h_neg (by first | omega | ((simp (disch := omega) only [i0, i1, i_lt, i_le, i_eq, i_add, i_sub, i_mul, i_neg, i_ofNat, i_rem, i_div, w_in, w_in2, w_cnt, w_cnt2, z01, z01', il, li, lc_ge, lc_le, lc_gt, lc_lt, lc_eq, l_ofNat, l0, l_eq, l_lt, l_le]) <;> omega)) (h_ainN (by omega) (by omega) (h_ainN (by omega) (by omega) (h_pst ?_)))
      rw [ec, i_add]
    · refine ClR_now h (Gn_a (by omega)) (rU_now (by omega) (by omega)) (cm_mI h.2.1 hb) ?_
      have e : ∀ k, k < 13 → cmA A b k = A k := fun k hk => rU_ne (by omega)
      have hk := h.1
      refine now_mR ?_ ?_ ?_ ?_ ?_ ?_ ?_ (fun k hk2 => ?_) (fun k hk2 => ?_)
      · rw [e 6 (by omega)]; exact (K_day hk :)
      · rw [e 7 (by omega)]; exact (K_x hk :)
      · rw [e 8 (by omega)]; exact (K_fund hk :)
      · rw [e 9 (by omega)]; exact (K_cnt hk :)
      · rw [e 10 (by omega)]; exact (K_thg hk :)
      · rw [e 11 (by omega)]; exact (K_pgs hk :)
      · rw [e 12 (by omega)]; exact (K_gone hk :)
      · rw [ySa_at]
        unfold upd cmA
        by_cases q : k = b
        · rw [if_pos q, q, rU_eq, show min (A (13 + b) + 1) 9999 = A (13 + b) + 1 by omega]
        · rw [if_neg q, rU_ne (by omega)]; exact K_came hk hk2
      · rw [e 11 (by omega)] at hk2
        rw [show cmA A b (1313 + k) = A (1313 + k) from rU_ne (by omega), ySa_ne _ _ (by omega)]
        exact K_page hk hk2
theorem k_psL {N : Nat} (hN : 2000000 ≤ N) : ∀ (r n b c : Nat) (S : yS) (A : Nat → Int), ClR T A S W → (b + r : Nat) = A 0 → ∃ S1, lX11_passDay N T (n + r) (Int32.ofInt (c : Int)) (Int32.ofInt (b : Int)) S = lX11_passDay N T n (Int32.ofInt ((psL W r b c A).1 : Int)) (Int32.ofInt ((b + r : Nat) : Int)) S1 ∧ ClR T (psL W r b c A).2 S1 W ∧ Gn S S1
  | 0, n, b, c, S, A, h, hb => ⟨S, rfl, h, Gn_refl S⟩
  | r + 1, n, b, c, S, A, h, hb => by
    have h8 := I_i0 h.2.1
    have h6 := I_day h.2.1
    have h7 := I_x h.2.1
    have kd := k_due h.1 h.2.1 (show (b : Int) < A 0 by omega) (d := A 6) (by omega)
    rw [show n + (r + 1) = (n + r) + 1 by omega, lX11_passDay, K_birds h.1, K_day h.1]
    simp only [i_add]
    rw [show (b : Int) + 1 = ((b + 1 : Nat) : Int) by omega, show (c : Int) + 1 = ((c + 1 : Nat) : Int) by omega, show b + (r + 1) = (b + 1) + r by omega]
    unfold psL
    by_cases hd : dueB A (A 6) b = true
    · rw [if_pos hd] at kd
      obtain ⟨d1, d2⟩ := k_draw h
      obtain ⟨S2, e2, f2⟩ := k_chance d2 hN (b := b) (show (b : Int) < A 0 by omega)
      have d3 := ClR_Fq d2 f2
      have hg := chS_rng (W := W) d2.2.1 (show b < 8 by omega)
      have z0 : dwA A 0 = A 0 := rU_ne (by omega)
      by_cases hq : A 7 % 10 < chS W (dwA A) b
      · obtain ⟨S3, e3, d4, g3⟩ := k_came d3 (show b < 8 by omega)
        have z1 : cmA (dwA A) b 0 = dwA A 0 := rU_ne (by omega)
        obtain ⟨S4, e4, d5, g4⟩ := k_psL hN r n (b + 1) (c + 1) S3 (cmA (dwA A) b) d4 (by rw [z1, z0]; omega)
        have eq : (if dueB A (A 6) b = true then (if A 7 % 10 < chS W (dwA A) b then psL W r (b + 1) (c + 1) (cmA (dwA A) b) else psL W r (b + 1) c (dwA A)) else psL W r (b + 1) c A) = psL W r (b + 1) (c + 1) (cmA (dwA A) b) := by rw [if_pos hd, if_pos hq]
        rw [eq]
        refine ⟨S4, h_neg (by first | omega | ((simp (disch := omega) only [i0, i1, i_lt, i_le, i_eq, i_add, i_sub, i_mul, i_neg, i_ofNat, i_rem, i_div, w_in, w_in2, w_cnt, w_cnt2, z01, z01', il, li, lc_ge, lc_le, lc_gt, lc_lt, lc_eq, l_ofNat, l0, l_eq, l_lt, l_le]) <;> omega)) (h_bind kd (h_neg (by decide) (h_bind d1 ?_))), d5, Gn_trans (Gn_trans Gn_i (Gn_Fq f2)) (Gn_trans g3 g4)⟩
        dsimp only
        rw [i_rem (by omega) (by omega) (by omega) (by omega)]
        refine h_pst (h_bind e2 ?_)
        dsimp only
        exact h_neg (by first | omega | ((simp (disch := omega) only [i0, i1, i_lt, i_le, i_eq, i_add, i_sub, i_mul, i_neg, i_ofNat, i_rem, i_div, w_in, w_in2, w_cnt, w_cnt2, z01, z01', il, li, lc_ge, lc_le, lc_gt, lc_lt, lc_eq, l_ofNat, l0, l_eq, l_lt, l_le]) <;> omega)) (h_bind e3 e4)
      · obtain ⟨S4, e4, d5, g4⟩ := k_psL hN r n (b + 1) c S2 (dwA A) d3 (by rw [z0]; omega)
        have eq : (if dueB A (A 6) b = true then (if A 7 % 10 < chS W (dwA A) b then psL W r (b + 1) (c + 1) (cmA (dwA A) b) else psL W r (b + 1) c (dwA A)) else psL W r (b + 1) c A) = psL W r (b + 1) c (dwA A) := by rw [if_pos hd, if_neg hq]
        rw [eq]
        refine ⟨S4, h_neg (by first | omega | ((simp (disch := omega) only [i0, i1, i_lt, i_le, i_eq, i_add, i_sub, i_mul, i_neg, i_ofNat, i_rem, i_div, w_in, w_in2, w_cnt, w_cnt2, z01, z01', il, li, lc_ge, lc_le, lc_gt, lc_lt, lc_eq, l_ofNat, l0, l_eq, l_lt, l_le]) <;> omega)) (h_bind kd (h_neg (by decide) (h_bind d1 ?_))), d5, Gn_trans (Gn_trans Gn_i (Gn_Fq f2)) g4⟩
        dsimp only
        rw [i_rem (by omega) (by omega) (by omega) (by omega)]
        refine h_pst (h_bind e2 ?_)
        dsimp only
        exact h_pos (by first | omega | ((simp (disch := omega) only [i0, i1, i_lt, i_le, i_eq, i_add, i_sub, i_mul, i_neg, i_ofNat, i_rem, i_div, w_in, w_in2, w_cnt, w_cnt2, z01, z01', il, li, lc_ge, lc_le, lc_gt, lc_lt, lc_eq, l_ofNat, l0, l_eq, l_lt, l_le]) <;> omega)) e4
    · rw [if_neg hd] at kd
      obtain ⟨S4, e4, d5, g4⟩ := k_psL hN r n (b + 1) c S A h (by omega)
      have eq : (if dueB A (A 6) b = true then (if A 7 % 10 < chS W (dwA A) b then psL W r (b + 1) (c + 1) (cmA (dwA A) b) else psL W r (b + 1) c (dwA A)) else psL W r (b + 1) c A) = psL W r (b + 1) c A := if_neg hd
      rw [eq]
      exact ⟨S4, h_neg (by first | omega | ((simp (disch := omega) only [i0, i1, i_lt, i_le, i_eq, i_add, i_sub, i_mul, i_neg, i_ofNat, i_rem, i_div, w_in, w_in2, w_cnt, w_cnt2, z01, z01', il, li, lc_ge, lc_le, lc_gt, lc_lt, lc_eq, l_ofNat, l0, l_eq, l_lt, l_le]) <;> omega)) (h_bind kd (h_pos (by decide) e4)), d5, g4⟩
end PMS
