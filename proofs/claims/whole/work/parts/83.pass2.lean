/-! ===== a day passes: the birds of the reference ===== -/
section PMS
variable {T : yK} {S S' : yS} {A A' : Nat → Int} {W : Nat → wP}
theorem q_psL {N : Nat} (hN : 2000000 ≤ N) {l : Int32} : ∀ (r n b c : Nat) (S : yS) (A : Nat → Int), RfR S W → rv S 266 = A → (b + r : Nat) = A 0 → (∀ k, b ≤ k → (k : Int) < A 0 → tb l k = dueB A (A 6) k) → ∃ S1, lX12_pass N (n + r) l (Int32.ofInt (c : Int)) (Int32.ofInt (b : Int)) S = lX12_pass N n l (Int32.ofInt ((psL W r b c A).1 : Int)) (Int32.ofInt ((b + r : Nat) : Int)) S1 ∧ RfR S1 W ∧ rv S1 266 = (psL W r b c A).2 ∧ Hz S S1
  | 0, n, b, c, S, A, h, hA, hb, hl => ⟨S, rfl, h, hA, Hz_refl S⟩
  | r + 1, n, b, c, S, A, h, hA, hb, hl => by
    have hr := h.1
    rw [hA] at hr
    have h8 := I_i0 hr
    have h7 := I_x hr
    have lb := hl b (by omega) (by omega)
    rw [show n + (r + 1) = (n + r) + 1 by omega, lX12_pass, rv_eq S 266 0, hA, has_tb l (show b < 32 by omega), lb]
    simp only [i_add]
    rw [show (b : Int) + 1 = ((b + 1 : Nat) : Int) by omega, show (c : Int) + 1 = ((c + 1 : Nat) : Int) by omega, show b + (r + 1) = (b + 1) + r by omega, show (13 : Int) + (b : Int) = ((13 + b : Nat) : Int) by omega]
    unfold psL
    by_cases hd : dueB A (A 6) b = true
    · obtain ⟨S1, d1, d2, dA, g1⟩ := q_draw h hA (v := 10) (by omega)
      have z0 : dwA A 0 = A 0 := rU_ne (by omega)
      obtain ⟨S2, e2, f2⟩ := q_chance d2 hN (b := b) (by rw [dA, z0]; omega)
      rw [dA] at e2
      have d3 := RfR_Fq d2 f2
      have dA3 : rv S2 266 = dwA A := (Fq_rv f2 (by unfold kA; omega)).trans dA
      have hr1 := d2.1
      rw [dA] at hr1
      have hg := chS_rng (W := W) hr1 (show b < 8 by omega)
      have hc := I_came hr1 (show b < 8 by omega)
      have du : ∀ k, dueB (dwA A) (dwA A 6) k = dueB A (A 6) k := fun k => by
        unfold dueB
        rw [show dwA A 12 = A 12 from rU_ne (by omega), show dwA A 6 = A 6 from rU_ne (by omega), show dwA A (21 + k) = A (21 + k) from rU_ne (by omega), show dwA A (29 + k) = A (29 + k) from rU_ne (by omega)]
      by_cases hq : A 7 % 10 < chS W (dwA A) b
      · have u := up_RfR (j := 13 + b) (x := min (dwA A (13 + b) + 1) 9999) d3 dA3 (by omega) (by omega) (by omega) (cm_mI hr1 (show b < 8 by omega))
        have z1 : cmA (dwA A) b 0 = dwA A 0 := rU_ne (by omega)
        have du2 : ∀ k, dueB (cmA (dwA A) b) (cmA (dwA A) b 6) k = dueB (dwA A) (dwA A 6) k := fun k => by
          unfold dueB
          rw [show cmA (dwA A) b 12 = dwA A 12 from rU_ne (by omega), show cmA (dwA A) b 6 = dwA A 6 from rU_ne (by omega), show cmA (dwA A) b (21 + k) = dwA A (21 + k) from rU_ne (by omega), show cmA (dwA A) b (29 + k) = dwA A (29 + k) from rU_ne (by omega)]
        obtain ⟨S4, e4, d5, dA5, g4⟩ := q_psL hN r n (b + 1) (c + 1) _ (cmA (dwA A) b) u.1 u.2 (by rw [z1, z0]; omega) (fun k a1 a2 => by rw [du2, du]; exact hl k (by omega) (by rw [z1, z0] at a2; exact a2))
        have eq : (if dueB A (A 6) b = true then (if A 7 % 10 < chS W (dwA A) b then psL W r (b + 1) (c + 1) (cmA (dwA A) b) else psL W r (b + 1) c (dwA A)) else psL W r (b + 1) c A) = psL W r (b + 1) (c + 1) (cmA (dwA A) b) := by rw [if_pos hd, if_pos hq]
        rw [eq]
        refine ⟨S4, h_neg (by first | omega | ((simp (disch := omega) only [i0, i1, i_lt, i_le, i_eq, i_add, i_sub, i_mul, i_neg, i_ofNat, i_rem, i_div, w_in, w_in2, w_cnt, w_cnt2, z01, z01', il, li, lc_ge, lc_le, lc_gt, lc_lt, lc_eq, l_ofNat, l0, l_eq, l_lt, l_le]) <;> omega)) (h_neg (by rw [if_pos hd]; decide) (h_bind d1 ?_)), d5, dA5, Hz_trans (Hz_trans g1 (Hz_Fq f2)) (Hz_trans Hz_a g4)⟩
        dsimp only
        refine h_bind e2 ?_
        dsimp only
        refine h_pos (by first | omega | ((simp (disch := omega) only [i0, i1, i_lt, i_le, i_eq, i_add, i_sub, i_mul, i_neg, i_ofNat, i_rem, i_div, w_in, w_in2, w_cnt, w_cnt2, z01, z01', il, li, lc_ge, lc_le, lc_gt, lc_lt, lc_eq, l_ofNat, l0, l_eq, l_lt, l_le]) <;> omega)) (h_ainN (by omega) (by omega) (h_ainN (by omega) (by omega) (h_pst ?_)))
        rw [rv_eq S2 266 (13 + b), dA3, i_add, il (by omega) (by omega), hd_l (by omega) (by omega) (by omega) (by omega) (by omega) (by omega) (by omega), show max 0 (min (dwA A (13 + b) + 1) 9999) = min (dwA A (13 + b) + 1) 9999 by omega]
        exact e4
      · obtain ⟨S4, e4, d5, dA5, g4⟩ := q_psL hN r n (b + 1) c S2 (dwA A) d3 dA3 (by rw [z0]; omega) (fun k a1 a2 => by rw [du]; exact hl k (by omega) (by rw [z0] at a2; exact a2))
        have eq : (if dueB A (A 6) b = true then (if A 7 % 10 < chS W (dwA A) b then psL W r (b + 1) (c + 1) (cmA (dwA A) b) else psL W r (b + 1) c (dwA A)) else psL W r (b + 1) c A) = psL W r (b + 1) c (dwA A) := by rw [if_pos hd, if_neg hq]
        rw [eq]
        refine ⟨S4, h_neg (by first | omega | ((simp (disch := omega) only [i0, i1, i_lt, i_le, i_eq, i_add, i_sub, i_mul, i_neg, i_ofNat, i_rem, i_div, w_in, w_in2, w_cnt, w_cnt2, z01, z01', il, li, lc_ge, lc_le, lc_gt, lc_lt, lc_eq, l_ofNat, l0, l_eq, l_lt, l_le]) <;> omega)) (h_neg (by rw [if_pos hd]; decide) (h_bind d1 ?_)), d5, dA5, Hz_trans (Hz_trans g1 (Hz_Fq f2)) g4⟩
        dsimp only
        refine h_bind e2 ?_
        dsimp only
        exact h_neg (by first | omega | ((simp (disch := omega) only [i0, i1, i_lt, i_le, i_eq, i_add, i_sub, i_mul, i_neg, i_ofNat, i_rem, i_div, w_in, w_in2, w_cnt, w_cnt2, z01, z01', il, li, lc_ge, lc_le, lc_gt, lc_lt, lc_eq, l_ofNat, l0, l_eq, l_lt, l_le]) <;> omega)) e4
    · obtain ⟨S4, e4, d5, dA5, g4⟩ := q_psL hN r n (b + 1) c S A h hA (by omega) (fun k a1 a2 => hl k (by omega) a2)
      have eq : (if dueB A (A 6) b = true then (if A 7 % 10 < chS W (dwA A) b then psL W r (b + 1) (c + 1) (cmA (dwA A) b) else psL W r (b + 1) c (dwA A)) else psL W r (b + 1) c A) = psL W r (b + 1) c A := if_neg hd
      rw [eq]
      exact ⟨S4, h_neg (by first | omega | ((simp (disch := omega) only [i0, i1, i_lt, i_le, i_eq, i_add, i_sub, i_mul, i_neg, i_ofNat, i_rem, i_div, w_in, w_in2, w_cnt, w_cnt2, z01, z01', il, li, lc_ge, lc_le, lc_gt, lc_lt, lc_eq, l_ofNat, l0, l_eq, l_lt, l_le]) <;> omega)) (h_pos (by rw [if_neg hd]; decide) e4), d5, dA5, g4⟩
end PMS
