/-! ===== years ===== -/
def hpA (W : Nat → wP) (x : Int) (B : Nat → Int) : Nat → Int := if x % 6 = 0 then (if x % 4 = 2 ∧ thB B (x / 6 % 8) = true then orA B (x / 6 % 8) else B) else if x % 6 = 1 then (if clB B (x / 6 % 8) = true then clA B (x / 6 % 8) else B) else if x % 6 = 2 then (if x % 4 = 0 ∧ grB B (1 + x / 6 % 50) = true then rU B 8 (B 8 + (1 + x / 6 % 50)) else B) else (if B 6 < 9999 then psA W true B else B)
def yrA (W : Nat → wP) : Nat → (Nat → Int) → (Nat → Int)
  | 0, A => A
  | r + 1, A => yrA W r (hpA W (A 7) (dwA A))
section PMS
variable {T : yK} {S S' S1 S2 : yS} {A A' : Nat → Int} {W : Nat → wP}
theorem k_year (h : ClR T A S W) {N : Nat} (hN : 2000000 ≤ N) : ∃ S1, fX11_drawYear N T S = some S1 ∧ ClR T (hpA W (A 7) (dwA A)) S1 W ∧ Gs S S1 := by
  have hx := I_x h.2.1
  obtain ⟨d1, d2⟩ := k_draw h
  generalize hB : dwA A = B at *
  generalize hX : A 7 = x at *
  generalize hS : ySi S 19 5 (Int32.ofInt ((x * 661 + 541) % 30949)) = S0 at *
  have g0 : Gs S S0 := by rw [← hS]; exact Gs_Gn Gn_i
  have hr := d2.2.1
  have h6 := I_day hr
  have h8 := I_fund hr
  have q6 : 0 ≤ x / 6 ∧ x / 6 < 6000 := by omega
  have e8 : 0 ≤ x / 6 % 8 ∧ x / 6 % 8 < 8 := by omega
  have e50 : 0 ≤ x / 6 % 50 ∧ x / 6 % 50 < 50 := by omega
  have e4 : 0 ≤ x % 4 ∧ x % 4 < 4 := by omega
  have e6 : 0 ≤ x % 6 ∧ x % 6 < 6 := by omega
  have ct := k_canThin d2.1 hr (v := x / 6 % 8) (by omega) (by omega)
  have cc := k_canCall d2.1 hr (v := x / 6 % 8) (by omega) (by omega)
  have cg := k_canGrant d2.1 hr (v := 1 + x / 6 % 50) (by omega) (by omega)
  have st : ∀ X : yS, (pSt (Int32.ofInt (x / 6 % 8)) fun w4 => pSt (Int32.ofInt (1 + x / 6 % 50)) fun w5 => pSt (Int32.ofInt (x % 6)) fun w6 => (if w6 = (Int32.ofInt 0) then (if ¬ (Int32.ofInt (x % 4)) = (Int32.ofInt 2) then some S0 else (fX0_canThin w4 S0).bind fun u20 => (if u20 = 0 then some S0 else (fX2_markGone w4 S0).bind fun S22 => some S22)) else (if w6 = (Int32.ofInt 1) then (fX0_canCall w4 S0).bind fun u16 => (if u16 = 0 then some S0 else (fX2_markBack w4 S0).bind fun S18 => some S18) else (if w6 = (Int32.ofInt 2) then (if ¬ (Int32.ofInt (x % 4)) = 0 then some S0 else (fX0_canGrant w5 S0).bind fun u13 => (if u13 = 0 then some S0 else pSt (ySi S0 19 1 ((S0.1 19 1) + w5)) fun S14 => some S14)) else (fX0_canPass S0).bind fun u8 => (if u8 = 0 then some S0 else (fX11_passDay N T S0).bind fun (u11, S10) => some S10))))) = some X → fX11_drawYear N T S = some X := by
    intro X hh
    unfold fX11_drawYear
    refine h_bind d1 ?_
    dsimp only
    rw [i_rem (a := x) (b := 6) (by omega) (by omega) (by omega) (by omega), i_rem (a := x) (b := 4) (by omega) (by omega) (by omega) (by omega), i_div (by omega) (by omega) (by omega) (by omega), i_rem (a := x / 6) (b := 8) (by omega) (by omega) (by omega) (by omega), i_rem (a := x / 6) (b := 50) (by omega) (by omega) (by omega) (by omega), i_add 1 (x / 6 % 50)]
    exact hh
  unfold hpA
  by_cases c0 : x % 6 = 0
  · rw [if_pos c0]
    by_cases c2 : x % 4 = 2
    · by_cases ht : thB B (x / 6 % 8) = true
      · have eq : (if x % 4 = 2 ∧ thB B (x / 6 % 8) = true then orA B (x / 6 % 8) else B) = orA B (x / 6 % 8) := if_pos ⟨c2, ht⟩
        rw [eq]
        rw [if_pos ht] at ct
        obtain ⟨S1, m1, m2, m3⟩ := k_markGone d2 (v := x / 6 % 8) (Bool.and_eq_true_iff.mp ht).1
        exact ⟨S1, st S1 (h_pst (h_pst (h_pst (h_pos (by first | omega | ((simp (disch := omega) only [i0, i1, i_lt, i_le, i_eq, i_add, i_sub, i_mul, i_neg, i_ofNat, i_rem, i_div, w_in, w_in2, w_cnt, w_cnt2, z01, z01', il, li, lc_ge, lc_le, lc_gt, lc_lt, lc_eq, l_ofNat, l0, l_eq, l_lt, l_le]) <;> omega)) (h_neg (by first | omega | ((simp (disch := omega) only [i0, i1, i_lt, i_le, i_eq, i_add, i_sub, i_mul, i_neg, i_ofNat, i_rem, i_div, w_in, w_in2, w_cnt, w_cnt2, z01, z01', il, li, lc_ge, lc_le, lc_gt, lc_lt, lc_eq, l_ofNat, l0, l_eq, l_lt, l_le]) <;> omega)) (h_bind ct (h_neg (by decide) (h_bind m1 rfl)))))))), m2, Gs_trans g0 (Gs_Gn m3)⟩
      · have eq : (if x % 4 = 2 ∧ thB B (x / 6 % 8) = true then orA B (x / 6 % 8) else B) = B := if_neg (fun q => ht q.2)
        rw [eq]
        rw [if_neg ht] at ct
        exact ⟨S0, st S0 (h_pst (h_pst (h_pst (h_pos (by first | omega | ((simp (disch := omega) only [i0, i1, i_lt, i_le, i_eq, i_add, i_sub, i_mul, i_neg, i_ofNat, i_rem, i_div, w_in, w_in2, w_cnt, w_cnt2, z01, z01', il, li, lc_ge, lc_le, lc_gt, lc_lt, lc_eq, l_ofNat, l0, l_eq, l_lt, l_le]) <;> omega)) (h_neg (by first | omega | ((simp (disch := omega) only [i0, i1, i_lt, i_le, i_eq, i_add, i_sub, i_mul, i_neg, i_ofNat, i_rem, i_div, w_in, w_in2, w_cnt, w_cnt2, z01, z01', il, li, lc_ge, lc_le, lc_gt, lc_lt, lc_eq, l_ofNat, l0, l_eq, l_lt, l_le]) <;> omega)) (h_bind ct (h_pos (by decide) rfl))))))), d2, g0⟩
    · have eq : (if x % 4 = 2 ∧ thB B (x / 6 % 8) = true then orA B (x / 6 % 8) else B) = B := if_neg (fun q => c2 q.1)
      rw [eq]
      exact ⟨S0, st S0 (h_pst (h_pst (h_pst (h_pos (by first | omega | ((simp (disch := omega) only [i0, i1, i_lt, i_le, i_eq, i_add, i_sub, i_mul, i_neg, i_ofNat, i_rem, i_div, w_in, w_in2, w_cnt, w_cnt2, z01, z01', il, li, lc_ge, lc_le, lc_gt, lc_lt, lc_eq, l_ofNat, l0, l_eq, l_lt, l_le]) <;> omega)) (h_pos (by first | omega | ((simp (disch := omega) only [i0, i1, i_lt, i_le, i_eq, i_add, i_sub, i_mul, i_neg, i_ofNat, i_rem, i_div, w_in, w_in2, w_cnt, w_cnt2, z01, z01', il, li, lc_ge, lc_le, lc_gt, lc_lt, lc_eq, l_ofNat, l0, l_eq, l_lt, l_le]) <;> omega)) rfl))))), d2, g0⟩
  · rw [if_neg c0]
    by_cases c1 : x % 6 = 1
    · rw [if_pos c1]
      by_cases ht : clB B (x / 6 % 8) = true
      · have eq : (if clB B (x / 6 % 8) = true then clA B (x / 6 % 8) else B) = clA B (x / 6 % 8) := if_pos ht
        rw [eq]
        rw [if_pos ht] at cc
        obtain ⟨S1, m1, m2, m3⟩ := k_markBack d2 (v := x / 6 % 8) (Bool.and_eq_true_iff.mp ht).1
        exact ⟨S1, st S1 (h_pst (h_pst (h_pst (h_neg (by first | omega | ((simp (disch := omega) only [i0, i1, i_lt, i_le, i_eq, i_add, i_sub, i_mul, i_neg, i_ofNat, i_rem, i_div, w_in, w_in2, w_cnt, w_cnt2, z01, z01', il, li, lc_ge, lc_le, lc_gt, lc_lt, lc_eq, l_ofNat, l0, l_eq, l_lt, l_le]) <;> omega)) (h_pos (by first | omega | ((simp (disch := omega) only [i0, i1, i_lt, i_le, i_eq, i_add, i_sub, i_mul, i_neg, i_ofNat, i_rem, i_div, w_in, w_in2, w_cnt, w_cnt2, z01, z01', il, li, lc_ge, lc_le, lc_gt, lc_lt, lc_eq, l_ofNat, l0, l_eq, l_lt, l_le]) <;> omega)) (h_bind cc (h_neg (by decide) (h_bind m1 rfl)))))))), m2, Gs_trans g0 (Gs_Gn m3)⟩
      · have eq : (if clB B (x / 6 % 8) = true then clA B (x / 6 % 8) else B) = B := if_neg ht
        rw [eq]
        rw [if_neg ht] at cc
        exact ⟨S0, st S0 (h_pst (h_pst (h_pst (h_neg (by first | omega | ((simp (disch := omega) only [i0, i1, i_lt, i_le, i_eq, i_add, i_sub, i_mul, i_neg, i_ofNat, i_rem, i_div, w_in, w_in2, w_cnt, w_cnt2, z01, z01', il, li, lc_ge, lc_le, lc_gt, lc_lt, lc_eq, l_ofNat, l0, l_eq, l_lt, l_le]) <;> omega)) (h_pos (by first | omega | ((simp (disch := omega) only [i0, i1, i_lt, i_le, i_eq, i_add, i_sub, i_mul, i_neg, i_ofNat, i_rem, i_div, w_in, w_in2, w_cnt, w_cnt2, z01, z01', il, li, lc_ge, lc_le, lc_gt, lc_lt, lc_eq, l_ofNat, l0, l_eq, l_lt, l_le]) <;> omega)) (h_bind cc (h_pos (by decide) rfl))))))), d2, g0⟩
    · rw [if_neg c1]
      by_cases c2 : x % 6 = 2
      · rw [if_pos c2]
        by_cases c4 : x % 4 = 0
        · by_cases ht : grB B (1 + x / 6 % 50) = true
          · have eq : (if x % 4 = 0 ∧ grB B (1 + x / 6 % 50) = true then rU B 8 (B 8 + (1 + x / 6 % 50)) else B) = rU B 8 (B 8 + (1 + x / 6 % 50)) := if_pos ⟨c4, ht⟩
            rw [eq]
            rw [if_pos ht] at cg
            have hg := gr_t.mp ht
            have u := up_ClR (j := 8) (x := B 8 + (1 + x / 6 % 50)) d2 (by omega) (by omega) (by omega) (up8_mI hr hg)
            refine ⟨_, st _ (h_pst (h_pst (h_pst (h_neg (by first | omega | ((simp (disch := omega) only [i0, i1, i_lt, i_le, i_eq, i_add, i_sub, i_mul, i_neg, i_ofNat, i_rem, i_div, w_in, w_in2, w_cnt, w_cnt2, z01, z01', il, li, lc_ge, lc_le, lc_gt, lc_lt, lc_eq, l_ofNat, l0, l_eq, l_lt, l_le]) <;> omega)) (h_neg (by first | omega | ((simp (disch := omega) only [i0, i1, i_lt, i_le, i_eq, i_add, i_sub, i_mul, i_neg, i_ofNat, i_rem, i_div, w_in, w_in2, w_cnt, w_cnt2, z01, z01', il, li, lc_ge, lc_le, lc_gt, lc_lt, lc_eq, l_ofNat, l0, l_eq, l_lt, l_le]) <;> omega)) (h_pos (by first | omega | ((simp (disch := omega) only [i0, i1, i_lt, i_le, i_eq, i_add, i_sub, i_mul, i_neg, i_ofNat, i_rem, i_div, w_in, w_in2, w_cnt, w_cnt2, z01, z01', il, li, lc_ge, lc_le, lc_gt, lc_lt, lc_eq, l_ofNat, l0, l_eq, l_lt, l_le]) <;> omega)) (h_neg (by first | omega | ((simp (disch := omega) only [i0, i1, i_lt, i_le, i_eq, i_add, i_sub, i_mul, i_neg, i_ofNat, i_rem, i_div, w_in, w_in2, w_cnt, w_cnt2, z01, z01', il, li, lc_ge, lc_le, lc_gt, lc_lt, lc_eq, l_ofNat, l0, l_eq, l_lt, l_le]) <;> omega)) (h_bind cg (h_neg (by decide) (h_pst ?_)))))))))), u, Gs_trans g0 (Gs_Gn Gn_i)⟩
            rw [K_fund d2.1, i_add]
            rfl
          · have eq : (if x % 4 = 0 ∧ grB B (1 + x / 6 % 50) = true then rU B 8 (B 8 + (1 + x / 6 % 50)) else B) = B := if_neg (fun q => ht q.2)
            rw [eq]
            rw [if_neg ht] at cg
            exact ⟨S0, st S0 (h_pst (h_pst (h_pst (h_neg (by first | omega | ((simp (disch := omega) only [i0, i1, i_lt, i_le, i_eq, i_add, i_sub, i_mul, i_neg, i_ofNat, i_rem, i_div, w_in, w_in2, w_cnt, w_cnt2, z01, z01', il, li, lc_ge, lc_le, lc_gt, lc_lt, lc_eq, l_ofNat, l0, l_eq, l_lt, l_le]) <;> omega)) (h_neg (by first | omega | ((simp (disch := omega) only [i0, i1, i_lt, i_le, i_eq, i_add, i_sub, i_mul, i_neg, i_ofNat, i_rem, i_div, w_in, w_in2, w_cnt, w_cnt2, z01, z01', il, li, lc_ge, lc_le, lc_gt, lc_lt, lc_eq, l_ofNat, l0, l_eq, l_lt, l_le]) <;> omega)) (h_pos (by first | omega | ((simp (disch := omega) only [i0, i1, i_lt, i_le, i_eq, i_add, i_sub, i_mul, i_neg, i_ofNat, i_rem, i_div, w_in, w_in2, w_cnt, w_cnt2, z01, z01', il, li, lc_ge, lc_le, lc_gt, lc_lt, lc_eq, l_ofNat, l0, l_eq, l_lt, l_le]) <;> omega)) (h_neg (by first | omega | ((simp (disch := omega) only [i0, i1, i_lt, i_le, i_eq, i_add, i_sub, i_mul, i_neg, i_ofNat, i_rem, i_div, w_in, w_in2, w_cnt, w_cnt2, z01, z01', il, li, lc_ge, lc_le, lc_gt, lc_lt, lc_eq, l_ofNat, l0, l_eq, l_lt, l_le]) <;> omega)) (h_bind cg (h_pos (by decide) rfl))))))))), d2, g0⟩
        · have eq : (if x % 4 = 0 ∧ grB B (1 + x / 6 % 50) = true then rU B 8 (B 8 + (1 + x / 6 % 50)) else B) = B := if_neg (fun q => c4 q.1)
          rw [eq]
          exact ⟨S0, st S0 (h_pst (h_pst (h_pst (h_neg (by first | omega | ((simp (disch := omega) only [i0, i1, i_lt, i_le, i_eq, i_add, i_sub, i_mul, i_neg, i_ofNat, i_rem, i_div, w_in, w_in2, w_cnt, w_cnt2, z01, z01', il, li, lc_ge, lc_le, lc_gt, lc_lt, lc_eq, l_ofNat, l0, l_eq, l_lt, l_le]) <;> omega)) (h_neg (by first | omega | ((simp (disch := omega) only [i0, i1, i_lt, i_le, i_eq, i_add, i_sub, i_mul, i_neg, i_ofNat, i_rem, i_div, w_in, w_in2, w_cnt, w_cnt2, z01, z01', il, li, lc_ge, lc_le, lc_gt, lc_lt, lc_eq, l_ofNat, l0, l_eq, l_lt, l_le]) <;> omega)) (h_pos (by first | omega | ((simp (disch := omega) only [i0, i1, i_lt, i_le, i_eq, i_add, i_sub, i_mul, i_neg, i_ofNat, i_rem, i_div, w_in, w_in2, w_cnt, w_cnt2, z01, z01', il, li, lc_ge, lc_le, lc_gt, lc_lt, lc_eq, l_ofNat, l0, l_eq, l_lt, l_le]) <;> omega)) (h_pos (by first | omega | ((simp (disch := omega) only [i0, i1, i_lt, i_le, i_eq, i_add, i_sub, i_mul, i_neg, i_ofNat, i_rem, i_div, w_in, w_in2, w_cnt, w_cnt2, z01, z01', il, li, lc_ge, lc_le, lc_gt, lc_lt, lc_eq, l_ofNat, l0, l_eq, l_lt, l_le]) <;> omega)) rfl))))))), d2, g0⟩
      · rw [if_neg c2]
        have cp : fX0_canPass S0 = some (Int32.ofInt (if B 6 < 9999 then 1 else 0)) := by
          unfold fX0_canPass
          rw [K_day d2.1]
          by_cases q : B 6 < 9999
          · rw [if_pos q]; exact h_neg (by first | omega | ((simp (disch := omega) only [i0, i1, i_lt, i_le, i_eq, i_add, i_sub, i_mul, i_neg, i_ofNat, i_rem, i_div, w_in, w_in2, w_cnt, w_cnt2, z01, z01', il, li, lc_ge, lc_le, lc_gt, lc_lt, lc_eq, l_ofNat, l0, l_eq, l_lt, l_le]) <;> omega)) rfl
          · rw [if_neg q]; exact h_pos (by first | omega | ((simp (disch := omega) only [i0, i1, i_lt, i_le, i_eq, i_add, i_sub, i_mul, i_neg, i_ofNat, i_rem, i_div, w_in, w_in2, w_cnt, w_cnt2, z01, z01', il, li, lc_ge, lc_le, lc_gt, lc_lt, lc_eq, l_ofNat, l0, l_eq, l_lt, l_le]) <;> omega)) rfl
        by_cases q : B 6 < 9999
        · rw [if_pos q]
          rw [if_pos q] at cp
          obtain ⟨S1, m1, m2, m3⟩ := k_pass d2 hN (by omega)
          exact ⟨S1, st S1 (h_pst (h_pst (h_pst (h_neg (by first | omega | ((simp (disch := omega) only [i0, i1, i_lt, i_le, i_eq, i_add, i_sub, i_mul, i_neg, i_ofNat, i_rem, i_div, w_in, w_in2, w_cnt, w_cnt2, z01, z01', il, li, lc_ge, lc_le, lc_gt, lc_lt, lc_eq, l_ofNat, l0, l_eq, l_lt, l_le]) <;> omega)) (h_neg (by first | omega | ((simp (disch := omega) only [i0, i1, i_lt, i_le, i_eq, i_add, i_sub, i_mul, i_neg, i_ofNat, i_rem, i_div, w_in, w_in2, w_cnt, w_cnt2, z01, z01', il, li, lc_ge, lc_le, lc_gt, lc_lt, lc_eq, l_ofNat, l0, l_eq, l_lt, l_le]) <;> omega)) (h_neg (by first | omega | ((simp (disch := omega) only [i0, i1, i_lt, i_le, i_eq, i_add, i_sub, i_mul, i_neg, i_ofNat, i_rem, i_div, w_in, w_in2, w_cnt, w_cnt2, z01, z01', il, li, lc_ge, lc_le, lc_gt, lc_lt, lc_eq, l_ofNat, l0, l_eq, l_lt, l_le]) <;> omega)) (h_bind cp (h_neg (by decide) (h_bind m1 rfl))))))))), m2, Gs_trans g0 (Gs_Gn m3)⟩
        · rw [if_neg q]
          rw [if_neg q] at cp
          exact ⟨S0, st S0 (h_pst (h_pst (h_pst (h_neg (by first | omega | ((simp (disch := omega) only [i0, i1, i_lt, i_le, i_eq, i_add, i_sub, i_mul, i_neg, i_ofNat, i_rem, i_div, w_in, w_in2, w_cnt, w_cnt2, z01, z01', il, li, lc_ge, lc_le, lc_gt, lc_lt, lc_eq, l_ofNat, l0, l_eq, l_lt, l_le]) <;> omega)) (h_neg (by first | omega | ((simp (disch := omega) only [i0, i1, i_lt, i_le, i_eq, i_add, i_sub, i_mul, i_neg, i_ofNat, i_rem, i_div, w_in, w_in2, w_cnt, w_cnt2, z01, z01', il, li, lc_ge, lc_le, lc_gt, lc_lt, lc_eq, l_ofNat, l0, l_eq, l_lt, l_le]) <;> omega)) (h_neg (by first | omega | ((simp (disch := omega) only [i0, i1, i_lt, i_le, i_eq, i_add, i_sub, i_mul, i_neg, i_ofNat, i_rem, i_div, w_in, w_in2, w_cnt, w_cnt2, z01, z01', il, li, lc_ge, lc_le, lc_gt, lc_lt, lc_eq, l_ofNat, l0, l_eq, l_lt, l_le]) <;> omega)) (h_bind cp (h_pos (by decide) rfl)))))))), d2, g0⟩
/-- what the reference does needlessly -/
theorem or_no {v : Int} (hr : rI A) (hb : hbB A v = true) (ht : thB A v = false) : orA A v = A := by
  have hv := hb_t.mp hb
  have h0 := I_i0 hr
  have hg := I_gone8 hr
  obtain ⟨b, rfl⟩ := Int.eq_ofNat_of_zero_le hv.1
  unfold thB at ht
  rw [hb, Bool.true_and, Int.toNat_natCast] at ht
  have t1 := tb_nat (A 12).toNat (by omega) b (by omega)
  rw [show (((A 12).toNat : Nat) : Int) = A 12 by omega] at t1
  have t2 : (A 12).toNat.testBit b = true := by
    rw [← t1]
    cases hh : tb (Int32.ofInt (A 12)) b with
    | true => rfl
    | false => rw [hh] at ht; cases ht
  have e := b_same (A 12).toNat (by omega) b (by omega) t2
  funext k
  unfold orA rU
  rw [Int.toNat_natCast, e]
  split
  · rename_i q; rw [q]; omega
  · rfl
theorem cl_no {v : Int} (hr : rI A) (hv : 0 ≤ v ∧ v < 8) (ht : clB A v = false) : clA A v = A := by
  have h0 := I_i0 hr
  have hg := I_gone8 hr
  have hg2 := I_gone hr
  obtain ⟨b, rfl⟩ := Int.eq_ofNat_of_zero_le hv.1
  have t1 := tb_nat (A 12).toNat (by omega) b (by omega)
  rw [show (((A 12).toNat : Nat) : Int) = A 12 by omega] at t1
  have t2 : (A 12).toNat.testBit b = false := by
    by_cases hb : (b : Int) < A 0
    · have e1 : hbB A (b : Int) = true := hb_t.mpr ⟨by omega, hb⟩
      unfold clB at ht
      rw [e1, Bool.true_and, Int.toNat_natCast] at ht
      rw [← t1]; exact ht
    · apply Nat.testBit_lt_two_pow
      have e1 : 2 ^ (A 0).toNat ≤ 2 ^ b := Nat.pow_le_pow_right (by omega) (by omega)
      have e2 : ((A 12).toNat : Int) < ((2 ^ (A 0).toNat : Nat) : Int) := by
        rw [show (((A 12).toNat : Nat) : Int) = A 12 by omega]
        exact_mod_cast hg2.2
      omega
  funext k
  unfold clA rU clN
  rw [Int.toNat_natCast, t2]
  split
  · rename_i q
    rw [q, if_neg (by decide)]
    omega
  · rfl
theorem q_happens (h : RfR S W) (hA : rv S 266 = A) {N : Nat} (hN : 2000000 ≤ N) {x : Int} (hx : 0 ≤ x ∧ x < 30949) (hw : S.1 265 23 = Int32.ofInt 1) : ∃ S1, fX12_happens N (Int32.ofInt x) S = some S1 ∧ RfR S1 W ∧ rv S1 266 = hpA W x A ∧ Hn S S1 := by
  have hr := h.1
  rw [hA] at hr
  have h6 := I_day hr
  have h8 := I_fund hr
  have h0 := I_i0 hr
  have hg := I_gone8 hr
  have q6 : 0 ≤ x / 6 ∧ x / 6 < 6000 := by omega
  have e8 : 0 ≤ x / 6 % 8 ∧ x / 6 % 8 < 8 := by omega
  have e50 : 0 ≤ x / 6 % 50 ∧ x / 6 % 50 < 50 := by omega
  have e4 : 0 ≤ x % 4 ∧ x % 4 < 4 := by omega
  have e6 : 0 ≤ x % 6 ∧ x % 6 < 6 := by omega
  have qb := q_has hr hA (v := x / 6 % 8) (by omega) (by omega)
  have qg := q_canGrant hr hA (v := 1 + x / 6 % 50) (by omega) (by omega)
  obtain ⟨b, hb⟩ := Int.eq_ofNat_of_zero_le e8.1
  have eo := b_or (A 12).toNat (by omega) b (by omega)
  have ea := b_andn (A 12).toNat (by omega) b (by omega)
  rw [show (((A 12).toNat : Nat) : Int) = A 12 by omega] at eo ea
  unfold fX12_happens hpA
  rw [i_rem (a := x) (b := 6) (by omega) (by omega) (by omega) (by omega), i_rem (a := x) (b := 4) (by omega) (by omega) (by omega) (by omega), i_div (by omega) (by omega) (by omega) (by omega), i_rem (a := x / 6) (b := 8) (by omega) (by omega) (by omega) (by omega), i_rem (a := x / 6) (b := 50) (by omega) (by omega) (by omega) (by omega), i_add 1 (x / 6 % 50)]
  by_cases c0 : x % 6 = 0
  · rw [if_pos c0]
    by_cases c2 : x % 4 = 2
    · by_cases hh : hbB A (x / 6 % 8) = true
      · rw [if_pos hh] at qb
        have m := or_mI hr hh
        have m6 : 0 ≤ (((A 12).toNat ||| 2 ^ (x / 6 % 8).toNat : Nat) : Int) ∧ (((A 12).toNat ||| 2 ^ (x / 6 % 8).toNat : Nat) : Int) < 2 ^ (A 0).toNat := m.2.2.2.2.2.2.1
        have hp : (2 : Int) ^ (A 0).toNat ≤ 2 ^ 8 := by
          have : 2 ^ (A 0).toNat ≤ 2 ^ 8 := Nat.pow_le_pow_right (by omega) (by omega)
          exact_mod_cast this
        have e256 : (2 : Int) ^ 8 = 256 := rfl
        have u := up_RfR (j := 12) h hA (by omega) (by omega) (x := (((A 12).toNat ||| 2 ^ (x / 6 % 8).toNat : Nat) : Int)) (by omega) m
        refine ⟨_, h_pst (h_pst (h_pst (h_pos (by first | omega | ((simp (disch := omega) only [i0, i1, i_lt, i_le, i_eq, i_add, i_sub, i_mul, i_neg, i_ofNat, i_rem, i_div, w_in, w_in2, w_cnt, w_cnt2, z01, z01', il, li, lc_ge, lc_le, lc_gt, lc_lt, lc_eq, l_ofNat, l0, l_eq, l_lt, l_le]) <;> omega)) (h_neg (by first | omega | ((simp (disch := omega) only [i0, i1, i_lt, i_le, i_eq, i_add, i_sub, i_mul, i_neg, i_ofNat, i_rem, i_div, w_in, w_in2, w_cnt, w_cnt2, z01, z01', il, li, lc_ge, lc_le, lc_gt, lc_lt, lc_eq, l_ofNat, l0, l_eq, l_lt, l_le]) <;> omega)) (h_bind qb (h_neg (by decide) (h_pst ?_))))))), u.1, ?_, Hn_a⟩
        · rw [rv_eq S 266 12, hA, hb, eo, Int.toNat_natCast]
        · rw [u.2]
          show orA A (x / 6 % 8) = _
          by_cases ht : thB A (x / 6 % 8) = true
          · rw [if_pos ⟨c2, ht⟩]
          · rw [if_neg (fun q => ht q.2), or_no hr hh (by
              cases hq : thB A (x / 6 % 8) with
              | true => exact absurd hq ht
              | false => rfl)]
      · rw [if_neg hh] at qb
        refine ⟨S, h_pst (h_pst (h_pst (h_pos (by first | omega | ((simp (disch := omega) only [i0, i1, i_lt, i_le, i_eq, i_add, i_sub, i_mul, i_neg, i_ofNat, i_rem, i_div, w_in, w_in2, w_cnt, w_cnt2, z01, z01', il, li, lc_ge, lc_le, lc_gt, lc_lt, lc_eq, l_ofNat, l0, l_eq, l_lt, l_le]) <;> omega)) (h_neg (by first | omega | ((simp (disch := omega) only [i0, i1, i_lt, i_le, i_eq, i_add, i_sub, i_mul, i_neg, i_ofNat, i_rem, i_div, w_in, w_in2, w_cnt, w_cnt2, z01, z01', il, li, lc_ge, lc_le, lc_gt, lc_lt, lc_eq, l_ofNat, l0, l_eq, l_lt, l_le]) <;> omega)) (h_bind qb (h_pos (by decide) rfl)))))), h, ?_, Hn_refl S⟩
        rw [if_neg (fun q => hh (Bool.and_eq_true_iff.mp q.2).1), hA]
    · refine ⟨S, h_pst (h_pst (h_pst (h_pos (by first | omega | ((simp (disch := omega) only [i0, i1, i_lt, i_le, i_eq, i_add, i_sub, i_mul, i_neg, i_ofNat, i_rem, i_div, w_in, w_in2, w_cnt, w_cnt2, z01, z01', il, li, lc_ge, lc_le, lc_gt, lc_lt, lc_eq, l_ofNat, l0, l_eq, l_lt, l_le]) <;> omega)) (h_pos (by first | omega | ((simp (disch := omega) only [i0, i1, i_lt, i_le, i_eq, i_add, i_sub, i_mul, i_neg, i_ofNat, i_rem, i_div, w_in, w_in2, w_cnt, w_cnt2, z01, z01', il, li, lc_ge, lc_le, lc_gt, lc_lt, lc_eq, l_ofNat, l0, l_eq, l_lt, l_le]) <;> omega)) rfl)))), h, ?_, Hn_refl S⟩
      rw [if_neg (fun q => c2 q.1), hA]
  · rw [if_neg c0]
    by_cases c1 : x % 6 = 1
    · rw [if_pos c1]
      have hle := clN_le (A 12).toNat (x / 6 % 8).toNat
      have u := up_RfR (j := 12) h hA (by omega) (by omega) (x := ((clN (A 12).toNat (x / 6 % 8).toNat : Nat) : Int)) (by omega) (cl_mI hr)
      refine ⟨_, h_pst (h_pst (h_pst (h_neg (by first | omega | ((simp (disch := omega) only [i0, i1, i_lt, i_le, i_eq, i_add, i_sub, i_mul, i_neg, i_ofNat, i_rem, i_div, w_in, w_in2, w_cnt, w_cnt2, z01, z01', il, li, lc_ge, lc_le, lc_gt, lc_lt, lc_eq, l_ofNat, l0, l_eq, l_lt, l_le]) <;> omega)) (h_pos (by first | omega | ((simp (disch := omega) only [i0, i1, i_lt, i_le, i_eq, i_add, i_sub, i_mul, i_neg, i_ofNat, i_rem, i_div, w_in, w_in2, w_cnt, w_cnt2, z01, z01', il, li, lc_ge, lc_le, lc_gt, lc_lt, lc_eq, l_ofNat, l0, l_eq, l_lt, l_le]) <;> omega)) (h_pst ?_))))), u.1, ?_, Hn_a⟩
      · rw [rv_eq S 266 12, hA, hb, ea, Int.toNat_natCast]
      · rw [u.2]
        show clA A (x / 6 % 8) = _
        by_cases ht : clB A (x / 6 % 8) = true
        · rw [if_pos ht]
        · rw [if_neg ht, cl_no hr (by omega) (by
            cases hq : clB A (x / 6 % 8) with
            | true => exact absurd hq ht
            | false => rfl)]
    · rw [if_neg c1]
      by_cases c2 : x % 6 = 2
      · rw [if_pos c2]
        by_cases c4 : x % 4 = 0
        · by_cases ht : grB A (1 + x / 6 % 50) = true
          · have hgn : gnB A (1 + x / 6 % 50) = true := by
              unfold gnB
              rw [ht, Bool.and_true]
              exact decide_eq_true (by omega)
            rw [if_pos hgn] at qg
            have hgr := gr_t.mp ht
            have u := up_RfR (j := 8) (x := A 8 + (1 + x / 6 % 50)) h hA (by omega) (by omega) (by omega) (up8_mI hr hgr)
            refine ⟨_, h_pst (h_pst (h_pst (h_neg (by first | omega | ((simp (disch := omega) only [i0, i1, i_lt, i_le, i_eq, i_add, i_sub, i_mul, i_neg, i_ofNat, i_rem, i_div, w_in, w_in2, w_cnt, w_cnt2, z01, z01', il, li, lc_ge, lc_le, lc_gt, lc_lt, lc_eq, l_ofNat, l0, l_eq, l_lt, l_le]) <;> omega)) (h_neg (by first | omega | ((simp (disch := omega) only [i0, i1, i_lt, i_le, i_eq, i_add, i_sub, i_mul, i_neg, i_ofNat, i_rem, i_div, w_in, w_in2, w_cnt, w_cnt2, z01, z01', il, li, lc_ge, lc_le, lc_gt, lc_lt, lc_eq, l_ofNat, l0, l_eq, l_lt, l_le]) <;> omega)) (h_pos (by first | omega | ((simp (disch := omega) only [i0, i1, i_lt, i_le, i_eq, i_add, i_sub, i_mul, i_neg, i_ofNat, i_rem, i_div, w_in, w_in2, w_cnt, w_cnt2, z01, z01', il, li, lc_ge, lc_le, lc_gt, lc_lt, lc_eq, l_ofNat, l0, l_eq, l_lt, l_le]) <;> omega)) (h_neg (by first | omega | ((simp (disch := omega) only [i0, i1, i_lt, i_le, i_eq, i_add, i_sub, i_mul, i_neg, i_ofNat, i_rem, i_div, w_in, w_in2, w_cnt, w_cnt2, z01, z01', il, li, lc_ge, lc_le, lc_gt, lc_lt, lc_eq, l_ofNat, l0, l_eq, l_lt, l_le]) <;> omega)) (h_bind qg (h_neg (by decide) (h_pst ?_))))))))), u.1, ?_, Hn_a⟩
            · rw [rv_eq S 266 8, hA, i_add]
            · rw [u.2, if_pos ⟨c4, ht⟩]
          · have hgn : ¬ gnB A (1 + x / 6 % 50) = true := fun q => ht (Bool.and_eq_true_iff.mp q).2
            rw [if_neg hgn] at qg
            refine ⟨S, h_pst (h_pst (h_pst (h_neg (by first | omega | ((simp (disch := omega) only [i0, i1, i_lt, i_le, i_eq, i_add, i_sub, i_mul, i_neg, i_ofNat, i_rem, i_div, w_in, w_in2, w_cnt, w_cnt2, z01, z01', il, li, lc_ge, lc_le, lc_gt, lc_lt, lc_eq, l_ofNat, l0, l_eq, l_lt, l_le]) <;> omega)) (h_neg (by first | omega | ((simp (disch := omega) only [i0, i1, i_lt, i_le, i_eq, i_add, i_sub, i_mul, i_neg, i_ofNat, i_rem, i_div, w_in, w_in2, w_cnt, w_cnt2, z01, z01', il, li, lc_ge, lc_le, lc_gt, lc_lt, lc_eq, l_ofNat, l0, l_eq, l_lt, l_le]) <;> omega)) (h_pos (by first | omega | ((simp (disch := omega) only [i0, i1, i_lt, i_le, i_eq, i_add, i_sub, i_mul, i_neg, i_ofNat, i_rem, i_div, w_in, w_in2, w_cnt, w_cnt2, z01, z01', il, li, lc_ge, lc_le, lc_gt, lc_lt, lc_eq, l_ofNat, l0, l_eq, l_lt, l_le]) <;> omega)) (h_neg (by first | omega | ((simp (disch := omega) only [i0, i1, i_lt, i_le, i_eq, i_add, i_sub, i_mul, i_neg, i_ofNat, i_rem, i_div, w_in, w_in2, w_cnt, w_cnt2, z01, z01', il, li, lc_ge, lc_le, lc_gt, lc_lt, lc_eq, l_ofNat, l0, l_eq, l_lt, l_le]) <;> omega)) (h_bind qg (h_pos (by decide) rfl)))))))), h, ?_, Hn_refl S⟩
            rw [if_neg (fun q => ht q.2), hA]
        · refine ⟨S, h_pst (h_pst (h_pst (h_neg (by first | omega | ((simp (disch := omega) only [i0, i1, i_lt, i_le, i_eq, i_add, i_sub, i_mul, i_neg, i_ofNat, i_rem, i_div, w_in, w_in2, w_cnt, w_cnt2, z01, z01', il, li, lc_ge, lc_le, lc_gt, lc_lt, lc_eq, l_ofNat, l0, l_eq, l_lt, l_le]) <;> omega)) (h_neg (by first | omega | ((simp (disch := omega) only [i0, i1, i_lt, i_le, i_eq, i_add, i_sub, i_mul, i_neg, i_ofNat, i_rem, i_div, w_in, w_in2, w_cnt, w_cnt2, z01, z01', il, li, lc_ge, lc_le, lc_gt, lc_lt, lc_eq, l_ofNat, l0, l_eq, l_lt, l_le]) <;> omega)) (h_pos (by first | omega | ((simp (disch := omega) only [i0, i1, i_lt, i_le, i_eq, i_add, i_sub, i_mul, i_neg, i_ofNat, i_rem, i_div, w_in, w_in2, w_cnt, w_cnt2, z01, z01', il, li, lc_ge, lc_le, lc_gt, lc_lt, lc_eq, l_ofNat, l0, l_eq, l_lt, l_le]) <;> omega)) (h_pos (by first | omega | ((simp (disch := omega) only [i0, i1, i_lt, i_le, i_eq, i_add, i_sub, i_mul, i_neg, i_ofNat, i_rem, i_div, w_in, w_in2, w_cnt, w_cnt2, z01, z01', il, li, lc_ge, lc_le, lc_gt, lc_lt, lc_eq, l_ofNat, l0, l_eq, l_lt, l_le]) <;> omega)) rfl)))))), h, ?_, Hn_refl S⟩
          rw [if_neg (fun q => c4 q.1), hA]
      · rw [if_neg c2, rv_eq S 266 6, hA]
        by_cases q : A 6 < 9999
        · rw [if_pos q]
          obtain ⟨S1, m1, m2, m3, m4, m5⟩ := q_pass h hA hN (wf := true) (by omega) hw
          exact ⟨S1, h_pst (h_pst (h_pst (h_neg (by first | omega | ((simp (disch := omega) only [i0, i1, i_lt, i_le, i_eq, i_add, i_sub, i_mul, i_neg, i_ofNat, i_rem, i_div, w_in, w_in2, w_cnt, w_cnt2, z01, z01', il, li, lc_ge, lc_le, lc_gt, lc_lt, lc_eq, l_ofNat, l0, l_eq, l_lt, l_le]) <;> omega)) (h_neg (by first | omega | ((simp (disch := omega) only [i0, i1, i_lt, i_le, i_eq, i_add, i_sub, i_mul, i_neg, i_ofNat, i_rem, i_div, w_in, w_in2, w_cnt, w_cnt2, z01, z01', il, li, lc_ge, lc_le, lc_gt, lc_lt, lc_eq, l_ofNat, l0, l_eq, l_lt, l_le]) <;> omega)) (h_neg (by first | omega | ((simp (disch := omega) only [i0, i1, i_lt, i_le, i_eq, i_add, i_sub, i_mul, i_neg, i_ofNat, i_rem, i_div, w_in, w_in2, w_cnt, w_cnt2, z01, z01', il, li, lc_ge, lc_le, lc_gt, lc_lt, lc_eq, l_ofNat, l0, l_eq, l_lt, l_le]) <;> omega)) (h_neg (by first | omega | ((simp (disch := omega) only [i0, i1, i_lt, i_le, i_eq, i_add, i_sub, i_mul, i_neg, i_ofNat, i_rem, i_div, w_in, w_in2, w_cnt, w_cnt2, z01, z01', il, li, lc_ge, lc_le, lc_gt, lc_lt, lc_eq, l_ofNat, l0, l_eq, l_lt, l_le]) <;> omega)) (h_bind m1 rfl))))))), m2, m3, m4⟩
        · rw [if_neg q]
          exact ⟨S, h_pst (h_pst (h_pst (h_neg (by first | omega | ((simp (disch := omega) only [i0, i1, i_lt, i_le, i_eq, i_add, i_sub, i_mul, i_neg, i_ofNat, i_rem, i_div, w_in, w_in2, w_cnt, w_cnt2, z01, z01', il, li, lc_ge, lc_le, lc_gt, lc_lt, lc_eq, l_ofNat, l0, l_eq, l_lt, l_le]) <;> omega)) (h_neg (by first | omega | ((simp (disch := omega) only [i0, i1, i_lt, i_le, i_eq, i_add, i_sub, i_mul, i_neg, i_ofNat, i_rem, i_div, w_in, w_in2, w_cnt, w_cnt2, z01, z01', il, li, lc_ge, lc_le, lc_gt, lc_lt, lc_eq, l_ofNat, l0, l_eq, l_lt, l_le]) <;> omega)) (h_neg (by first | omega | ((simp (disch := omega) only [i0, i1, i_lt, i_le, i_eq, i_add, i_sub, i_mul, i_neg, i_ofNat, i_rem, i_div, w_in, w_in2, w_cnt, w_cnt2, z01, z01', il, li, lc_ge, lc_le, lc_gt, lc_lt, lc_eq, l_ofNat, l0, l_eq, l_lt, l_le]) <;> omega)) (h_pos (by first | omega | ((simp (disch := omega) only [i0, i1, i_lt, i_le, i_eq, i_add, i_sub, i_mul, i_neg, i_ofNat, i_rem, i_div, w_in, w_in2, w_cnt, w_cnt2, z01, z01', il, li, lc_ge, lc_le, lc_gt, lc_lt, lc_eq, l_ofNat, l0, l_eq, l_lt, l_le]) <;> omega)) rfl)))))), h, hA, Hn_refl S⟩
theorem k_years {N : Nat} (hN : 2000000 ≤ N) : ∀ (r n i : Nat) (S : yS) (A : Nat → Int), ClR T A S W → r < n → i + r < 1000 → ∃ S1, lX11_years N T n (Int32.ofInt ((i + r : Nat) : Int)) (Int32.ofInt (i : Int)) S = some (Int32.ofInt (yrA W r A 6), S1) ∧ ClR T (yrA W r A) S1 W ∧ Gs S S1
  | 0, n + 1, i, S, A, h, hn, hi => by
    rw [lX11_years, K_day h.1]
    exact ⟨S, h_pos (by first | omega | ((simp (disch := omega) only [i0, i1, i_lt, i_le, i_eq, i_add, i_sub, i_mul, i_neg, i_ofNat, i_rem, i_div, w_in, w_in2, w_cnt, w_cnt2, z01, z01', il, li, lc_ge, lc_le, lc_gt, lc_lt, lc_eq, l_ofNat, l0, l_eq, l_lt, l_le]) <;> omega)) rfl, h, Gs_refl S⟩
  | r + 1, n + 1, i, S, A, h, hn, hi => by
    obtain ⟨S1, a1, a2, a3⟩ := k_year h hN
    obtain ⟨S2, b1, b2, b3⟩ := k_years hN r n (i + 1) S1 _ a2 (by omega) (by omega)
    refine ⟨S2, ?_, b2, Gs_trans a3 b3⟩
    rw [lX11_years]
    refine h_neg (by first | omega | ((simp (disch := omega) only [i0, i1, i_lt, i_le, i_eq, i_add, i_sub, i_mul, i_neg, i_ofNat, i_rem, i_div, w_in, w_in2, w_cnt, w_cnt2, z01, z01', il, li, lc_ge, lc_le, lc_gt, lc_lt, lc_eq, l_ofNat, l0, l_eq, l_lt, l_le]) <;> omega)) (h_bind a1 ?_)
    rw [i_add, show (i : Int) + 1 = ((i + 1 : Nat) : Int) by omega, show i + (r + 1) = i + 1 + r by omega]
    exact b1
theorem q_years {N : Nat} (hN : 2000000 ≤ N) : ∀ (r n i : Nat) (S : yS) (A : Nat → Int), RfR S W → rv S 266 = A → S.1 265 23 = Int32.ofInt 1 → r < n → i + r < 1000 → ∃ S1, lX12_years N n (Int32.ofInt ((i + r : Nat) : Int)) (Int32.ofInt (i : Int)) S = some (Int32.ofInt (yrA W r A 6), S1) ∧ RfR S1 W ∧ rv S1 266 = yrA W r A ∧ Hn S S1
  | 0, n + 1, i, S, A, h, hA, w, hn, hi => by
    rw [lX12_years, rv_eq S 266 6, hA]
    exact ⟨S, h_pos (by first | omega | ((simp (disch := omega) only [i0, i1, i_lt, i_le, i_eq, i_add, i_sub, i_mul, i_neg, i_ofNat, i_rem, i_div, w_in, w_in2, w_cnt, w_cnt2, z01, z01', il, li, lc_ge, lc_le, lc_gt, lc_lt, lc_eq, l_ofNat, l0, l_eq, l_lt, l_le]) <;> omega)) rfl, h, hA, Hn_refl S⟩
  | r + 1, n + 1, i, S, A, h, hA, w, hn, hi => by
    have hr := h.1
    rw [hA] at hr
    have hx := I_x hr
    have u := up_RfR (j := 7) (x := (A 7 * 661 + 541) % 30949) h hA (by omega) (by omega) (by omega) (dw_mI hr)
    obtain ⟨S1, a1, a2, a3, a4⟩ := q_happens (A := dwA A) u.1 u.2 hN hx w
    obtain ⟨S2, b1, b2, b3, b4⟩ := q_years hN r n (i + 1) S1 _ a2 a3 (by rw [a4.2.1 23 (by omega)]; exact w) (by omega) (by omega)
    refine ⟨S2, ?_, b2, b3, Hn_trans Hn_a (Hn_trans a4 b4)⟩
    rw [lX12_years, rv_eq S 266 7, hA]
    refine h_neg (by first | omega | ((simp (disch := omega) only [i0, i1, i_lt, i_le, i_eq, i_add, i_sub, i_mul, i_neg, i_ofNat, i_rem, i_div, w_in, w_in2, w_cnt, w_cnt2, z01, z01', il, li, lc_ge, lc_le, lc_gt, lc_lt, lc_eq, l_ofNat, l0, l_eq, l_lt, l_le]) <;> omega)) (h_bind (v := ySa S 266 (upd (S.2.2.1 266) 7 (Int32.ofInt ((A 7 * 661 + 541) % 30949)))) ?_ (h_bind a1 ?_))
    · unfold fX12_anew
      rw [rv_eq S 266 7, hA, il (by omega) (by omega), l_mul, l_add, l_rem (by omega) (by omega) (by omega) (by omega), li]
      rfl
    · rw [i_add, show (i : Int) + 1 = ((i + 1 : Nat) : Int) by omega, show i + (r + 1) = i + 1 + r by omega]
      exact b1
theorem pm_years (h : Rel T S) {N : Nat} (hN : 2000000 ≤ N) (v0 v1 : Int32) : PM T S (fX11_years N T v0 v1) (fX12_years N v0 v1) := by
  obtain ⟨s, s1, s2, rfl⟩ := i_ex v0
  obtain ⟨v, v1, v2, rfl⟩ := i_ex v1
  obtain ⟨W, hc, hf⟩ := Rel_W h
  by_cases hs : 0 ≤ s ∧ s ≤ 9999
  · by_cases hv : 1 ≤ v ∧ v ≤ 40
    · obtain ⟨m, rfl⟩ := Int.eq_ofNat_of_zero_le (show 0 ≤ v by omega)
      obtain ⟨S0, k1, k2, k3⟩ := k_keep hc
      have u := up_ClR (j := 7) (x := s * 2 + 419) k2 (by omega) (by omega) (by omega) (up7_mI k2.2.1 (by omega))
      obtain ⟨S1, a1, a2, a3⟩ := k_years (W := W) hN m N 0 _ _ u (by omega) (by omega)
      rw [Nat.zero_add] at a1
      refine PM_gp h hf (f := fX11_years N T (Int32.ofInt s) (Int32.ofInt (m : Int))) (g := fX12_years N (Int32.ofInt s) (Int32.ofInt (m : Int))) (S1 := S1) (q := Int32.ofInt (yrA W m (rU (kpA (rv S 266)) 7 (s * 2 + 419)) 6)) ?_ a2 (Gp_Gs (Gs_trans k3 (Gs_trans (Gs_Gn Gn_i) a3))) (fun r e w => ?_)
      · unfold fX11_years
        refine h_neg (by first | omega | ((simp (disch := omega) only [i0, i1, i_lt, i_le, i_eq, i_add, i_sub, i_mul, i_neg, i_ofNat, i_rem, i_div, w_in, w_in2, w_cnt, w_cnt2, z01, z01', il, li, lc_ge, lc_le, lc_gt, lc_lt, lc_eq, l_ofNat, l0, l_eq, l_lt, l_le]) <;> omega)) (h_pos (by first | omega | ((simp (disch := omega) only [i0, i1, i_lt, i_le, i_eq, i_add, i_sub, i_mul, i_neg, i_ofNat, i_rem, i_div, w_in, w_in2, w_cnt, w_cnt2, z01, z01', il, li, lc_ge, lc_le, lc_gt, lc_lt, lc_eq, l_ofNat, l0, l_eq, l_lt, l_le]) <;> omega)) (h_bind k1 (h_pst ?_)))
        rw [i_mul, i_add]
        exact a1
      · obtain ⟨S3, q1, q2, q3, q4⟩ := q_keep r e hN
        have u3 := up_RfR (j := 7) (x := s * 2 + 419) q2 q3 (by omega) (by omega) (by omega) (up7_mI k2.2.1 (by omega))
        obtain ⟨S2, b1, b2, b3, b4⟩ := q_years (W := W) hN m N 0 _ _ u3.1 u3.2 (by rw [ySa_1, q4.2]; exact w) (by omega) (by omega)
        rw [Nat.zero_add] at b1
        refine ⟨S2, ?_, b2, b3, Hn_trans q4.1 (Hn_trans Hn_a b4)⟩
        unfold fX12_years
        refine h_neg (by first | omega | ((simp (disch := omega) only [i0, i1, i_lt, i_le, i_eq, i_add, i_sub, i_mul, i_neg, i_ofNat, i_rem, i_div, w_in, w_in2, w_cnt, w_cnt2, z01, z01', il, li, lc_ge, lc_le, lc_gt, lc_lt, lc_eq, l_ofNat, l0, l_eq, l_lt, l_le]) <;> omega)) (h_pos (by first | omega | ((simp (disch := omega) only [i0, i1, i_lt, i_le, i_eq, i_add, i_sub, i_mul, i_neg, i_ofNat, i_rem, i_div, w_in, w_in2, w_cnt, w_cnt2, z01, z01', il, li, lc_ge, lc_le, lc_gt, lc_lt, lc_eq, l_ofNat, l0, l_eq, l_lt, l_le]) <;> omega)) (h_bind q1 (h_pst ?_)))
        rw [i_mul, i_add]
        exact b1
    · refine ⟨Int32.ofInt (-1), S, S, ?_, ?_, h⟩
      · unfold fX11_years
        exact h_neg (by first | omega | ((simp (disch := omega) only [i0, i1, i_lt, i_le, i_eq, i_add, i_sub, i_mul, i_neg, i_ofNat, i_rem, i_div, w_in, w_in2, w_cnt, w_cnt2, z01, z01', il, li, lc_ge, lc_le, lc_gt, lc_lt, lc_eq, l_ofNat, l0, l_eq, l_lt, l_le]) <;> omega)) (h_neg (by first | omega | ((simp (disch := omega) only [i0, i1, i_lt, i_le, i_eq, i_add, i_sub, i_mul, i_neg, i_ofNat, i_rem, i_div, w_in, w_in2, w_cnt, w_cnt2, z01, z01', il, li, lc_ge, lc_le, lc_gt, lc_lt, lc_eq, l_ofNat, l0, l_eq, l_lt, l_le]) <;> omega)) rfl)
      · unfold fX12_years
        exact h_neg (by first | omega | ((simp (disch := omega) only [i0, i1, i_lt, i_le, i_eq, i_add, i_sub, i_mul, i_neg, i_ofNat, i_rem, i_div, w_in, w_in2, w_cnt, w_cnt2, z01, z01', il, li, lc_ge, lc_le, lc_gt, lc_lt, lc_eq, l_ofNat, l0, l_eq, l_lt, l_le]) <;> omega)) (h_neg (by first | omega | ((simp (disch := omega) only [i0, i1, i_lt, i_le, i_eq, i_add, i_sub, i_mul, i_neg, i_ofNat, i_rem, i_div, w_in, w_in2, w_cnt, w_cnt2, z01, z01', il, li, lc_ge, lc_le, lc_gt, lc_lt, lc_eq, l_ofNat, l0, l_eq, l_lt, l_le]) <;> omega)) rfl)
  · refine ⟨Int32.ofInt (-1), S, S, ?_, ?_, h⟩
    · unfold fX11_years
      exact h_pos (by first | omega | ((simp (disch := omega) only [i0, i1, i_lt, i_le, i_eq, i_add, i_sub, i_mul, i_neg, i_ofNat, i_rem, i_div, w_in, w_in2, w_cnt, w_cnt2, z01, z01', il, li, lc_ge, lc_le, lc_gt, lc_lt, lc_eq, l_ofNat, l0, l_eq, l_lt, l_le]) <;> omega)) rfl
    · unfold fX12_years
      exact h_pos (by first | omega | ((simp (disch := omega) only [i0, i1, i_lt, i_le, i_eq, i_add, i_sub, i_mul, i_neg, i_ofNat, i_rem, i_div, w_in, w_in2, w_cnt, w_cnt2, z01, z01', il, li, lc_ge, lc_le, lc_gt, lc_lt, lc_eq, l_ofNat, l0, l_eq, l_lt, l_le]) <;> omega)) rfl
end PMS
