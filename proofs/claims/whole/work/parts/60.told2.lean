/-! ===== bird, morning, told, by; the tape ===== -/
def rf (f : Nat → Int32) (k : Nat) : Int := (f k).toInt
theorem rv_rf (S : yS) (r : Nat) : rv S r = rf (S.2.2.1 r) := rfl
theorem rf_upd {f : Nat → Int32} {j : Nat} {x : Int} (h1 : -2147483648 ≤ x) (h2 : x < 2147483648) : rf (upd f j (Int32.ofInt x)) = rU (rf f) j x := by
  funext k
  unfold rf rU upd
  split
  · exact i_toInt h1 h2
  · rfl
theorem upd_ne {f : Nat → Int32} {j k : Nat} {x : Int32} (h : k ≠ j) : upd f j x k = f k := if_neg h
theorem upd_at {f : Nat → Int32} {j : Nat} {x : Int32} : upd f j x j = x := if_pos rfl
theorem fld_at {S : yS} {i k : Nat} {v : Int32} : (ySi S i k v).1 i k = v := by
  show yU S.1 i (yU (S.1 i) k v) i k = v
  rw [yU_eq, yU_eq]
theorem fld_ne {S : yS} {i k k' : Nat} {v : Int32} (h : k' ≠ k) : (ySi S i k v).1 i k' = S.1 i k' := by
  show yU S.1 i (yU (S.1 i) k v) i k' = _
  rw [yU_eq, yU_ne h]
theorem fld_o {S : yS} {i i' k : Nat} {v : Int32} (h : i' ≠ i) : (ySi S i k v).1 i' = S.1 i' := yU_ne h
section PMS
variable {T : yK} {S : yS}
/-- a change of what is told, by class ints of 18 and 119, arrays, and a row -/
theorem pm_bird (h : Rel T S) (v0 v1 v2 : Int32) : PM T S (fX11_bird v0 v1 v2) (fX12_bird v0 v1 v2) := by
  obtain ⟨p, p1, p2, rfl⟩ := i_ex v0
  obtain ⟨f, f1, f2, rfl⟩ := i_ex v1
  obtain ⟨d, d1, d2, rfl⟩ := i_ex v2
  have hb := R_i0 h
  have cb := C_birds h
  have rb := rv_eq S 266 0
  unfold PM fX11_bird fX12_bird
  simp only [i_sub]
  by_cases hp : 1 ≤ p ∧ p ≤ 12
  · by_cases hf : 0 ≤ f ∧ f ≤ p - 1
    · by_cases hd : 0 ≤ d ∧ d ≤ 10
      · by_cases h8 : rv S 266 0 = 8
        · refine ⟨Int32.ofInt (-1), S, S, ?_, ?_, h⟩
          · refine h_neg (by first | omega | ((simp (disch := omega) only [i0, i1, i_lt, i_le, i_eq, i_add, i_sub, i_mul, i_neg, i_ofNat, i_rem, i_div, w_in, w_in2, w_cnt, w_cnt2, z01, z01', il, li, lc_ge, lc_le, lc_gt, lc_lt, lc_eq, l_ofNat, l0, l_eq, l_lt, l_le]) <;> omega)) (h_neg (by first | omega | ((simp (disch := omega) only [i0, i1, i_lt, i_le, i_eq, i_add, i_sub, i_mul, i_neg, i_ofNat, i_rem, i_div, w_in, w_in2, w_cnt, w_cnt2, z01, z01', il, li, lc_ge, lc_le, lc_gt, lc_lt, lc_eq, l_ofNat, l0, l_eq, l_lt, l_le]) <;> omega)) (h_pos (by first | omega | ((simp (disch := omega) only [i0, i1, i_lt, i_le, i_eq, i_add, i_sub, i_mul, i_neg, i_ofNat, i_rem, i_div, w_in, w_in2, w_cnt, w_cnt2, z01, z01', il, li, lc_ge, lc_le, lc_gt, lc_lt, lc_eq, l_ofNat, l0, l_eq, l_lt, l_le]) <;> omega)) ?_))
            unfold fX0_addBird
            rw [cb]
            refine h_bind (h_neg (by first | omega | ((simp (disch := omega) only [i0, i1, i_lt, i_le, i_eq, i_add, i_sub, i_mul, i_neg, i_ofNat, i_rem, i_div, w_in, w_in2, w_cnt, w_cnt2, z01, z01', il, li, lc_ge, lc_le, lc_gt, lc_lt, lc_eq, l_ofNat, l0, l_eq, l_lt, l_le]) <;> omega)) rfl) rfl
          · rw [rb]
            exact h_neg (by first | omega | ((simp (disch := omega) only [i0, i1, i_lt, i_le, i_eq, i_add, i_sub, i_mul, i_neg, i_ofNat, i_rem, i_div, w_in, w_in2, w_cnt, w_cnt2, z01, z01', il, li, lc_ge, lc_le, lc_gt, lc_lt, lc_eq, l_ofNat, l0, l_eq, l_lt, l_le]) <;> omega)) (h_neg (by first | omega | ((simp (disch := omega) only [i0, i1, i_lt, i_le, i_eq, i_add, i_sub, i_mul, i_neg, i_ofNat, i_rem, i_div, w_in, w_in2, w_cnt, w_cnt2, z01, z01', il, li, lc_ge, lc_le, lc_gt, lc_lt, lc_eq, l_ofNat, l0, l_eq, l_lt, l_le]) <;> omega)) (h_neg (by first | omega | ((simp (disch := omega) only [i0, i1, i_lt, i_le, i_eq, i_add, i_sub, i_mul, i_neg, i_ofNat, i_rem, i_div, w_in, w_in2, w_cnt, w_cnt2, z01, z01', il, li, lc_ge, lc_le, lc_gt, lc_lt, lc_eq, l_ofNat, l0, l_eq, l_lt, l_le]) <;> omega)) (h_neg (by first | omega | ((simp (disch := omega) only [i0, i1, i_lt, i_le, i_eq, i_add, i_sub, i_mul, i_neg, i_ofNat, i_rem, i_div, w_in, w_in2, w_cnt, w_cnt2, z01, z01', il, li, lc_ge, lc_le, lc_gt, lc_lt, lc_eq, l_ofNat, l0, l_eq, l_lt, l_le]) <;> omega)) rfl)))
        · obtain ⟨b, hbn⟩ := Int.eq_ofNat_of_zero_le hb.1
          rw [hbn] at cb rb hb h8
          let S1 : yS := ySi (ySa (ySa (ySa S 114 (upd (S.2.2.1 114) b (Int32.ofInt p))) 115 (upd (S.2.2.1 115) b (Int32.ofInt f))) 116 (upd (S.2.2.1 116) b (Int32.ofInt d))) 18 5 (Int32.ofInt ((b : Int) + 1))
          let g : Nat → Int32 := upd (upd (upd (upd (S.2.2.1 266) (21 + b) (Int32.ofInt p)) (29 + b) (Int32.ofInt f)) (37 + b) (Int32.ofInt d)) 0 (Int32.ofInt ((b : Int) + 1))
          have eA : rv (ySa S1 266 g) 266 = rU (rU (rU (rU (rv S 266) (21 + b) p) (29 + b) f) (37 + b) d) 0 ((b : Int) + 1) := by
            rw [rv_rf, ySa_at, rf_upd (by omega) (by omega), rf_upd d1 d2, rf_upd f1 f2, rf_upd p1 p2]; rfl
          refine ⟨Int32.ofInt b, S1, ySa S1 266 g, ?_, ?_, ?_⟩
          · refine h_neg (by first | omega | ((simp (disch := omega) only [i0, i1, i_lt, i_le, i_eq, i_add, i_sub, i_mul, i_neg, i_ofNat, i_rem, i_div, w_in, w_in2, w_cnt, w_cnt2, z01, z01', il, li, lc_ge, lc_le, lc_gt, lc_lt, lc_eq, l_ofNat, l0, l_eq, l_lt, l_le]) <;> omega)) (h_neg (by first | omega | ((simp (disch := omega) only [i0, i1, i_lt, i_le, i_eq, i_add, i_sub, i_mul, i_neg, i_ofNat, i_rem, i_div, w_in, w_in2, w_cnt, w_cnt2, z01, z01', il, li, lc_ge, lc_le, lc_gt, lc_lt, lc_eq, l_ofNat, l0, l_eq, l_lt, l_le]) <;> omega)) (h_pos (by first | omega | ((simp (disch := omega) only [i0, i1, i_lt, i_le, i_eq, i_add, i_sub, i_mul, i_neg, i_ofNat, i_rem, i_div, w_in, w_in2, w_cnt, w_cnt2, z01, z01', il, li, lc_ge, lc_le, lc_gt, lc_lt, lc_eq, l_ofNat, l0, l_eq, l_lt, l_le]) <;> omega)) ?_))
            refine h_bind (v := (Int32.ofInt b, S1)) ?_ rfl
            unfold fX0_addBird
            rw [cb]
            refine h_pos (by first | omega | ((simp (disch := omega) only [i0, i1, i_lt, i_le, i_eq, i_add, i_sub, i_mul, i_neg, i_ofNat, i_rem, i_div, w_in, w_in2, w_cnt, w_cnt2, z01, z01', il, li, lc_ge, lc_le, lc_gt, lc_lt, lc_eq, l_ofNat, l0, l_eq, l_lt, l_le]) <;> omega)) ?_
            refine h_ainN (by omega) (by omega) (h_pst ?_)
            rw [show (ySa S 114 (upd (S.2.2.1 114) b (Int32.ofInt p))).1 18 5 = S.1 18 5 from rfl, cb]
            refine h_ainN (by omega) (by omega) (h_pst ?_)
            rw [show (ySa (ySa S 114 (upd (S.2.2.1 114) b (Int32.ofInt p))) 115 (upd ((ySa S 114 (upd (S.2.2.1 114) b (Int32.ofInt p))).2.2.1 115) b (Int32.ofInt f))).1 18 5 = S.1 18 5 from rfl, cb]
            refine h_ainN (by omega) (by omega) (h_pst ?_)
            refine h_pst ?_
            show some (S.1 18 5 + Int32.ofInt 1 - Int32.ofInt 1, ySi _ 18 5 (S.1 18 5 + Int32.ofInt 1)) = _
            rw [cb, i_add, i_sub, show (b : Int) + 1 - 1 = b by omega]
            rfl
          · have e1 : S1.2.2.1 266 = S.2.2.1 266 := rfl
            rw [e1, rb]
            simp only [i_add]
            rw [show (21 : Int) + (b : Int) = ((21 + b : Nat) : Int) by omega, show (29 : Int) + (b : Int) = ((29 + b : Nat) : Int) by omega, show (37 : Int) + (b : Int) = ((37 + b : Nat) : Int) by omega]
            refine h_neg (by first | omega | ((simp (disch := omega) only [i0, i1, i_lt, i_le, i_eq, i_add, i_sub, i_mul, i_neg, i_ofNat, i_rem, i_div, w_in, w_in2, w_cnt, w_cnt2, z01, z01', il, li, lc_ge, lc_le, lc_gt, lc_lt, lc_eq, l_ofNat, l0, l_eq, l_lt, l_le]) <;> omega)) (h_neg (by first | omega | ((simp (disch := omega) only [i0, i1, i_lt, i_le, i_eq, i_add, i_sub, i_mul, i_neg, i_ofNat, i_rem, i_div, w_in, w_in2, w_cnt, w_cnt2, z01, z01', il, li, lc_ge, lc_le, lc_gt, lc_lt, lc_eq, l_ofNat, l0, l_eq, l_lt, l_le]) <;> omega)) (h_neg (by first | omega | ((simp (disch := omega) only [i0, i1, i_lt, i_le, i_eq, i_add, i_sub, i_mul, i_neg, i_ofNat, i_rem, i_div, w_in, w_in2, w_cnt, w_cnt2, z01, z01', il, li, lc_ge, lc_le, lc_gt, lc_lt, lc_eq, l_ofNat, l0, l_eq, l_lt, l_le]) <;> omega)) (h_pos (by first | omega | ((simp (disch := omega) only [i0, i1, i_lt, i_le, i_eq, i_add, i_sub, i_mul, i_neg, i_ofNat, i_rem, i_div, w_in, w_in2, w_cnt, w_cnt2, z01, z01', il, li, lc_ge, lc_le, lc_gt, lc_lt, lc_eq, l_ofNat, l0, l_eq, l_lt, l_le]) <;> omega)) ?_)))
            refine h_ainN (by omega) (by omega) (h_pst ?_)
            refine h_ainN (by omega) (by omega) (h_pst ?_)
            refine h_ainN (by omega) (by omega) (h_pst (h_pst ?_))
            simp (disch := omega) only [ySa_at, ySa_ySa, upd_ne]
            rw [rb, i_add]
          · have eF : ∀ i, i ≠ 266 → (ySa S1 266 g).2.2.1 i = yU (yU (yU S.2.2.1 114 (upd (S.2.2.1 114) b (Int32.ofInt p))) 115 (upd (S.2.2.1 115) b (Int32.ofInt f))) 116 (upd (S.2.2.1 116) b (Int32.ofInt d)) i := fun i hi => ySa_ne _ _ hi
            have c0 := h.1
            have r0 := h.2.2.1
            have hA1 : cA 0 (rU (rv S 266) (21 + b) p) (ySa S 114 (upd (S.2.2.1 114) b (Int32.ofInt p))) := cA_up c0.2.1 (show (114, 8, 21, 1, (0 : Int), (12 : Int)) ∈ cTab by decide) (show b < 8 by omega) (fun k _ _ => by rw [Nat.one_mul]) (ySa_at _ _ _) (fun i a b c => ySa_ne _ _ c)
            have hA2 : cA 0 (rU (rU (rv S 266) (21 + b) p) (29 + b) f) (ySa (ySa S 114 (upd (S.2.2.1 114) b (Int32.ofInt p))) 115 (upd (S.2.2.1 115) b (Int32.ofInt f))) := cA_up hA1 (show (115, 8, 29, 1, (0 : Int), (11 : Int)) ∈ cTab by decide) (show b < 8 by omega) (fun k _ _ => by rw [Nat.one_mul]) (ySa_at _ _ _) (fun i a b c => ySa_ne _ _ c)
            have hA3 : cA 0 (rU (rU (rU (rv S 266) (21 + b) p) (29 + b) f) (37 + b) d) (ySa (ySa (ySa S 114 (upd (S.2.2.1 114) b (Int32.ofInt p))) 115 (upd (S.2.2.1 115) b (Int32.ofInt f))) 116 (upd (S.2.2.1 116) b (Int32.ofInt d))) := cA_up hA2 (show (116, 8, 37, 1, (0 : Int), (10 : Int)) ∈ cTab by decide) (show b < 8 by omega) (fun k _ _ => by rw [Nat.one_mul]) (ySa_at _ _ _) (fun i a b c => ySa_ne _ _ c)
            have hR1 : rA (rU (rv S 266) (21 + b) p) := rA_up r0.2.1 (show (114, 8, 21, 1, (0 : Int), (12 : Int)) ∈ cTab by decide) (show b < 8 by omega) (by omega : (0 : Int) ≤ p ∧ p ≤ 12) (fun k _ _ => by rw [Nat.one_mul])
            have hR2 : rA (rU (rU (rv S 266) (21 + b) p) (29 + b) f) := rA_up hR1 (show (115, 8, 29, 1, (0 : Int), (11 : Int)) ∈ cTab by decide) (show b < 8 by omega) (by omega : (0 : Int) ≤ f ∧ f ≤ 11) (fun k _ _ => by rw [Nat.one_mul])
            have hR3 : rA (rU (rU (rU (rv S 266) (21 + b) p) (29 + b) f) (37 + b) d) := rA_up hR2 (show (116, 8, 37, 1, (0 : Int), (10 : Int)) ∈ cTab by decide) (show b < 8 by omega) (by omega : (0 : Int) ≤ d ∧ d ≤ 10) (fun k _ _ => by rw [Nat.one_mul])
            refine Rel_told h (fun i a c => fld_o a) (fun i a c => ?_) rfl (fun k hk => ?_) ?_ ?_ ?_ ?_ ?_ ?_
            · rw [eF i c, yU_ne (by omega), yU_ne (by omega), yU_ne (by omega)]
            · rw [eA, rU_ne (by omega), rU_ne (by omega), rU_ne (by omega), rU_ne (by omega)]
            · rw [eA, rU_eq, hbn]; omega
            · unfold cI
              rw [eA, rU_eq, rU_ne (by omega), rU_ne (by omega), rU_ne (by omega), rU_ne (by omega), rU_ne (by omega), rU_ne (by omega), rU_ne (by omega), rU_ne (by omega), rU_ne (by omega), rU_ne (by omega), rU_ne (by omega), rU_ne (by omega), rU_ne (by omega), rU_ne (by omega), rU_ne (by omega), rU_ne (by omega)]
              exact ⟨(show S1.1 18 5 = Int32.ofInt ((b : Int) + 1) from fld_at), c0.1.2.1, c0.1.2.2.1, c0.1.2.2.2.1, c0.1.2.2.2.2⟩
            · rw [eA]
              exact cA_same hA3 (fun k a b => rU_ne (by omega)) (fun i a c => by rw [eF i (by omega)]; rfl)
            · rw [eA, rU_eq, rU_ne (by omega), rU_ne (by omega), rU_ne (by omega), rU_ne (by omega), rU_ne (by omega), rU_ne (by omega), rU_ne (by omega), rU_ne (by omega), rU_ne (by omega), rU_ne (by omega), rU_ne (by omega), rU_ne (by omega)]
              exact ⟨by omega, r0.1.2.2.1, r0.1.2.2.2.2.1, r0.1.2.2.2.2.2⟩
            · rw [eA]
              exact rA_same hR3 (fun k a b => rU_ne (by omega))
            · intro k hk
              rw [eA, rU_eq] at hk
              rw [eA]
              by_cases hkb : k = b
              · subst hkb
                rw [rU_ne (by omega), rU_ne (by omega), rU_ne (by omega), rU_eq, rU_ne (by omega), rU_ne (by omega), rU_eq]
                omega
              · rw [rU_ne (by omega), rU_ne (by omega), rU_ne (by omega), rU_ne (by omega), rU_ne (by omega), rU_ne (by omega), rU_ne (by omega), rU_ne (by omega)]
                exact r0.2.2.1 k (by omega)
      · refine ⟨Int32.ofInt (-1), S, S, ?_, ?_, h⟩
        · exact h_neg (by first | omega | ((simp (disch := omega) only [i0, i1, i_lt, i_le, i_eq, i_add, i_sub, i_mul, i_neg, i_ofNat, i_rem, i_div, w_in, w_in2, w_cnt, w_cnt2, z01, z01', il, li, lc_ge, lc_le, lc_gt, lc_lt, lc_eq, l_ofNat, l0, l_eq, l_lt, l_le]) <;> omega)) (h_neg (by first | omega | ((simp (disch := omega) only [i0, i1, i_lt, i_le, i_eq, i_add, i_sub, i_mul, i_neg, i_ofNat, i_rem, i_div, w_in, w_in2, w_cnt, w_cnt2, z01, z01', il, li, lc_ge, lc_le, lc_gt, lc_lt, lc_eq, l_ofNat, l0, l_eq, l_lt, l_le]) <;> omega)) (h_neg (by first | omega | ((simp (disch := omega) only [i0, i1, i_lt, i_le, i_eq, i_add, i_sub, i_mul, i_neg, i_ofNat, i_rem, i_div, w_in, w_in2, w_cnt, w_cnt2, z01, z01', il, li, lc_ge, lc_le, lc_gt, lc_lt, lc_eq, l_ofNat, l0, l_eq, l_lt, l_le]) <;> omega)) rfl))
        · exact h_neg (by first | omega | ((simp (disch := omega) only [i0, i1, i_lt, i_le, i_eq, i_add, i_sub, i_mul, i_neg, i_ofNat, i_rem, i_div, w_in, w_in2, w_cnt, w_cnt2, z01, z01', il, li, lc_ge, lc_le, lc_gt, lc_lt, lc_eq, l_ofNat, l0, l_eq, l_lt, l_le]) <;> omega)) (h_neg (by first | omega | ((simp (disch := omega) only [i0, i1, i_lt, i_le, i_eq, i_add, i_sub, i_mul, i_neg, i_ofNat, i_rem, i_div, w_in, w_in2, w_cnt, w_cnt2, z01, z01', il, li, lc_ge, lc_le, lc_gt, lc_lt, lc_eq, l_ofNat, l0, l_eq, l_lt, l_le]) <;> omega)) (h_pos (by first | omega | ((simp (disch := omega) only [i0, i1, i_lt, i_le, i_eq, i_add, i_sub, i_mul, i_neg, i_ofNat, i_rem, i_div, w_in, w_in2, w_cnt, w_cnt2, z01, z01', il, li, lc_ge, lc_le, lc_gt, lc_lt, lc_eq, l_ofNat, l0, l_eq, l_lt, l_le]) <;> omega)) rfl))
    · refine ⟨Int32.ofInt (-1), S, S, ?_, ?_, h⟩
      · exact h_neg (by first | omega | ((simp (disch := omega) only [i0, i1, i_lt, i_le, i_eq, i_add, i_sub, i_mul, i_neg, i_ofNat, i_rem, i_div, w_in, w_in2, w_cnt, w_cnt2, z01, z01', il, li, lc_ge, lc_le, lc_gt, lc_lt, lc_eq, l_ofNat, l0, l_eq, l_lt, l_le]) <;> omega)) (h_pos (by first | omega | ((simp (disch := omega) only [i0, i1, i_lt, i_le, i_eq, i_add, i_sub, i_mul, i_neg, i_ofNat, i_rem, i_div, w_in, w_in2, w_cnt, w_cnt2, z01, z01', il, li, lc_ge, lc_le, lc_gt, lc_lt, lc_eq, l_ofNat, l0, l_eq, l_lt, l_le]) <;> omega)) rfl)
      · exact h_neg (by first | omega | ((simp (disch := omega) only [i0, i1, i_lt, i_le, i_eq, i_add, i_sub, i_mul, i_neg, i_ofNat, i_rem, i_div, w_in, w_in2, w_cnt, w_cnt2, z01, z01', il, li, lc_ge, lc_le, lc_gt, lc_lt, lc_eq, l_ofNat, l0, l_eq, l_lt, l_le]) <;> omega)) (h_pos (by first | omega | ((simp (disch := omega) only [i0, i1, i_lt, i_le, i_eq, i_add, i_sub, i_mul, i_neg, i_ofNat, i_rem, i_div, w_in, w_in2, w_cnt, w_cnt2, z01, z01', il, li, lc_ge, lc_le, lc_gt, lc_lt, lc_eq, l_ofNat, l0, l_eq, l_lt, l_le]) <;> omega)) rfl)
  · refine ⟨Int32.ofInt (-1), S, S, ?_, ?_, h⟩
    · exact h_pos (by first | omega | ((simp (disch := omega) only [i0, i1, i_lt, i_le, i_eq, i_add, i_sub, i_mul, i_neg, i_ofNat, i_rem, i_div, w_in, w_in2, w_cnt, w_cnt2, z01, z01', il, li, lc_ge, lc_le, lc_gt, lc_lt, lc_eq, l_ofNat, l0, l_eq, l_lt, l_le]) <;> omega)) rfl
    · exact h_pos (by first | omega | ((simp (disch := omega) only [i0, i1, i_lt, i_le, i_eq, i_add, i_sub, i_mul, i_neg, i_ofNat, i_rem, i_div, w_in, w_in2, w_cnt, w_cnt2, z01, z01', il, li, lc_ge, lc_le, lc_gt, lc_lt, lc_eq, l_ofNat, l0, l_eq, l_lt, l_le]) <;> omega)) rfl
theorem pm_morning (h : Rel T S) (v0 v1 : Int32) (hv : v1 = Int32.ofInt 0 ∨ v1 = Int32.ofInt 1) : PM T S (fX11_morning v0 v1) (fX12_morning v0 v1) := by
  obtain ⟨a, a1, a2, rfl⟩ := i_ex v0
  obtain ⟨c, c1, c2, rfl⟩ := i_ex v1
  have hv : c = 0 ∨ c = 1 := by rcases hv with e | e <;> (rw [i_eq (by omega) (by omega) (by omega) (by omega)] at e; omega)
  have hb := R_i4 h
  have cb := C_morns h
  have rb := rv_eq S 266 4
  have c0 := h.1
  have r0 := h.2.2.1
  unfold PM fX11_morning fX12_morning
  by_cases hn : a = -1
  · have eA : rv (ySa (ySi S 119 2 (Int32.ofInt 0)) 266 (upd (S.2.2.1 266) 4 (Int32.ofInt 0))) 266 = rU (rv S 266) 4 0 := by
      rw [rv_rf, ySa_at, rf_upd (by omega) (by omega)]; rfl
    refine ⟨Int32.ofInt 0, ySi S 119 2 (Int32.ofInt 0), ySa (ySi S 119 2 (Int32.ofInt 0)) 266 (upd (S.2.2.1 266) 4 (Int32.ofInt 0)), ?_, ?_, ?_⟩
    · exact h_neg (by first | omega | ((simp (disch := omega) only [i0, i1, i_lt, i_le, i_eq, i_add, i_sub, i_mul, i_neg, i_ofNat, i_rem, i_div, w_in, w_in2, w_cnt, w_cnt2, z01, z01', il, li, lc_ge, lc_le, lc_gt, lc_lt, lc_eq, l_ofNat, l0, l_eq, l_lt, l_le]) <;> omega)) (h_pst rfl)
    · exact h_neg (by first | omega | ((simp (disch := omega) only [i0, i1, i_lt, i_le, i_eq, i_add, i_sub, i_mul, i_neg, i_ofNat, i_rem, i_div, w_in, w_in2, w_cnt, w_cnt2, z01, z01', il, li, lc_ge, lc_le, lc_gt, lc_lt, lc_eq, l_ofNat, l0, l_eq, l_lt, l_le]) <;> omega)) (h_pst rfl)
    · refine Rel_told h (fun i a c => fld_o c) (fun i a c => ySa_ne _ _ c) rfl (fun k hk => ?_) ?_ ?_ ?_ ?_ ?_ ?_
      · rw [eA, rU_ne (by omega)]
      · rw [eA, rU_ne (by omega)]; exact Int.le_refl _
      · unfold cI
        rw [eA, rU_eq, rU_ne (by omega), rU_ne (by omega), rU_ne (by omega), rU_ne (by omega)]
        exact ⟨c0.1.1, c0.1.2.1, c0.1.2.2.1, c0.1.2.2.2.1, (show (ySi S 119 2 (Int32.ofInt 0)).1 119 2 = _ from fld_at)⟩
      · rw [eA]
        exact cA_same c0.2.1 (fun k a b => rU_ne (by omega)) (fun i a c => ySa_ne _ _ (by omega))
      · rw [eA, rU_eq, rU_ne (by omega), rU_ne (by omega), rU_ne (by omega)]
        exact ⟨r0.1.1, r0.1.2.2.1, by omega, r0.1.2.2.2.2.2⟩
      · rw [eA]
        exact rA_same r0.2.1 (fun k a b => rU_ne (by omega))
      · intro k hk
        have h0 := r0.1.1
        rw [eA, rU_ne (by omega)] at hk
        rw [eA, rU_ne (by omega), rU_ne (by omega)]
        exact r0.2.2.1 k hk
  · by_cases ha : 0 ≤ a ∧ a ≤ 99
    · by_cases h8 : rv S 266 4 = 12
      · refine ⟨Int32.ofInt (-2), S, S, ?_, ?_, h⟩
        · rw [cb]
          exact h_pos (by first | omega | ((simp (disch := omega) only [i0, i1, i_lt, i_le, i_eq, i_add, i_sub, i_mul, i_neg, i_ofNat, i_rem, i_div, w_in, w_in2, w_cnt, w_cnt2, z01, z01', il, li, lc_ge, lc_le, lc_gt, lc_lt, lc_eq, l_ofNat, l0, l_eq, l_lt, l_le]) <;> omega)) (h_neg (by first | omega | ((simp (disch := omega) only [i0, i1, i_lt, i_le, i_eq, i_add, i_sub, i_mul, i_neg, i_ofNat, i_rem, i_div, w_in, w_in2, w_cnt, w_cnt2, z01, z01', il, li, lc_ge, lc_le, lc_gt, lc_lt, lc_eq, l_ofNat, l0, l_eq, l_lt, l_le]) <;> omega)) (h_neg (by first | omega | ((simp (disch := omega) only [i0, i1, i_lt, i_le, i_eq, i_add, i_sub, i_mul, i_neg, i_ofNat, i_rem, i_div, w_in, w_in2, w_cnt, w_cnt2, z01, z01', il, li, lc_ge, lc_le, lc_gt, lc_lt, lc_eq, l_ofNat, l0, l_eq, l_lt, l_le]) <;> omega)) rfl))
        · rw [rb]
          exact h_pos (by first | omega | ((simp (disch := omega) only [i0, i1, i_lt, i_le, i_eq, i_add, i_sub, i_mul, i_neg, i_ofNat, i_rem, i_div, w_in, w_in2, w_cnt, w_cnt2, z01, z01', il, li, lc_ge, lc_le, lc_gt, lc_lt, lc_eq, l_ofNat, l0, l_eq, l_lt, l_le]) <;> omega)) (h_neg (by first | omega | ((simp (disch := omega) only [i0, i1, i_lt, i_le, i_eq, i_add, i_sub, i_mul, i_neg, i_ofNat, i_rem, i_div, w_in, w_in2, w_cnt, w_cnt2, z01, z01', il, li, lc_ge, lc_le, lc_gt, lc_lt, lc_eq, l_ofNat, l0, l_eq, l_lt, l_le]) <;> omega)) (h_neg (by first | omega | ((simp (disch := omega) only [i0, i1, i_lt, i_le, i_eq, i_add, i_sub, i_mul, i_neg, i_ofNat, i_rem, i_div, w_in, w_in2, w_cnt, w_cnt2, z01, z01', il, li, lc_ge, lc_le, lc_gt, lc_lt, lc_eq, l_ofNat, l0, l_eq, l_lt, l_le]) <;> omega)) rfl))
      · obtain ⟨m, hbn⟩ := Int.eq_ofNat_of_zero_le hb.1
        rw [hbn] at cb rb hb h8
        let S1 : yS := ySi (ySa (ySa S 120 (upd (S.2.2.1 120) m (Int32.ofInt a))) 121 (upd (S.2.2.1 121) m (Int32.ofInt c))) 119 2 (Int32.ofInt ((m : Int) + 1))
        let g : Nat → Int32 := upd (upd (upd (S.2.2.1 266) (54 + 2 * m) (Int32.ofInt a)) (55 + 2 * m) (Int32.ofInt c)) 4 (Int32.ofInt ((m : Int) + 1))
        have eA : rv (ySa S1 266 g) 266 = rU (rU (rU (rv S 266) (54 + 2 * m) a) (55 + 2 * m) c) 4 ((m : Int) + 1) := by
          rw [rv_rf, ySa_at, rf_upd (by omega) (by omega), rf_upd c1 c2, rf_upd a1 a2]; rfl
        refine ⟨Int32.ofInt ((m : Int) + 1), S1, ySa S1 266 g, ?_, ?_, ?_⟩
        · rw [cb]
          refine h_pos (by first | omega | ((simp (disch := omega) only [i0, i1, i_lt, i_le, i_eq, i_add, i_sub, i_mul, i_neg, i_ofNat, i_rem, i_div, w_in, w_in2, w_cnt, w_cnt2, z01, z01', il, li, lc_ge, lc_le, lc_gt, lc_lt, lc_eq, l_ofNat, l0, l_eq, l_lt, l_le]) <;> omega)) (h_neg (by first | omega | ((simp (disch := omega) only [i0, i1, i_lt, i_le, i_eq, i_add, i_sub, i_mul, i_neg, i_ofNat, i_rem, i_div, w_in, w_in2, w_cnt, w_cnt2, z01, z01', il, li, lc_ge, lc_le, lc_gt, lc_lt, lc_eq, l_ofNat, l0, l_eq, l_lt, l_le]) <;> omega)) (h_pos (by first | omega | ((simp (disch := omega) only [i0, i1, i_lt, i_le, i_eq, i_add, i_sub, i_mul, i_neg, i_ofNat, i_rem, i_div, w_in, w_in2, w_cnt, w_cnt2, z01, z01', il, li, lc_ge, lc_le, lc_gt, lc_lt, lc_eq, l_ofNat, l0, l_eq, l_lt, l_le]) <;> omega)) ?_))
          refine h_bind (v := (Int32.ofInt ((m : Int) + 1), S1)) ?_ rfl
          unfold fX3_add
          rw [cb]
          refine h_neg (by first | omega | ((simp (disch := omega) only [i0, i1, i_lt, i_le, i_eq, i_add, i_sub, i_mul, i_neg, i_ofNat, i_rem, i_div, w_in, w_in2, w_cnt, w_cnt2, z01, z01', il, li, lc_ge, lc_le, lc_gt, lc_lt, lc_eq, l_ofNat, l0, l_eq, l_lt, l_le]) <;> omega)) ?_
          refine h_ainN (by omega) (by omega) (h_pst ?_)
          rw [show (ySa S 120 (upd (S.2.2.1 120) m (Int32.ofInt a))).1 119 2 = S.1 119 2 from rfl, cb]
          refine h_ainN (by omega) (by omega) ?_
          refine h_pos (by first | omega | ((simp (disch := omega) only [i0, i1, i_lt, i_le, i_eq, i_add, i_sub, i_mul, i_neg, i_ofNat, i_rem, i_div, w_in, w_in2, w_cnt, w_cnt2, z01, z01', il, li, lc_ge, lc_le, lc_gt, lc_lt, lc_eq, l_ofNat, l0, l_eq, l_lt, l_le]) <;> omega)) ?_
          refine h_pst (h_pst ?_)
          show some ((ySi _ 119 2 (S.1 119 2 + Int32.ofInt 1)).1 119 2, ySi _ 119 2 (S.1 119 2 + Int32.ofInt 1)) = _
          rw [fld_at, cb, i_add]
          rfl
        · have e1 : S1.2.2.1 266 = S.2.2.1 266 := rfl
          rw [e1, rb]
          refine h_pos (by first | omega | ((simp (disch := omega) only [i0, i1, i_lt, i_le, i_eq, i_add, i_sub, i_mul, i_neg, i_ofNat, i_rem, i_div, w_in, w_in2, w_cnt, w_cnt2, z01, z01', il, li, lc_ge, lc_le, lc_gt, lc_lt, lc_eq, l_ofNat, l0, l_eq, l_lt, l_le]) <;> omega)) (h_neg (by first | omega | ((simp (disch := omega) only [i0, i1, i_lt, i_le, i_eq, i_add, i_sub, i_mul, i_neg, i_ofNat, i_rem, i_div, w_in, w_in2, w_cnt, w_cnt2, z01, z01', il, li, lc_ge, lc_le, lc_gt, lc_lt, lc_eq, l_ofNat, l0, l_eq, l_lt, l_le]) <;> omega)) (h_pos (by first | omega | ((simp (disch := omega) only [i0, i1, i_lt, i_le, i_eq, i_add, i_sub, i_mul, i_neg, i_ofNat, i_rem, i_div, w_in, w_in2, w_cnt, w_cnt2, z01, z01', il, li, lc_ge, lc_le, lc_gt, lc_lt, lc_eq, l_ofNat, l0, l_eq, l_lt, l_le]) <;> omega)) ?_))
          rw [i_mul, i_add, show (54 : Int) + 2 * (m : Int) = ((54 + 2 * m : Nat) : Int) by omega]
          refine h_ainN (by omega) (by omega) (h_pst ?_)
          rw [ySa_at, upd_ne (by omega), rb, i_mul, i_add, i_add, show (54 : Int) + 2 * (m : Int) + 1 = ((55 + 2 * m : Nat) : Int) by omega]
          rcases hv with rfl | rfl
          · refine h_pos (by first | omega | ((simp (disch := omega) only [i0, i1, i_lt, i_le, i_eq, i_add, i_sub, i_mul, i_neg, i_ofNat, i_rem, i_div, w_in, w_in2, w_cnt, w_cnt2, z01, z01', il, li, lc_ge, lc_le, lc_gt, lc_lt, lc_eq, l_ofNat, l0, l_eq, l_lt, l_le]) <;> omega)) ?_
            refine h_ainN (by omega) (by omega) (h_pst (h_pst ?_))
            simp (disch := omega) only [ySa_at, ySa_ySa, upd_ne, upd_at]
            rw [rb, i_add]
          · refine h_neg (by first | omega | ((simp (disch := omega) only [i0, i1, i_lt, i_le, i_eq, i_add, i_sub, i_mul, i_neg, i_ofNat, i_rem, i_div, w_in, w_in2, w_cnt, w_cnt2, z01, z01', il, li, lc_ge, lc_le, lc_gt, lc_lt, lc_eq, l_ofNat, l0, l_eq, l_lt, l_le]) <;> omega)) ?_
            refine h_ainN (by omega) (by omega) (h_pst (h_pst ?_))
            simp (disch := omega) only [ySa_at, ySa_ySa, upd_ne, upd_at]
            rw [rb, i_add]
        · have eF : ∀ i, i ≠ 266 → (ySa S1 266 g).2.2.1 i = yU (yU S.2.2.1 120 (upd (S.2.2.1 120) m (Int32.ofInt a))) 121 (upd (S.2.2.1 121) m (Int32.ofInt c)) i := fun i hi => ySa_ne _ _ hi
          have hA1 : cA 0 (rU (rv S 266) (54 + 2 * m) a) (ySa S 120 (upd (S.2.2.1 120) m (Int32.ofInt a))) := cA_up c0.2.1 (show (120, 12, 54, 2, (0 : Int), (99 : Int)) ∈ cTab by decide) (show m < 12 by omega) (fun k _ _ => rfl) (ySa_at _ _ _) (fun i a b c => ySa_ne _ _ c)
          have hA2 : cA 0 (rU (rU (rv S 266) (54 + 2 * m) a) (55 + 2 * m) c) (ySa (ySa S 120 (upd (S.2.2.1 120) m (Int32.ofInt a))) 121 (upd (S.2.2.1 121) m (Int32.ofInt c))) := cA_up hA1 (show (121, 12, 55, 2, (0 : Int), (1 : Int)) ∈ cTab by decide) (show m < 12 by omega) (fun k _ _ => rfl) (ySa_at _ _ _) (fun i a b c => ySa_ne _ _ c)
          have hR1 : rA (rU (rv S 266) (54 + 2 * m) a) := rA_up r0.2.1 (show (120, 12, 54, 2, (0 : Int), (99 : Int)) ∈ cTab by decide) (show m < 12 by omega) ha (fun k _ _ => rfl)
          have hR2 : rA (rU (rU (rv S 266) (54 + 2 * m) a) (55 + 2 * m) c) := rA_up hR1 (show (121, 12, 55, 2, (0 : Int), (1 : Int)) ∈ cTab by decide) (show m < 12 by omega) (by omega) (fun k _ _ => rfl)
          refine Rel_told h (fun i a c => fld_o c) (fun i a c => ?_) rfl (fun k hk => ?_) ?_ ?_ ?_ ?_ ?_ ?_
          · rw [eF i c, yU_ne (by omega), yU_ne (by omega)]
          · rw [eA, rU_ne (by omega), rU_ne (by omega), rU_ne (by omega)]
          · rw [eA, rU_ne (by omega), rU_ne (by omega), rU_ne (by omega)]; exact Int.le_refl _
          · unfold cI
            rw [eA, rU_eq, rU_ne (by omega), rU_ne (by omega), rU_ne (by omega), rU_ne (by omega), rU_ne (by omega), rU_ne (by omega), rU_ne (by omega), rU_ne (by omega), rU_ne (by omega), rU_ne (by omega), rU_ne (by omega), rU_ne (by omega)]
            exact ⟨c0.1.1, c0.1.2.1, c0.1.2.2.1, c0.1.2.2.2.1, (show S1.1 119 2 = _ from fld_at)⟩
          · rw [eA]
            exact cA_same hA2 (fun k a b => rU_ne (by omega)) (fun i a c => by rw [eF i (by omega)]; rfl)
          · rw [eA, rU_eq, rU_ne (by omega), rU_ne (by omega), rU_ne (by omega), rU_ne (by omega), rU_ne (by omega), rU_ne (by omega), rU_ne (by omega), rU_ne (by omega), rU_ne (by omega)]
            exact ⟨r0.1.1, r0.1.2.2.1, by omega, r0.1.2.2.2.2.2⟩
          · rw [eA]
            exact rA_same hR2 (fun k a b => rU_ne (by omega))
          · intro k hk
            have h0 := r0.1.1
            rw [eA, rU_ne (by omega), rU_ne (by omega), rU_ne (by omega)] at hk
            rw [eA, rU_ne (by omega), rU_ne (by omega), rU_ne (by omega), rU_ne (by omega), rU_ne (by omega), rU_ne (by omega)]
            exact r0.2.2.1 k hk
    · refine ⟨Int32.ofInt (-2), S, S, ?_, ?_, h⟩
      · exact h_pos (by first | omega | ((simp (disch := omega) only [i0, i1, i_lt, i_le, i_eq, i_add, i_sub, i_mul, i_neg, i_ofNat, i_rem, i_div, w_in, w_in2, w_cnt, w_cnt2, z01, z01', il, li, lc_ge, lc_le, lc_gt, lc_lt, lc_eq, l_ofNat, l0, l_eq, l_lt, l_le]) <;> omega)) (h_pos (by first | omega | ((simp (disch := omega) only [i0, i1, i_lt, i_le, i_eq, i_add, i_sub, i_mul, i_neg, i_ofNat, i_rem, i_div, w_in, w_in2, w_cnt, w_cnt2, z01, z01', il, li, lc_ge, lc_le, lc_gt, lc_lt, lc_eq, l_ofNat, l0, l_eq, l_lt, l_le]) <;> omega)) rfl)
      · exact h_pos (by first | omega | ((simp (disch := omega) only [i0, i1, i_lt, i_le, i_eq, i_add, i_sub, i_mul, i_neg, i_ofNat, i_rem, i_div, w_in, w_in2, w_cnt, w_cnt2, z01, z01', il, li, lc_ge, lc_le, lc_gt, lc_lt, lc_eq, l_ofNat, l0, l_eq, l_lt, l_le]) <;> omega)) (h_pos (by first | omega | ((simp (disch := omega) only [i0, i1, i_lt, i_le, i_eq, i_add, i_sub, i_mul, i_neg, i_ofNat, i_rem, i_div, w_in, w_in2, w_cnt, w_cnt2, z01, z01', il, li, lc_ge, lc_le, lc_gt, lc_lt, lc_eq, l_ofNat, l0, l_eq, l_lt, l_le]) <;> omega)) rfl)
theorem pm_told (h : Rel T S) (v0 v1 : Int32) : PM T S (fX11_told v0 v1) (fX12_told v0 v1) := by
  obtain ⟨a, a1, a2, rfl⟩ := i_ex v0
  obtain ⟨c, c1, c2, rfl⟩ := i_ex v1
  skip
  have hb := R_i5 h
  have cb := C_tolds h
  have rb := rv_eq S 266 5
  have c0 := h.1
  have r0 := h.2.2.1
  unfold PM fX11_told fX12_told
  by_cases hn : a = -1
  · have eA : rv (ySa (ySi S 18 15 (Int32.ofInt 0)) 266 (upd (S.2.2.1 266) 5 (Int32.ofInt 0))) 266 = rU (rv S 266) 5 0 := by
      rw [rv_rf, ySa_at, rf_upd (by omega) (by omega)]; rfl
    refine ⟨Int32.ofInt 0, ySi S 18 15 (Int32.ofInt 0), ySa (ySi S 18 15 (Int32.ofInt 0)) 266 (upd (S.2.2.1 266) 5 (Int32.ofInt 0)), ?_, ?_, ?_⟩
    · exact h_neg (by first | omega | ((simp (disch := omega) only [i0, i1, i_lt, i_le, i_eq, i_add, i_sub, i_mul, i_neg, i_ofNat, i_rem, i_div, w_in, w_in2, w_cnt, w_cnt2, z01, z01', il, li, lc_ge, lc_le, lc_gt, lc_lt, lc_eq, l_ofNat, l0, l_eq, l_lt, l_le]) <;> omega)) (h_pst rfl)
    · exact h_neg (by first | omega | ((simp (disch := omega) only [i0, i1, i_lt, i_le, i_eq, i_add, i_sub, i_mul, i_neg, i_ofNat, i_rem, i_div, w_in, w_in2, w_cnt, w_cnt2, z01, z01', il, li, lc_ge, lc_le, lc_gt, lc_lt, lc_eq, l_ofNat, l0, l_eq, l_lt, l_le]) <;> omega)) (h_pst rfl)
    · refine Rel_told h (fun i a c => fld_o a) (fun i a c => ySa_ne _ _ c) rfl (fun k hk => ?_) ?_ ?_ ?_ ?_ ?_ ?_
      · rw [eA, rU_ne (by omega)]
      · rw [eA, rU_ne (by omega)]; exact Int.le_refl _
      · unfold cI
        rw [eA, rU_eq, rU_ne (by omega), rU_ne (by omega), rU_ne (by omega), rU_ne (by omega)]
        exact ⟨c0.1.1, c0.1.2.1, c0.1.2.2.1, (show (ySi S 18 15 (Int32.ofInt 0)).1 18 15 = _ from fld_at), c0.1.2.2.2.2⟩
      · rw [eA]
        exact cA_same c0.2.1 (fun k a b => rU_ne (by omega)) (fun i a c => ySa_ne _ _ (by omega))
      · rw [eA, rU_eq, rU_ne (by omega), rU_ne (by omega), rU_ne (by omega)]
        exact ⟨r0.1.1, r0.1.2.2.1, r0.1.2.2.2.2.1, by omega⟩
      · rw [eA]
        exact rA_same r0.2.1 (fun k a b => rU_ne (by omega))
      · intro k hk
        have h0 := r0.1.1
        rw [eA, rU_ne (by omega)] at hk
        rw [eA, rU_ne (by omega), rU_ne (by omega)]
        exact r0.2.2.1 k hk
  · by_cases ha : 0 ≤ a ∧ a ≤ 8
    · by_cases hc : -99 ≤ c ∧ c ≤ 99
      · by_cases h8 : rv S 266 5 = 8
        · refine ⟨Int32.ofInt (-2), S, S, ?_, ?_, h⟩
          · rw [cb]
            exact h_pos (by first | omega | ((simp (disch := omega) only [i0, i1, i_lt, i_le, i_eq, i_add, i_sub, i_mul, i_neg, i_ofNat, i_rem, i_div, w_in, w_in2, w_cnt, w_cnt2, z01, z01', il, li, lc_ge, lc_le, lc_gt, lc_lt, lc_eq, l_ofNat, l0, l_eq, l_lt, l_le]) <;> omega)) (h_neg (by first | omega | ((simp (disch := omega) only [i0, i1, i_lt, i_le, i_eq, i_add, i_sub, i_mul, i_neg, i_ofNat, i_rem, i_div, w_in, w_in2, w_cnt, w_cnt2, z01, z01', il, li, lc_ge, lc_le, lc_gt, lc_lt, lc_eq, l_ofNat, l0, l_eq, l_lt, l_le]) <;> omega)) (h_neg (by first | omega | ((simp (disch := omega) only [i0, i1, i_lt, i_le, i_eq, i_add, i_sub, i_mul, i_neg, i_ofNat, i_rem, i_div, w_in, w_in2, w_cnt, w_cnt2, z01, z01', il, li, lc_ge, lc_le, lc_gt, lc_lt, lc_eq, l_ofNat, l0, l_eq, l_lt, l_le]) <;> omega)) (h_neg (by first | omega | ((simp (disch := omega) only [i0, i1, i_lt, i_le, i_eq, i_add, i_sub, i_mul, i_neg, i_ofNat, i_rem, i_div, w_in, w_in2, w_cnt, w_cnt2, z01, z01', il, li, lc_ge, lc_le, lc_gt, lc_lt, lc_eq, l_ofNat, l0, l_eq, l_lt, l_le]) <;> omega)) rfl)))
          · rw [rb]
            exact h_pos (by first | omega | ((simp (disch := omega) only [i0, i1, i_lt, i_le, i_eq, i_add, i_sub, i_mul, i_neg, i_ofNat, i_rem, i_div, w_in, w_in2, w_cnt, w_cnt2, z01, z01', il, li, lc_ge, lc_le, lc_gt, lc_lt, lc_eq, l_ofNat, l0, l_eq, l_lt, l_le]) <;> omega)) (h_neg (by first | omega | ((simp (disch := omega) only [i0, i1, i_lt, i_le, i_eq, i_add, i_sub, i_mul, i_neg, i_ofNat, i_rem, i_div, w_in, w_in2, w_cnt, w_cnt2, z01, z01', il, li, lc_ge, lc_le, lc_gt, lc_lt, lc_eq, l_ofNat, l0, l_eq, l_lt, l_le]) <;> omega)) (h_neg (by first | omega | ((simp (disch := omega) only [i0, i1, i_lt, i_le, i_eq, i_add, i_sub, i_mul, i_neg, i_ofNat, i_rem, i_div, w_in, w_in2, w_cnt, w_cnt2, z01, z01', il, li, lc_ge, lc_le, lc_gt, lc_lt, lc_eq, l_ofNat, l0, l_eq, l_lt, l_le]) <;> omega)) (h_neg (by first | omega | ((simp (disch := omega) only [i0, i1, i_lt, i_le, i_eq, i_add, i_sub, i_mul, i_neg, i_ofNat, i_rem, i_div, w_in, w_in2, w_cnt, w_cnt2, z01, z01', il, li, lc_ge, lc_le, lc_gt, lc_lt, lc_eq, l_ofNat, l0, l_eq, l_lt, l_le]) <;> omega)) rfl)))
        · obtain ⟨m, hbn⟩ := Int.eq_ofNat_of_zero_le hb.1
          rw [hbn] at cb rb hb h8
          let S1 : yS := ySi (ySa (ySa S 130 (upd (S.2.2.1 130) m (Int32.ofInt a))) 131 (upd (S.2.2.1 131) m (Int32.ofInt c))) 18 15 (Int32.ofInt ((m : Int) + 1))
          let g : Nat → Int32 := upd (upd (upd (S.2.2.1 266) (92 + 2 * m) (Int32.ofInt a)) (93 + 2 * m) (Int32.ofInt c)) 5 (Int32.ofInt ((m : Int) + 1))
          have eA : rv (ySa S1 266 g) 266 = rU (rU (rU (rv S 266) (92 + 2 * m) a) (93 + 2 * m) c) 5 ((m : Int) + 1) := by
            rw [rv_rf, ySa_at, rf_upd (by omega) (by omega), rf_upd c1 c2, rf_upd a1 a2]; rfl
          refine ⟨Int32.ofInt ((m : Int) + 1), S1, ySa S1 266 g, ?_, ?_, ?_⟩
          · rw [cb]
            refine h_pos (by first | omega | ((simp (disch := omega) only [i0, i1, i_lt, i_le, i_eq, i_add, i_sub, i_mul, i_neg, i_ofNat, i_rem, i_div, w_in, w_in2, w_cnt, w_cnt2, z01, z01', il, li, lc_ge, lc_le, lc_gt, lc_lt, lc_eq, l_ofNat, l0, l_eq, l_lt, l_le]) <;> omega)) (h_neg (by first | omega | ((simp (disch := omega) only [i0, i1, i_lt, i_le, i_eq, i_add, i_sub, i_mul, i_neg, i_ofNat, i_rem, i_div, w_in, w_in2, w_cnt, w_cnt2, z01, z01', il, li, lc_ge, lc_le, lc_gt, lc_lt, lc_eq, l_ofNat, l0, l_eq, l_lt, l_le]) <;> omega)) (h_neg (by first | omega | ((simp (disch := omega) only [i0, i1, i_lt, i_le, i_eq, i_add, i_sub, i_mul, i_neg, i_ofNat, i_rem, i_div, w_in, w_in2, w_cnt, w_cnt2, z01, z01', il, li, lc_ge, lc_le, lc_gt, lc_lt, lc_eq, l_ofNat, l0, l_eq, l_lt, l_le]) <;> omega)) (h_pos (by first | omega | ((simp (disch := omega) only [i0, i1, i_lt, i_le, i_eq, i_add, i_sub, i_mul, i_neg, i_ofNat, i_rem, i_div, w_in, w_in2, w_cnt, w_cnt2, z01, z01', il, li, lc_ge, lc_le, lc_gt, lc_lt, lc_eq, l_ofNat, l0, l_eq, l_lt, l_le]) <;> omega)) ?_)))
            refine h_bind (v := (Int32.ofInt ((m : Int) + 1), S1)) ?_ rfl
            unfold fX0_addTold
            rw [cb]
            refine h_neg (by first | omega | ((simp (disch := omega) only [i0, i1, i_lt, i_le, i_eq, i_add, i_sub, i_mul, i_neg, i_ofNat, i_rem, i_div, w_in, w_in2, w_cnt, w_cnt2, z01, z01', il, li, lc_ge, lc_le, lc_gt, lc_lt, lc_eq, l_ofNat, l0, l_eq, l_lt, l_le]) <;> omega)) ?_
            refine h_ainN (by omega) (by omega) (h_pst ?_)
            rw [show (ySa S 130 (upd (S.2.2.1 130) m (Int32.ofInt a))).1 18 15 = S.1 18 15 from rfl, cb]
            refine h_ainN (by omega) (by omega) ?_
            refine h_pst (h_pst ?_)
            show some ((ySi _ 18 15 (S.1 18 15 + Int32.ofInt 1)).1 18 15, ySi _ 18 15 (S.1 18 15 + Int32.ofInt 1)) = _
            rw [fld_at, cb, i_add]
            rfl
          · have e1 : S1.2.2.1 266 = S.2.2.1 266 := rfl
            rw [e1, rb]
            refine h_pos (by first | omega | ((simp (disch := omega) only [i0, i1, i_lt, i_le, i_eq, i_add, i_sub, i_mul, i_neg, i_ofNat, i_rem, i_div, w_in, w_in2, w_cnt, w_cnt2, z01, z01', il, li, lc_ge, lc_le, lc_gt, lc_lt, lc_eq, l_ofNat, l0, l_eq, l_lt, l_le]) <;> omega)) (h_neg (by first | omega | ((simp (disch := omega) only [i0, i1, i_lt, i_le, i_eq, i_add, i_sub, i_mul, i_neg, i_ofNat, i_rem, i_div, w_in, w_in2, w_cnt, w_cnt2, z01, z01', il, li, lc_ge, lc_le, lc_gt, lc_lt, lc_eq, l_ofNat, l0, l_eq, l_lt, l_le]) <;> omega)) (h_neg (by first | omega | ((simp (disch := omega) only [i0, i1, i_lt, i_le, i_eq, i_add, i_sub, i_mul, i_neg, i_ofNat, i_rem, i_div, w_in, w_in2, w_cnt, w_cnt2, z01, z01', il, li, lc_ge, lc_le, lc_gt, lc_lt, lc_eq, l_ofNat, l0, l_eq, l_lt, l_le]) <;> omega)) (h_pos (by first | omega | ((simp (disch := omega) only [i0, i1, i_lt, i_le, i_eq, i_add, i_sub, i_mul, i_neg, i_ofNat, i_rem, i_div, w_in, w_in2, w_cnt, w_cnt2, z01, z01', il, li, lc_ge, lc_le, lc_gt, lc_lt, lc_eq, l_ofNat, l0, l_eq, l_lt, l_le]) <;> omega)) ?_)))
            rw [i_mul, i_add, show (92 : Int) + 2 * (m : Int) = ((92 + 2 * m : Nat) : Int) by omega]
            refine h_ainN (by omega) (by omega) (h_pst ?_)
            rw [ySa_at, upd_ne (by omega), rb, i_mul, i_add, i_add, show (92 : Int) + 2 * (m : Int) + 1 = ((93 + 2 * m : Nat) : Int) by omega]
            refine h_ainN (by omega) (by omega) (h_pst (h_pst ?_))
            simp (disch := omega) only [ySa_at, ySa_ySa, upd_ne, upd_at]
            rw [rb, i_add]
          · have eF : ∀ i, i ≠ 266 → (ySa S1 266 g).2.2.1 i = yU (yU S.2.2.1 130 (upd (S.2.2.1 130) m (Int32.ofInt a))) 131 (upd (S.2.2.1 131) m (Int32.ofInt c)) i := fun i hi => ySa_ne _ _ hi
            have hA1 : cA 0 (rU (rv S 266) (92 + 2 * m) a) (ySa S 130 (upd (S.2.2.1 130) m (Int32.ofInt a))) := cA_up c0.2.1 (show (130, 8, 92, 2, (0 : Int), (8 : Int)) ∈ cTab by decide) (show m < 8 by omega) (fun k _ _ => rfl) (ySa_at _ _ _) (fun i a b c => ySa_ne _ _ c)
            have hA2 : cA 0 (rU (rU (rv S 266) (92 + 2 * m) a) (93 + 2 * m) c) (ySa (ySa S 130 (upd (S.2.2.1 130) m (Int32.ofInt a))) 131 (upd (S.2.2.1 131) m (Int32.ofInt c))) := cA_up hA1 (show (131, 8, 93, 2, (-99 : Int), (99 : Int)) ∈ cTab by decide) (show m < 8 by omega) (fun k _ _ => rfl) (ySa_at _ _ _) (fun i a b c => ySa_ne _ _ c)
            have hR1 : rA (rU (rv S 266) (92 + 2 * m) a) := rA_up r0.2.1 (show (130, 8, 92, 2, (0 : Int), (8 : Int)) ∈ cTab by decide) (show m < 8 by omega) ha (fun k _ _ => rfl)
            have hR2 : rA (rU (rU (rv S 266) (92 + 2 * m) a) (93 + 2 * m) c) := rA_up hR1 (show (131, 8, 93, 2, (-99 : Int), (99 : Int)) ∈ cTab by decide) (show m < 8 by omega) (by omega) (fun k _ _ => rfl)
            refine Rel_told h (fun i a c => fld_o a) (fun i a c => ?_) rfl (fun k hk => ?_) ?_ ?_ ?_ ?_ ?_ ?_
            · rw [eF i c, yU_ne (by omega), yU_ne (by omega)]
            · rw [eA, rU_ne (by omega), rU_ne (by omega), rU_ne (by omega)]
            · rw [eA, rU_ne (by omega), rU_ne (by omega), rU_ne (by omega)]; exact Int.le_refl _
            · unfold cI
              rw [eA, rU_eq, rU_ne (by omega), rU_ne (by omega), rU_ne (by omega), rU_ne (by omega), rU_ne (by omega), rU_ne (by omega), rU_ne (by omega), rU_ne (by omega), rU_ne (by omega), rU_ne (by omega), rU_ne (by omega), rU_ne (by omega)]
              exact ⟨c0.1.1, c0.1.2.1, c0.1.2.2.1, (show S1.1 18 15 = _ from fld_at), c0.1.2.2.2.2⟩
            · rw [eA]
              exact cA_same hA2 (fun k a b => rU_ne (by omega)) (fun i a c => by rw [eF i (by omega)]; rfl)
            · rw [eA, rU_eq, rU_ne (by omega), rU_ne (by omega), rU_ne (by omega), rU_ne (by omega), rU_ne (by omega), rU_ne (by omega), rU_ne (by omega), rU_ne (by omega), rU_ne (by omega)]
              exact ⟨r0.1.1, r0.1.2.2.1, r0.1.2.2.2.2.1, by omega⟩
            · rw [eA]
              exact rA_same hR2 (fun k a b => rU_ne (by omega))
            · intro k hk
              have h0 := r0.1.1
              rw [eA, rU_ne (by omega), rU_ne (by omega), rU_ne (by omega)] at hk
              rw [eA, rU_ne (by omega), rU_ne (by omega), rU_ne (by omega), rU_ne (by omega), rU_ne (by omega), rU_ne (by omega)]
              exact r0.2.2.1 k hk
      · refine ⟨Int32.ofInt (-2), S, S, ?_, ?_, h⟩
        · exact h_pos (by first | omega | ((simp (disch := omega) only [i0, i1, i_lt, i_le, i_eq, i_add, i_sub, i_mul, i_neg, i_ofNat, i_rem, i_div, w_in, w_in2, w_cnt, w_cnt2, z01, z01', il, li, lc_ge, lc_le, lc_gt, lc_lt, lc_eq, l_ofNat, l0, l_eq, l_lt, l_le]) <;> omega)) (h_neg (by first | omega | ((simp (disch := omega) only [i0, i1, i_lt, i_le, i_eq, i_add, i_sub, i_mul, i_neg, i_ofNat, i_rem, i_div, w_in, w_in2, w_cnt, w_cnt2, z01, z01', il, li, lc_ge, lc_le, lc_gt, lc_lt, lc_eq, l_ofNat, l0, l_eq, l_lt, l_le]) <;> omega)) (h_pos (by first | omega | ((simp (disch := omega) only [i0, i1, i_lt, i_le, i_eq, i_add, i_sub, i_mul, i_neg, i_ofNat, i_rem, i_div, w_in, w_in2, w_cnt, w_cnt2, z01, z01', il, li, lc_ge, lc_le, lc_gt, lc_lt, lc_eq, l_ofNat, l0, l_eq, l_lt, l_le]) <;> omega)) rfl))
        · exact h_pos (by first | omega | ((simp (disch := omega) only [i0, i1, i_lt, i_le, i_eq, i_add, i_sub, i_mul, i_neg, i_ofNat, i_rem, i_div, w_in, w_in2, w_cnt, w_cnt2, z01, z01', il, li, lc_ge, lc_le, lc_gt, lc_lt, lc_eq, l_ofNat, l0, l_eq, l_lt, l_le]) <;> omega)) (h_neg (by first | omega | ((simp (disch := omega) only [i0, i1, i_lt, i_le, i_eq, i_add, i_sub, i_mul, i_neg, i_ofNat, i_rem, i_div, w_in, w_in2, w_cnt, w_cnt2, z01, z01', il, li, lc_ge, lc_le, lc_gt, lc_lt, lc_eq, l_ofNat, l0, l_eq, l_lt, l_le]) <;> omega)) (h_pos (by first | omega | ((simp (disch := omega) only [i0, i1, i_lt, i_le, i_eq, i_add, i_sub, i_mul, i_neg, i_ofNat, i_rem, i_div, w_in, w_in2, w_cnt, w_cnt2, z01, z01', il, li, lc_ge, lc_le, lc_gt, lc_lt, lc_eq, l_ofNat, l0, l_eq, l_lt, l_le]) <;> omega)) rfl))
    · refine ⟨Int32.ofInt (-2), S, S, ?_, ?_, h⟩
      · exact h_pos (by first | omega | ((simp (disch := omega) only [i0, i1, i_lt, i_le, i_eq, i_add, i_sub, i_mul, i_neg, i_ofNat, i_rem, i_div, w_in, w_in2, w_cnt, w_cnt2, z01, z01', il, li, lc_ge, lc_le, lc_gt, lc_lt, lc_eq, l_ofNat, l0, l_eq, l_lt, l_le]) <;> omega)) (h_pos (by first | omega | ((simp (disch := omega) only [i0, i1, i_lt, i_le, i_eq, i_add, i_sub, i_mul, i_neg, i_ofNat, i_rem, i_div, w_in, w_in2, w_cnt, w_cnt2, z01, z01', il, li, lc_ge, lc_le, lc_gt, lc_lt, lc_eq, l_ofNat, l0, l_eq, l_lt, l_le]) <;> omega)) rfl)
      · exact h_pos (by first | omega | ((simp (disch := omega) only [i0, i1, i_lt, i_le, i_eq, i_add, i_sub, i_mul, i_neg, i_ofNat, i_rem, i_div, w_in, w_in2, w_cnt, w_cnt2, z01, z01', il, li, lc_ge, lc_le, lc_gt, lc_lt, lc_eq, l_ofNat, l0, l_eq, l_lt, l_le]) <;> omega)) (h_pos (by first | omega | ((simp (disch := omega) only [i0, i1, i_lt, i_le, i_eq, i_add, i_sub, i_mul, i_neg, i_ofNat, i_rem, i_div, w_in, w_in2, w_cnt, w_cnt2, z01, z01', il, li, lc_ge, lc_le, lc_gt, lc_lt, lc_eq, l_ofNat, l0, l_eq, l_lt, l_le]) <;> omega)) rfl)
theorem pm_by (h : Rel T S) (v0 : Int32) : PM T S (fX11_by v0) (fX12_by v0) := by
  obtain ⟨a, a1, a2, rfl⟩ := i_ex v0
  have hb := R_i1 h
  have cb := C_texts h
  have rb := rv_eq S 266 1
  have c0 := h.1
  have r0 := h.2.2.1
  unfold PM fX11_by fX12_by
  by_cases hn : -1 ≤ a ∧ a < rv S 266 1
  · have eA : rv (ySa (ySi S 18 9 (Int32.ofInt a)) 266 (upd (S.2.2.1 266) 2 (Int32.ofInt a))) 266 = rU (rv S 266) 2 a := by
      rw [rv_rf, ySa_at, rf_upd (by omega) (by omega)]; rfl
    refine ⟨Int32.ofInt 1, ySi S 18 9 (Int32.ofInt a), ySa (ySi S 18 9 (Int32.ofInt a)) 266 (upd (S.2.2.1 266) 2 (Int32.ofInt a)), ?_, ?_, ?_⟩
    · by_cases hm : a = -1
      · exact h_pos (by first | omega | ((simp (disch := omega) only [i0, i1, i_lt, i_le, i_eq, i_add, i_sub, i_mul, i_neg, i_ofNat, i_rem, i_div, w_in, w_in2, w_cnt, w_cnt2, z01, z01', il, li, lc_ge, lc_le, lc_gt, lc_lt, lc_eq, l_ofNat, l0, l_eq, l_lt, l_le]) <;> omega)) (h_pst rfl)
      · refine h_neg (by first | omega | ((simp (disch := omega) only [i0, i1, i_lt, i_le, i_eq, i_add, i_sub, i_mul, i_neg, i_ofNat, i_rem, i_div, w_in, w_in2, w_cnt, w_cnt2, z01, z01', il, li, lc_ge, lc_le, lc_gt, lc_lt, lc_eq, l_ofNat, l0, l_eq, l_lt, l_le]) <;> omega)) ?_
        refine h_bind (v := Int32.ofInt 1) ?_ (h_pos (by decide) (h_pst rfl))
        unfold fX0_hasText
        rw [cb]
        exact h_neg (by first | omega | ((simp (disch := omega) only [i0, i1, i_lt, i_le, i_eq, i_add, i_sub, i_mul, i_neg, i_ofNat, i_rem, i_div, w_in, w_in2, w_cnt, w_cnt2, z01, z01', il, li, lc_ge, lc_le, lc_gt, lc_lt, lc_eq, l_ofNat, l0, l_eq, l_lt, l_le]) <;> omega)) (h_neg (by first | omega | ((simp (disch := omega) only [i0, i1, i_lt, i_le, i_eq, i_add, i_sub, i_mul, i_neg, i_ofNat, i_rem, i_div, w_in, w_in2, w_cnt, w_cnt2, z01, z01', il, li, lc_ge, lc_le, lc_gt, lc_lt, lc_eq, l_ofNat, l0, l_eq, l_lt, l_le]) <;> omega)) rfl)
    · rw [show (ySi S 18 9 (Int32.ofInt a)).2.2.1 266 = S.2.2.1 266 from rfl, rb, i_sub]
      exact h_pos (by first | omega | ((simp (disch := omega) only [i0, i1, i_lt, i_le, i_eq, i_add, i_sub, i_mul, i_neg, i_ofNat, i_rem, i_div, w_in, w_in2, w_cnt, w_cnt2, z01, z01', il, li, lc_ge, lc_le, lc_gt, lc_lt, lc_eq, l_ofNat, l0, l_eq, l_lt, l_le]) <;> omega)) (h_pst rfl)
    · refine Rel_told h (fun i a c => fld_o a) (fun i a c => ySa_ne _ _ c) rfl (fun k hk => ?_) ?_ ?_ ?_ ?_ ?_ ?_
      · rw [eA, rU_ne (by omega)]
      · rw [eA, rU_ne (by omega)]; exact Int.le_refl _
      · unfold cI
        rw [eA, rU_eq, rU_ne (by omega), rU_ne (by omega), rU_ne (by omega), rU_ne (by omega)]
        exact ⟨c0.1.1, c0.1.2.1, (show (ySi S 18 9 (Int32.ofInt a)).1 18 9 = _ from fld_at), c0.1.2.2.2.1, c0.1.2.2.2.2⟩
      · rw [eA]
        exact cA_same c0.2.1 (fun k a b => rU_ne (by omega)) (fun i a c => ySa_ne _ _ (by omega))
      · rw [eA, rU_eq, rU_ne (by omega), rU_ne (by omega), rU_ne (by omega)]
        exact ⟨r0.1.1, hn, r0.1.2.2.2.2.1, r0.1.2.2.2.2.2⟩
      · rw [eA]
        exact rA_same r0.2.1 (fun k a b => rU_ne (by omega))
      · intro k hk
        have h0 := r0.1.1
        rw [eA, rU_ne (by omega)] at hk
        rw [eA, rU_ne (by omega), rU_ne (by omega)]
        exact r0.2.2.1 k hk
  · refine ⟨Int32.ofInt 0, S, S, ?_, ?_, h⟩
    · refine h_neg (by first | omega | ((simp (disch := omega) only [i0, i1, i_lt, i_le, i_eq, i_add, i_sub, i_mul, i_neg, i_ofNat, i_rem, i_div, w_in, w_in2, w_cnt, w_cnt2, z01, z01', il, li, lc_ge, lc_le, lc_gt, lc_lt, lc_eq, l_ofNat, l0, l_eq, l_lt, l_le]) <;> omega)) ?_
      refine h_bind (v := Int32.ofInt 0) ?_ (h_neg (by decide) rfl)
      unfold fX0_hasText
      rw [cb]
      by_cases h0 : a < 0
      · exact h_pos (by first | omega | ((simp (disch := omega) only [i0, i1, i_lt, i_le, i_eq, i_add, i_sub, i_mul, i_neg, i_ofNat, i_rem, i_div, w_in, w_in2, w_cnt, w_cnt2, z01, z01', il, li, lc_ge, lc_le, lc_gt, lc_lt, lc_eq, l_ofNat, l0, l_eq, l_lt, l_le]) <;> omega)) rfl
      · exact h_neg (by first | omega | ((simp (disch := omega) only [i0, i1, i_lt, i_le, i_eq, i_add, i_sub, i_mul, i_neg, i_ofNat, i_rem, i_div, w_in, w_in2, w_cnt, w_cnt2, z01, z01', il, li, lc_ge, lc_le, lc_gt, lc_lt, lc_eq, l_ofNat, l0, l_eq, l_lt, l_le]) <;> omega)) (h_pos (by first | omega | ((simp (disch := omega) only [i0, i1, i_lt, i_le, i_eq, i_add, i_sub, i_mul, i_neg, i_ofNat, i_rem, i_div, w_in, w_in2, w_cnt, w_cnt2, z01, z01', il, li, lc_ge, lc_le, lc_gt, lc_lt, lc_eq, l_ofNat, l0, l_eq, l_lt, l_le]) <;> omega)) rfl)
    · rw [rb, i_sub]
      exact h_neg (by first | omega | ((simp (disch := omega) only [i0, i1, i_lt, i_le, i_eq, i_add, i_sub, i_mul, i_neg, i_ofNat, i_rem, i_div, w_in, w_in2, w_cnt, w_cnt2, z01, z01', il, li, lc_ge, lc_le, lc_gt, lc_lt, lc_eq, l_ofNat, l0, l_eq, l_lt, l_le]) <;> omega)) rfl
end PMS
