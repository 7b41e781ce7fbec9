/-! ===== the book, by the row ===== -/
def wrA (A : Nat → Int) (v : Int) : Nat → Int := if A 11 < 25 then rU (rU A (1313 + (A 11).toNat) v) 11 (A 11 + 1) else fun k => if 1313 ≤ k ∧ k < 1337 then A (k + 1) else if k = 1337 then v else A k
theorem wrA_o {A : Nat → Int} {v : Int} {k : Nat} (h : rI A) (hk : k < 1313) (h2 : k ≠ 11) : wrA A v k = A k := by
  have h5 := I_pgs h
  unfold wrA
  by_cases q : A 11 < 25
  · rw [if_pos q, rU_ne h2, rU_ne (by omega)]
  · rw [if_neg q, if_neg (by omega), if_neg (by omega)]
theorem wrA_now {A : Nat → Int} {v : Int} (h : rI A) : ∀ k, ¬ nowP k → wrA A v k = A k := by
  have h5 := I_pgs h
  intro k hk
  unfold nowP at hk
  unfold wrA
  by_cases q : A 11 < 25
  · rw [if_pos q, rU_ne (by omega), rU_ne (by omega)]
  · rw [if_neg q, if_neg (by omega), if_neg (by omega)]
theorem wrA_11 {A : Nat → Int} {v : Int} (h : rI A) : wrA A v 11 = min (A 11 + 1) 25 := by
  have h5 := I_pgs h
  unfold wrA
  by_cases q : A 11 < 25
  · rw [if_pos q, rU_eq]; omega
  · rw [if_neg q, if_neg (by omega), if_neg (by omega)]; omega
theorem wrA_mI {A : Nat → Int} {v : Int} (h : rI A) (hv : 0 ≤ v ∧ v < 180000000 ∧ 1 ≤ v % 200) : mI (A 0) (nowF (wrA A v)) := by
  have h5 := I_pgs h
  refine now_mI ?_ ?_ ?_ ?_ ?_ ?_ ?_ (fun k hk => ?_) (fun k hk => ?_)
  · rw [wrA_o h (by omega) (by omega)]; exact I_day h
  · rw [wrA_o h (by omega) (by omega)]; exact I_x h
  · rw [wrA_o h (by omega) (by omega)]; exact I_fund h
  · rw [wrA_o h (by omega) (by omega)]; exact I_cnt h
  · rw [wrA_o h (by omega) (by omega)]; exact I_thg h
  · rw [wrA_11 h]; omega
  · rw [wrA_o h (by omega) (by omega)]; exact I_gone h
  · rw [wrA_o h (by omega) (by omega)]; exact I_came h hk
  · rw [wrA_11 h] at hk
    unfold wrA
    by_cases q : A 11 < 25
    · rw [if_pos q, rU_ne (by omega)]
      by_cases e : k = (A 11).toNat
      · rw [e, rU_eq]; exact hv
      · rw [rU_ne (by omega)]; exact I_page h (by omega)
    · rw [if_neg q]
      by_cases e : k = 24
      · rw [e]; exact hv
      · rw [if_pos (by omega), show 1313 + k + 1 = 1313 + (k + 1) by omega]; exact I_page h (by omega)
section PMS
variable {T : yK} {S S' : yS} {A A' : Nat → Int} {W : Nat → wP}
theorem k_wr (h : ClR T A S W) {x : Int} (hx : -99 ≤ x ∧ x ≤ 99) (hd : A 6 ≤ 9998) (hp : A 11 < 25) : ∃ S1, fX2_write (Int32.ofInt x) S = some S1 ∧ ClR T (wrA A (((A 6 * 9 + A 9) * 10 + A 10) * 200 + x + 100)) S1 W ∧ Gn S S1 := by
  have h6 := I_day h.2.1
  have h9 := I_cnt h.2.1
  have h10 := I_thg h.2.1
  have h11 := I_pgs h.2.1
  obtain ⟨p, hpp⟩ := Int.eq_ofNat_of_zero_le h11.1
  have e := pg_C h6 h9 h10 hx
  refine ⟨ySi (ySa S 21 (upd (S.2.2.1 21) p (Int32.ofInt (pgC (((A 6 * 9 + A 9) * 10 + A 10) * 200 + x + 100))))) 19 8 (Int32.ofInt (A 11 + 1)), ?_, ?_, Gn_trans (Gn_a (a := 21) (by omega)) Gn_i⟩
  · unfold fX2_write
    rw [K_pgs h.1, K_day h.1, K_cnt h.1, K_thg h.1, e, hpp]
    refine h_pos (by first | omega | ((simp (disch := omega) only [i0, i1, i_lt, i_le, i_eq, i_add, i_sub, i_mul, i_neg, i_ofNat, i_rem, i_div, w_in, w_in2, w_cnt, w_cnt2, z01, z01', il, li, lc_ge, lc_le, lc_gt, lc_lt, lc_eq, l_ofNat, l0, l_eq, l_lt, l_le]) <;> omega)) (h_ainN (by omega) (by omega) (h_pst ?_))
    rw [show (ySa S 21 (upd (S.2.2.1 21) p (Int32.ofInt (pgC (((A 6 * 9 + A 9) * 10 + A 10) * 200 + x + 100))))).1 19 8 = S.1 19 8 from rfl, K_pgs h.1, hpp, i_add]
    rfl
  · refine ClR_now h (Gn_trans (Gn_a (a := 21) (by omega)) Gn_i) (wrA_now h.2.1) (wrA_mI h.2.1 (by omega)) ?_
    have o : ∀ k, k < 1313 → k ≠ 11 → wrA A (((A 6 * 9 + A 9) * 10 + A 10) * 200 + x + 100) k = A k := fun k a b => wrA_o h.2.1 a b
    refine now_mR ?_ ?_ ?_ ?_ ?_ ?_ ?_ (fun k hk => ?_) (fun k hk => ?_)
    · rw [o 6 (by omega) (by omega), fld_ne (by omega)]; exact (K_day h.1 :)
    · rw [o 7 (by omega) (by omega), fld_ne (by omega)]; exact (K_x h.1 :)
    · rw [o 8 (by omega) (by omega), fld_ne (by omega)]; exact (K_fund h.1 :)
    · rw [o 9 (by omega) (by omega), fld_ne (by omega)]; exact (K_cnt h.1 :)
    · rw [o 10 (by omega) (by omega), fld_ne (by omega)]; exact (K_thg h.1 :)
    · rw [fld_at, wrA_11 h.2.1, show min (A 11 + 1) 25 = A 11 + 1 by omega]
    · rw [o 12 (by omega) (by omega), fld_ne (by omega)]; exact (K_gone h.1 :)
    · rw [o _ (by omega) (by omega)]; exact (K_came h.1 hk :)
    · rw [wrA_11 h.2.1] at hk
      show upd (S.2.2.1 21) p (Int32.ofInt (pgC (((A 6 * 9 + A 9) * 10 + A 10) * 200 + x + 100))) k = _
      unfold wrA upd
      rw [if_pos hp, rU_ne (show 1313 + k ≠ 11 by omega)]
      by_cases q : k = p
      · rw [if_pos q, show 1313 + k = 1313 + (A 11).toNat by omega, rU_eq]
      · rw [if_neg q, rU_ne (by omega)]; exact K_page h.1 (by omega)
theorem k_wr25 (h : ClR T A S W) {x : Int} (hx : -99 ≤ x ∧ x ≤ 99) (hp : A 11 = 25) : ∃ S1, fX2_write (Int32.ofInt x) S = some S1 ∧ ClR T (wrA A (((A 6 * 9 + A 9) * 10 + A 10) * 200 + x + 100)) S1 W ∧ Gn S S1 := by
  have h6 := I_day h.2.1
  have h9 := I_cnt h.2.1
  have h10 := I_thg h.2.1
  have e := pg_C h6 h9 h10 hx
  refine ⟨ySi (ySa (ySi (ySa S 21 (va_cpy (S.2.2.1 21) (S.2.2.1 21) 1 0 24)) 19 8 (Int32.ofInt 24)) 21 (upd (va_cpy (S.2.2.1 21) (S.2.2.1 21) 1 0 24) 24 (Int32.ofInt (pgC (((A 6 * 9 + A 9) * 10 + A 10) * 200 + x + 100))))) 19 8 (Int32.ofInt 25), ?_, ?_, Gn_trans (Gn_trans (Gn_a (a := 21) (by omega)) Gn_i) (Gn_trans (Gn_a (a := 21) (by omega)) Gn_i)⟩
  · unfold fX2_write
    rw [K_pgs h.1, hp]
    refine h_neg (by decide) (h_pst (h_pst ?_))
    rw [fld_at, fld_ne (by omega), fld_ne (by omega), fld_ne (by omega), show (ySa S 21 (va_cpy (S.2.2.1 21) (S.2.2.1 21) 1 0 24)).1 19 = S.1 19 from rfl, K_day h.1, K_cnt h.1, K_thg h.1, e]
    refine h_ainN (k := 24) (by omega) (by omega) (h_pst ?_)
    rfl
  · refine ClR_now h (Gn_trans (Gn_trans (Gn_a (a := 21) (by omega)) Gn_i) (Gn_trans (Gn_a (a := 21) (by omega)) Gn_i)) (wrA_now h.2.1) (wrA_mI h.2.1 (by omega)) ?_
    have o : ∀ k, k < 1313 → k ≠ 11 → wrA A (((A 6 * 9 + A 9) * 10 + A 10) * 200 + x + 100) k = A k := fun k a b => wrA_o h.2.1 a b
    refine now_mR ?_ ?_ ?_ ?_ ?_ ?_ ?_ (fun k hk => ?_) (fun k hk => ?_)
    · rw [o 6 (by omega) (by omega)]; exact (K_day h.1 :)
    · rw [o 7 (by omega) (by omega)]; exact (K_x h.1 :)
    · rw [o 8 (by omega) (by omega)]; exact (K_fund h.1 :)
    · rw [o 9 (by omega) (by omega)]; exact (K_cnt h.1 :)
    · rw [o 10 (by omega) (by omega)]; exact (K_thg h.1 :)
    · rw [fld_at, wrA_11 h.2.1, hp]; rfl
    · rw [o 12 (by omega) (by omega)]; exact (K_gone h.1 :)
    · rw [o _ (by omega) (by omega)]; exact (K_came h.1 hk :)
    · rw [wrA_11 h.2.1] at hk
      show upd (va_cpy (S.2.2.1 21) (S.2.2.1 21) 1 0 24) 24 (Int32.ofInt (pgC (((A 6 * 9 + A 9) * 10 + A 10) * 200 + x + 100))) k = _
      unfold wrA upd va_cpy
      rw [if_neg (show ¬ A 11 < 25 by omega)]
      by_cases q : k = 24
      · rw [if_pos q, q]; rfl
      · rw [if_neg q, if_pos (by omega), if_pos (by omega), show 1 + (k - 0) = k + 1 by omega, show 1313 + k + 1 = 1313 + (k + 1) by omega]; exact K_page h.1 (by omega)
end PMS
