/-! ===== the book, by the row ===== -/
def wrA (A : Nat → Int) (v : Int) : Nat → Int := if A 11 < 25 then rU (rU A (1313 + (A 11).toNat) v) 11 (A 11 + 1) else fun k => if 1313 ≤ k ∧ k < 1337 then A (k + 1) else if k = 1337 then v else A k
theorem wrA_o {A : Nat → Int} {v : Int} {k : Nat} (h : rI A) (hk : k < 1313) (h2 : k ≠ 11) : wrA A v k = A k := by
  have h5 := I_pgs h
  unfold wrA
  by_cases q : A 11 < 25
  · rw [if_pos q, rU_ne h2, rU_ne (by omega)]
  · rw [if_neg q, if_neg (by omega), if_neg (by omega)]
theorem wrA_now {A : Nat → Int} {v : Int} (h : rI A) : ∀ k, ¬ nowP k → wrA A v k = A k := by
  have h5 := I_pgs h
  intro k hk
  unfold nowP at hk
  unfold wrA
  by_cases q : A 11 < 25
  · rw [if_pos q, rU_ne (by omega), rU_ne (by omega)]
  · rw [if_neg q, if_neg (by omega), if_neg (by omega)]
theorem wrA_11 {A : Nat → Int} {v : Int} (h : rI A) : wrA A v 11 = min (A 11 + 1) 25 := by
  have h5 := I_pgs h
  unfold wrA
  by_cases q : A 11 < 25
  · rw [if_pos q, rU_eq]; omega
  · rw [if_neg q, if_neg (by omega), if_neg (by omega)]; omega
theorem wrA_mI {A : Nat → Int} {v : Int} (h : rI A) (hv : 0 ≤ v ∧ v < 180000000 ∧ 1 ≤ v % 200) : mI (A 0) (nowF (wrA A v)) := by
  have h5 := I_pgs h
  refine now_mI ?_ ?_ ?_ ?_ ?_ ?_ ?_ (fun k hk => ?_) (fun k hk => ?_)
  · rw [wrA_o h (by omega) (by omega)]; exact I_day h
  · rw [wrA_o h (by omega) (by omega)]; exact I_x h
  · rw [wrA_o h (by omega) (by omega)]; exact I_fund h
  · rw [wrA_o h (by omega) (by omega)]; exact I_cnt h
  · rw [wrA_o h (by omega) (by omega)]; exact I_thg h
  · rw [wrA_11 h]; omega
  · rw [wrA_o h (by omega) (by omega)]; exact I_gone h
  · rw [wrA_o h (by omega) (by omega)]; exact I_came h hk
  · rw [wrA_11 h] at hk
    unfold wrA
    by_cases q : A 11 < 25
    · rw [if_pos q, rU_ne (by omega)]
      by_cases e : k = (A 11).toNat
      · rw [e, rU_eq]; exact hv
      · rw [rU_ne (by omega)]; exact I_page h (by omega)
    · rw [if_neg q]
      by_cases e : k = 24
      · rw [e]; exact hv
      · rw [if_pos (by omega), show 1313 + k + 1 = 1313 + (k + 1) by omega]; exact I_page h (by omega)
