/-! ===== the book, by the row ===== -/
def wrA (A : Nat → Int) (v : Int) : Nat → Int := if A 11 < 25 then rU (rU A (1313 + (A 11).toNat) v) 11 (A 11 + 1) else fun k => if 1313 ≤ k ∧ k < 1337 then A (k + 1) else if k = 1337 then v else A k
theorem wrA_o {A : Nat → Int} {v : Int} {k : Nat} (h : rI A) (hk : k < 1313) (h2 : k ≠ 11) : wrA A v k = A k := by
  have h5 := I_pgs h
  unfold wrA
  by_cases q : A 11 < 25
  · rw [if_pos q, rU_ne h2, rU_ne (by omega)]
  · rw [if_neg q, if_neg (by omega), if_neg (by omega)]
theorem wrA_now {A : Nat → Int} {v : Int} (h : rI A) : ∀ k, ¬ nowP k → wrA A v k = A k := by
  have h5 := I_pgs h
  intro k hk
  unfold nowP at hk
  unfold wrA
  by_cases q : A 11 < 25
  · rw [if_pos q, rU_ne (by omega), rU_ne (by omega)]
  · rw [if_neg q, if_neg (by omega), if_neg (by omega)]
theorem wrA_11 {A : Nat → Int} {v : Int} (h : rI A) : wrA A v 11 = min (A 11 + 1) 25 := by
  have h5 := I_pgs h
  unfold wrA
  by_cases q : A 11 < 25
  · rw [if_pos q, rU_eq]; omega
  · rw [if_neg q, if_neg (by omega), if_neg (by omega)]; omega
