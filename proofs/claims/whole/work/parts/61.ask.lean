/-! ===== shifts and masks; questions that one look answers ===== -/
theorem bn_of {n : Nat} (h : n < 2147483648) : (Int32.ofInt (n : Int)).toBitVec.toNat = n := by
  rw [Int32.toBitVec_ofInt, BitVec.ofInt_natCast, BitVec.toNat_ofNat]
  omega
theorem bn_inj {x : Int32} {n : Nat} (h : n < 2147483648) (hx : x.toBitVec.toNat = n) : x = Int32.ofInt (n : Int) := by
  apply Int32.toBitVec_inj.mp
  apply BitVec.eq_of_toNat_eq
  rw [hx, bn_of h]
theorem n_shr {n b : Nat} (h : n < 2147483648) (hb : b < 32) : Int32.ofInt (n : Int) >>> (Int32.ofInt (b : Int) &&& 31) = Int32.ofInt ((n / 2 ^ b : Nat) : Int) := by
  apply Int32.toInt_inj.mp
  have h1 : n / 2 ^ b ≤ n := Nat.div_le_self _ _
  have e : (Int32.ofInt (n : Int) >>> (Int32.ofInt (b : Int) &&& 31)).toInt = (Int32.ofInt (n : Int)).toInt >>> b := by
    show (Int32.ofInt (n : Int) >>> (Int32.ofInt (b : Int) &&& 31)).toBitVec.toInt = _
    rw [Int32.toBitVec_shiftRight, BitVec.sshiftRight', sh_b b hb, BitVec.toInt_sshiftRight]
    rfl
  rw [e, i_toInt (by omega) (by omega), Int.shiftRight_eq_div_pow]
  obtain ⟨q, hq⟩ : ∃ q, q = n / 2 ^ b := ⟨_, rfl⟩
  rw [← hq] at h1 ⊢
  rw [i_toInt (by omega) (by omega), hq]
  simp
theorem n_and {n : Nat} (b : Nat) (h : n < 2147483648) (hb : b < 31) : Int32.ofInt (n : Int) &&& Int32.ofInt ((2 ^ b - 1 : Nat) : Int) = Int32.ofInt ((n % 2 ^ b : Nat) : Int) := by
  have h2 : 2 ^ b ≤ 2 ^ 30 := Nat.pow_le_pow_right (by omega) (by omega)
  have h3 : n % 2 ^ b ≤ n := Nat.mod_le _ _
  refine bn_inj (by omega) ?_
  rw [Int32.toBitVec_and, BitVec.toNat_and, bn_of h, bn_of (by omega), Nat.and_two_pow_sub_one_eq_mod]
theorem n_shl {n b : Nat} (hb : b < 32) (h : n * 2 ^ b < 2147483648) : Int32.ofInt (n : Int) <<< (Int32.ofInt (b : Int) &&& 31) = Int32.ofInt ((n * 2 ^ b : Nat) : Int) := by
  have h1 : n ≤ n * 2 ^ b := Nat.le_mul_of_pos_right _ (Nat.pow_pos (by omega))
  refine bn_inj h ?_
  have e : (Int32.ofInt (n : Int) <<< (Int32.ofInt (b : Int) &&& 31)).toBitVec = (Int32.ofInt (n : Int)).toBitVec <<< ((Int32.ofInt (b : Int) &&& 31).toBitVec.smod 32) := Int32.toBitVec_shiftLeft ..
  rw [e, BitVec.shiftLeft_eq', BitVec.toNat_shiftLeft, sh_b b hb, bn_of (by omega), Nat.shiftLeft_eq]
  omega
theorem n_or {a c : Nat} (b : Nat) (hc : c < 2 ^ b) (h : a * 2 ^ b + c < 2147483648) : Int32.ofInt ((a * 2 ^ b : Nat) : Int) ||| Int32.ofInt (c : Int) = Int32.ofInt ((a * 2 ^ b + c : Nat) : Int) := by
  refine bn_inj h ?_
  rw [Int32.toBitVec_or, BitVec.toNat_or, bn_of (by omega), bn_of (by omega), ← Nat.shiftLeft_eq, ← Nat.shiftLeft_add_eq_or_of_lt hc]
theorem i_255 (x : Int32) : 0 ≤ (x &&& Int32.ofInt 255).toInt ∧ (x &&& Int32.ofInt 255).toInt ≤ 255 := by
  have h : (x &&& Int32.ofInt 255).toBitVec.toNat ≤ 255 := by
    rw [Int32.toBitVec_and, BitVec.toNat_and]
    exact Nat.and_le_right
  have e : (x &&& Int32.ofInt 255).toInt = ((x &&& Int32.ofInt 255).toBitVec.toNat : Int) := BitVec.toInt_eq_toNat_of_lt (by omega)
  omega
section PMS
variable {T : yK} {S : yS}
theorem pm_fault (h : Rel T S) (v0 : Int32) : PM0 S (fX11_fault v0) (fX12_fault v0) := by
  obtain ⟨h1, h2, -⟩ := h.2.2.2.2.2.1
  unfold PM0 fX11_fault fX12_fault
  rw [h1, h2]
  by_cases e0 : v0 = 0
  · exact ⟨_, h_neg (fun q => q e0) rfl, h_neg (fun q => q e0) rfl⟩
  · by_cases e1 : v0 = Int32.ofInt 1
    · exact ⟨_, h_pos e0 (h_neg (fun q => q e1) rfl), h_pos e0 (h_neg (fun q => q e1) rfl)⟩
    · exact ⟨_, h_pos e0 (h_pos e1 rfl), h_pos e0 (h_pos e1 rfl)⟩
theorem pm_is (h : Rel T S) (v0 : Int32) : PM0 S (fX11_is v0) (fX12_is v0) := by
  obtain ⟨a, a1, a2, rfl⟩ := i_ex v0
  unfold PM0 fX11_is fX12_is
  by_cases ha : 0 ≤ a ∧ a ≤ 4
  · have hc : a = 0 ∨ a = 1 ∨ a = 2 ∨ a = 3 ∨ a = 4 := by omega
    rcases hc with rfl | rfl | rfl | rfl | rfl
    · exact ⟨_, rfl, (congrArg some ((rv_eq S 266 6).trans (C_day h).symm))⟩
    · exact ⟨_, rfl, (congrArg some ((rv_eq S 266 7).trans (C_x h).symm))⟩
    · exact ⟨_, rfl, (congrArg some ((rv_eq S 266 8).trans (C_fund h).symm))⟩
    · exact ⟨_, rfl, (congrArg some ((rv_eq S 266 9).trans (C_cnt h).symm))⟩
    · exact ⟨_, rfl, (congrArg some ((rv_eq S 266 10).trans (C_thg h).symm))⟩
  · refine ⟨Int32.ofInt (-100000), ?_, ?_⟩
    · exact h_neg (by first | omega | ((simp (disch := omega) only [i0, i1, i_lt, i_le, i_eq, i_add, i_sub, i_mul, i_neg, i_ofNat, i_rem, i_div, w_in, w_in2, w_cnt, w_cnt2, z01, z01', il, li, lc_ge, lc_le, lc_gt, lc_lt, lc_eq, l_ofNat, l0, l_eq, l_lt, l_le]) <;> omega)) (h_neg (by first | omega | ((simp (disch := omega) only [i0, i1, i_lt, i_le, i_eq, i_add, i_sub, i_mul, i_neg, i_ofNat, i_rem, i_div, w_in, w_in2, w_cnt, w_cnt2, z01, z01', il, li, lc_ge, lc_le, lc_gt, lc_lt, lc_eq, l_ofNat, l0, l_eq, l_lt, l_le]) <;> omega)) (h_neg (by first | omega | ((simp (disch := omega) only [i0, i1, i_lt, i_le, i_eq, i_add, i_sub, i_mul, i_neg, i_ofNat, i_rem, i_div, w_in, w_in2, w_cnt, w_cnt2, z01, z01', il, li, lc_ge, lc_le, lc_gt, lc_lt, lc_eq, l_ofNat, l0, l_eq, l_lt, l_le]) <;> omega)) (h_neg (by first | omega | ((simp (disch := omega) only [i0, i1, i_lt, i_le, i_eq, i_add, i_sub, i_mul, i_neg, i_ofNat, i_rem, i_div, w_in, w_in2, w_cnt, w_cnt2, z01, z01', il, li, lc_ge, lc_le, lc_gt, lc_lt, lc_eq, l_ofNat, l0, l_eq, l_lt, l_le]) <;> omega)) (h_neg (by first | omega | ((simp (disch := omega) only [i0, i1, i_lt, i_le, i_eq, i_add, i_sub, i_mul, i_neg, i_ofNat, i_rem, i_div, w_in, w_in2, w_cnt, w_cnt2, z01, z01', il, li, lc_ge, lc_le, lc_gt, lc_lt, lc_eq, l_ofNat, l0, l_eq, l_lt, l_le]) <;> omega)) rfl))))
    · exact h_pos (by first | omega | ((simp (disch := omega) only [i0, i1, i_lt, i_le, i_eq, i_add, i_sub, i_mul, i_neg, i_ofNat, i_rem, i_div, w_in, w_in2, w_cnt, w_cnt2, z01, z01', il, li, lc_ge, lc_le, lc_gt, lc_lt, lc_eq, l_ofNat, l0, l_eq, l_lt, l_le]) <;> omega)) rfl
theorem pm_things (h : Rel T S) (v0 : Int32) : PM0 S (fX11_things v0) (fX12_things v0) := by
  obtain ⟨a, a1, a2, rfl⟩ := i_ex v0
  unfold PM0 fX11_things fX12_things
  by_cases ha : 0 ≤ a ∧ a ≤ 8
  · obtain ⟨k, rfl⟩ := Int.eq_ofNat_of_zero_le ha.1
    refine ⟨Int32.ofInt (rv S 266 (45 + k)), ?_, ?_⟩
    · refine h_neg (by first | omega | ((simp (disch := omega) only [i0, i1, i_lt, i_le, i_eq, i_add, i_sub, i_mul, i_neg, i_ofNat, i_rem, i_div, w_in, w_in2, w_cnt, w_cnt2, z01, z01', il, li, lc_ge, lc_le, lc_gt, lc_lt, lc_eq, l_ofNat, l0, l_eq, l_lt, l_le]) <;> omega)) (h_ainN (by omega) (by omega) ?_)
      rw [C_rhy h (by omega)]
    · rw [i_add, show (45 : Int) + (k : Int) = ((45 + k : Nat) : Int) by omega]
      refine h_neg (by first | omega | ((simp (disch := omega) only [i0, i1, i_lt, i_le, i_eq, i_add, i_sub, i_mul, i_neg, i_ofNat, i_rem, i_div, w_in, w_in2, w_cnt, w_cnt2, z01, z01', il, li, lc_ge, lc_le, lc_gt, lc_lt, lc_eq, l_ofNat, l0, l_eq, l_lt, l_le]) <;> omega)) (h_ainN (by omega) (by omega) ?_)
      rw [rv_eq]
  · refine ⟨Int32.ofInt (-1), ?_, ?_⟩
    · exact h_pos (by first | omega | ((simp (disch := omega) only [i0, i1, i_lt, i_le, i_eq, i_add, i_sub, i_mul, i_neg, i_ofNat, i_rem, i_div, w_in, w_in2, w_cnt, w_cnt2, z01, z01', il, li, lc_ge, lc_le, lc_gt, lc_lt, lc_eq, l_ofNat, l0, l_eq, l_lt, l_le]) <;> omega)) rfl
    · exact h_pos (by first | omega | ((simp (disch := omega) only [i0, i1, i_lt, i_le, i_eq, i_add, i_sub, i_mul, i_neg, i_ofNat, i_rem, i_div, w_in, w_in2, w_cnt, w_cnt2, z01, z01', il, li, lc_ge, lc_le, lc_gt, lc_lt, lc_eq, l_ofNat, l0, l_eq, l_lt, l_le]) <;> omega)) rfl
theorem pm_about (h : Rel T S) (v0 : Int32) : PM0 S (fX11_about v0) (fX12_about v0) := by
  obtain ⟨a, a1, a2, rfl⟩ := i_ex v0
  unfold PM0 fX11_about fX12_about
  obtain ⟨n, n1, n2, n3, -⟩ := h.2.2.2.2.1
  by_cases ha : 0 ≤ a ∧ a ≤ 6
  · have hc : a = 0 ∨ a = 1 ∨ a = 2 ∨ a = 3 ∨ a = 4 ∨ a = 5 ∨ a = 6 := by omega
    rcases hc with rfl | rfl | rfl | rfl | rfl | rfl | rfl
    · exact ⟨_, rfl, (congrArg some ((rv_eq S 266 0).trans (C_birds h).symm))⟩
    · exact ⟨_, rfl, (congrArg some ((rv_eq S 266 1).trans (C_texts h).symm))⟩
    · exact ⟨_, rfl, (congrArg some ((rv_eq S 266 2).trans (C_ruling h).symm))⟩
    · exact ⟨_, rfl, (congrArg some ((rv_eq S 266 3).trans (C_steps h).symm))⟩
    · exact ⟨_, rfl, (congrArg some ((rv_eq S 266 4).trans (C_morns h).symm))⟩
    · exact ⟨_, rfl, (congrArg some ((rv_eq S 266 5).trans (C_tolds h).symm))⟩
    · exact ⟨_, rfl, (congrArg some (n3.trans n2.symm))⟩
  · refine ⟨Int32.ofInt (-2), ?_, ?_⟩
    · exact h_neg (by first | omega | ((simp (disch := omega) only [i0, i1, i_lt, i_le, i_eq, i_add, i_sub, i_mul, i_neg, i_ofNat, i_rem, i_div, w_in, w_in2, w_cnt, w_cnt2, z01, z01', il, li, lc_ge, lc_le, lc_gt, lc_lt, lc_eq, l_ofNat, l0, l_eq, l_lt, l_le]) <;> omega)) (h_neg (by first | omega | ((simp (disch := omega) only [i0, i1, i_lt, i_le, i_eq, i_add, i_sub, i_mul, i_neg, i_ofNat, i_rem, i_div, w_in, w_in2, w_cnt, w_cnt2, z01, z01', il, li, lc_ge, lc_le, lc_gt, lc_lt, lc_eq, l_ofNat, l0, l_eq, l_lt, l_le]) <;> omega)) (h_neg (by first | omega | ((simp (disch := omega) only [i0, i1, i_lt, i_le, i_eq, i_add, i_sub, i_mul, i_neg, i_ofNat, i_rem, i_div, w_in, w_in2, w_cnt, w_cnt2, z01, z01', il, li, lc_ge, lc_le, lc_gt, lc_lt, lc_eq, l_ofNat, l0, l_eq, l_lt, l_le]) <;> omega)) (h_neg (by first | omega | ((simp (disch := omega) only [i0, i1, i_lt, i_le, i_eq, i_add, i_sub, i_mul, i_neg, i_ofNat, i_rem, i_div, w_in, w_in2, w_cnt, w_cnt2, z01, z01', il, li, lc_ge, lc_le, lc_gt, lc_lt, lc_eq, l_ofNat, l0, l_eq, l_lt, l_le]) <;> omega)) (h_neg (by first | omega | ((simp (disch := omega) only [i0, i1, i_lt, i_le, i_eq, i_add, i_sub, i_mul, i_neg, i_ofNat, i_rem, i_div, w_in, w_in2, w_cnt, w_cnt2, z01, z01', il, li, lc_ge, lc_le, lc_gt, lc_lt, lc_eq, l_ofNat, l0, l_eq, l_lt, l_le]) <;> omega)) (h_neg (by first | omega | ((simp (disch := omega) only [i0, i1, i_lt, i_le, i_eq, i_add, i_sub, i_mul, i_neg, i_ofNat, i_rem, i_div, w_in, w_in2, w_cnt, w_cnt2, z01, z01', il, li, lc_ge, lc_le, lc_gt, lc_lt, lc_eq, l_ofNat, l0, l_eq, l_lt, l_le]) <;> omega)) (h_neg (by first | omega | ((simp (disch := omega) only [i0, i1, i_lt, i_le, i_eq, i_add, i_sub, i_mul, i_neg, i_ofNat, i_rem, i_div, w_in, w_in2, w_cnt, w_cnt2, z01, z01', il, li, lc_ge, lc_le, lc_gt, lc_lt, lc_eq, l_ofNat, l0, l_eq, l_lt, l_le]) <;> omega)) rfl))))))
    · exact h_pos (by first | omega | ((simp (disch := omega) only [i0, i1, i_lt, i_le, i_eq, i_add, i_sub, i_mul, i_neg, i_ofNat, i_rem, i_div, w_in, w_in2, w_cnt, w_cnt2, z01, z01', il, li, lc_ge, lc_le, lc_gt, lc_lt, lc_eq, l_ofNat, l0, l_eq, l_lt, l_le]) <;> omega)) (h_pos (by first | omega | ((simp (disch := omega) only [i0, i1, i_lt, i_le, i_eq, i_add, i_sub, i_mul, i_neg, i_ofNat, i_rem, i_div, w_in, w_in2, w_cnt, w_cnt2, z01, z01', il, li, lc_ge, lc_le, lc_gt, lc_lt, lc_eq, l_ofNat, l0, l_eq, l_lt, l_le]) <;> omega)) rfl)
/-- a page, and what it tells -/
def pgV (v : Int) (w : Nat) : Int := if w = 0 then v / 18000 else if w = 1 then v / 2000 % 9 else if w = 2 then v / 200 % 10 else v % 200 - 100
theorem c_page (h : Rel T S) {k w : Nat} (hk : (k : Int) < rv S 266 11) (hw : w < 4) : fX2_onPage (Int32.ofInt k) (Int32.ofInt w) S = some (Int32.ofInt (pgV (rv S 266 (1313 + k)) w)) := by
  have hp := R_page h hk
  have h25 := R_pgs h
  unfold fX2_onPage
  refine h_ainN (by omega) (by omega) ?_
  rw [C_page h hk]
  generalize rv S 266 (1313 + k) = v at hp
  obtain ⟨p, hpp⟩ : ∃ p : Nat, pgC v = p := Int.eq_ofNat_of_zero_le (by unfold pgC; omega)
  rw [hpp]
  have hp2 : p < 2147483648 := by unfold pgC at hpp; omega
  have hc : w = 0 ∨ w = 1 ∨ w = 2 ∨ w = 3 := by omega
  unfold pgC at hpp
  rcases hc with rfl | rfl | rfl | rfl
  · refine h_pos rfl ?_
    rw [show Int32.ofInt 16 = Int32.ofInt ((16 : Nat) : Int) from rfl, n_shr hp2 (by omega)]
    unfold pgV
    rw [if_pos rfl]
    congr 2; (try simp only [Nat.reducePow]); omega
  · refine h_neg (by decide) (h_pos rfl ?_)
    rw [show Int32.ofInt 12 = Int32.ofInt ((12 : Nat) : Int) from rfl, n_shr hp2 (by omega), show Int32.ofInt 15 = Int32.ofInt ((2 ^ 4 - 1 : Nat) : Int) from rfl, n_and 4 (by omega) (by omega)]
    unfold pgV
    rw [if_neg (by omega), if_pos rfl]
    have b1 : 0 ≤ v / 2000 % 9 ∧ v / 2000 % 9 ≤ 8 := by omega
    have b2 : 0 ≤ v / 200 % 10 ∧ v / 200 % 10 ≤ 9 := by omega
    have b3 : 0 ≤ v % 200 - 1 ∧ v % 200 - 1 ≤ 198 := by omega
    generalize v / 2000 % 9 = cc at hpp b1 ⊢
    generalize v / 200 % 10 = tt at hpp b2
    generalize v % 200 - 1 = zz at hpp b3
    generalize v / 18000 = dd at hpp
    congr 2
    simp only [Nat.reducePow]
    have q1 : p / 4096 = (16 * dd + cc).toNat := by omega
    rw [q1]
    omega
  · refine h_neg (by decide) (h_neg (by decide) (h_pos rfl ?_))
    rw [show Int32.ofInt 8 = Int32.ofInt ((8 : Nat) : Int) from rfl, n_shr hp2 (by omega), show Int32.ofInt 15 = Int32.ofInt ((2 ^ 4 - 1 : Nat) : Int) from rfl, n_and 4 (by omega) (by omega)]
    unfold pgV
    rw [if_neg (by omega), if_neg (by omega), if_pos rfl]
    congr 2; (try simp only [Nat.reducePow]); omega
  · refine h_neg (by decide) (h_neg (by decide) (h_neg (by decide) ?_))
    rw [show Int32.ofInt 255 = Int32.ofInt ((2 ^ 8 - 1 : Nat) : Int) from rfl, n_and 8 (by omega) (by omega), i_sub]
    unfold pgV
    rw [if_neg (by omega), if_neg (by omega), if_neg (by omega)]
    congr 2; (try simp only [Nat.reducePow]); omega
theorem r_page (h : Rel T S) {k w : Nat} (hk : (k : Int) < rv S 266 11) (hw : w < 4) : fX12_lineOf (Int32.ofInt k) (Int32.ofInt w) S = some (Int32.ofInt (pgV (rv S 266 (1313 + k)) w)) := by
  have hp := R_page h hk
  have h25 := R_pgs h
  unfold fX12_lineOf
  rw [i_add, show (1313 : Int) + (k : Int) = ((1313 + k : Nat) : Int) by omega]
  refine h_ainN (by omega) (by omega) ?_
  rw [rv_eq]
  generalize rv S 266 (1313 + k) = v at hp
  have hc : w = 0 ∨ w = 1 ∨ w = 2 ∨ w = 3 := by omega
  rcases hc with rfl | rfl | rfl | rfl
  · refine h_neg (by decide) ?_
    rw [i_div (by omega) (by omega) (by omega) (by omega)]
    rfl
  · refine h_pos (by decide) (h_neg (by decide) ?_)
    rw [i_div (by omega) (by omega) (by omega) (by omega), i_rem (by omega) (by omega) (by omega) (by omega)]
    rfl
  · refine h_pos (by decide) (h_pos (by decide) (h_neg (by decide) ?_))
    rw [i_div (by omega) (by omega) (by omega) (by omega), i_rem (by omega) (by omega) (by omega) (by omega)]
    rfl
  · refine h_pos (by decide) (h_pos (by decide) (h_pos (by decide) ?_))
    rw [i_rem (by omega) (by omega) (by omega) (by omega), i_sub]
    rfl
theorem pm_book (h : Rel T S) (v0 v1 : Int32) : PM0 S (fX11_book v0 v1) (fX12_book v0 v1) := by
  obtain ⟨a, a1, a2, rfl⟩ := i_ex v0
  obtain ⟨b, b1, b2, rfl⟩ := i_ex v1
  have h25 := R_pgs h
  have cb := C_pgs h
  have rb := rv_eq S 266 11
  unfold PM0 fX11_book fX12_book
  rw [cb, rb, i_sub]
  by_cases hn : a = -1
  · exact ⟨_, h_neg (by first | omega | ((simp (disch := omega) only [i0, i1, i_lt, i_le, i_eq, i_add, i_sub, i_mul, i_neg, i_ofNat, i_rem, i_div, w_in, w_in2, w_cnt, w_cnt2, z01, z01', il, li, lc_ge, lc_le, lc_gt, lc_lt, lc_eq, l_ofNat, l0, l_eq, l_lt, l_le]) <;> omega)) rfl, h_neg (by first | omega | ((simp (disch := omega) only [i0, i1, i_lt, i_le, i_eq, i_add, i_sub, i_mul, i_neg, i_ofNat, i_rem, i_div, w_in, w_in2, w_cnt, w_cnt2, z01, z01', il, li, lc_ge, lc_le, lc_gt, lc_lt, lc_eq, l_ofNat, l0, l_eq, l_lt, l_le]) <;> omega)) rfl⟩
  · by_cases ha : 0 ≤ a ∧ a ≤ rv S 266 11 - 1
    · by_cases hb : 0 ≤ b ∧ b ≤ 3
      · obtain ⟨k, rfl⟩ := Int.eq_ofNat_of_zero_le ha.1
        obtain ⟨w, rfl⟩ := Int.eq_ofNat_of_zero_le hb.1
        refine ⟨Int32.ofInt (pgV (rv S 266 (1313 + k)) w), ?_, ?_⟩
        · refine h_pos (by first | omega | ((simp (disch := omega) only [i0, i1, i_lt, i_le, i_eq, i_add, i_sub, i_mul, i_neg, i_ofNat, i_rem, i_div, w_in, w_in2, w_cnt, w_cnt2, z01, z01', il, li, lc_ge, lc_le, lc_gt, lc_lt, lc_eq, l_ofNat, l0, l_eq, l_lt, l_le]) <;> omega)) (h_neg (by first | omega | ((simp (disch := omega) only [i0, i1, i_lt, i_le, i_eq, i_add, i_sub, i_mul, i_neg, i_ofNat, i_rem, i_div, w_in, w_in2, w_cnt, w_cnt2, z01, z01', il, li, lc_ge, lc_le, lc_gt, lc_lt, lc_eq, l_ofNat, l0, l_eq, l_lt, l_le]) <;> omega)) (h_pos (by first | omega | ((simp (disch := omega) only [i0, i1, i_lt, i_le, i_eq, i_add, i_sub, i_mul, i_neg, i_ofNat, i_rem, i_div, w_in, w_in2, w_cnt, w_cnt2, z01, z01', il, li, lc_ge, lc_le, lc_gt, lc_lt, lc_eq, l_ofNat, l0, l_eq, l_lt, l_le]) <;> omega)) ?_))
          exact h_bind (c_page h (by omega) (by omega)) rfl
        · refine h_pos (by first | omega | ((simp (disch := omega) only [i0, i1, i_lt, i_le, i_eq, i_add, i_sub, i_mul, i_neg, i_ofNat, i_rem, i_div, w_in, w_in2, w_cnt, w_cnt2, z01, z01', il, li, lc_ge, lc_le, lc_gt, lc_lt, lc_eq, l_ofNat, l0, l_eq, l_lt, l_le]) <;> omega)) (h_neg (by first | omega | ((simp (disch := omega) only [i0, i1, i_lt, i_le, i_eq, i_add, i_sub, i_mul, i_neg, i_ofNat, i_rem, i_div, w_in, w_in2, w_cnt, w_cnt2, z01, z01', il, li, lc_ge, lc_le, lc_gt, lc_lt, lc_eq, l_ofNat, l0, l_eq, l_lt, l_le]) <;> omega)) (h_neg (by first | omega | ((simp (disch := omega) only [i0, i1, i_lt, i_le, i_eq, i_add, i_sub, i_mul, i_neg, i_ofNat, i_rem, i_div, w_in, w_in2, w_cnt, w_cnt2, z01, z01', il, li, lc_ge, lc_le, lc_gt, lc_lt, lc_eq, l_ofNat, l0, l_eq, l_lt, l_le]) <;> omega)) ?_))
          exact h_bind (r_page h (by omega) (by omega)) rfl
      · refine ⟨Int32.ofInt (-1000), ?_, ?_⟩
        · exact h_pos (by first | omega | ((simp (disch := omega) only [i0, i1, i_lt, i_le, i_eq, i_add, i_sub, i_mul, i_neg, i_ofNat, i_rem, i_div, w_in, w_in2, w_cnt, w_cnt2, z01, z01', il, li, lc_ge, lc_le, lc_gt, lc_lt, lc_eq, l_ofNat, l0, l_eq, l_lt, l_le]) <;> omega)) (h_neg (by first | omega | ((simp (disch := omega) only [i0, i1, i_lt, i_le, i_eq, i_add, i_sub, i_mul, i_neg, i_ofNat, i_rem, i_div, w_in, w_in2, w_cnt, w_cnt2, z01, z01', il, li, lc_ge, lc_le, lc_gt, lc_lt, lc_eq, l_ofNat, l0, l_eq, l_lt, l_le]) <;> omega)) (h_neg (by first | omega | ((simp (disch := omega) only [i0, i1, i_lt, i_le, i_eq, i_add, i_sub, i_mul, i_neg, i_ofNat, i_rem, i_div, w_in, w_in2, w_cnt, w_cnt2, z01, z01', il, li, lc_ge, lc_le, lc_gt, lc_lt, lc_eq, l_ofNat, l0, l_eq, l_lt, l_le]) <;> omega)) rfl))
        · exact h_pos (by first | omega | ((simp (disch := omega) only [i0, i1, i_lt, i_le, i_eq, i_add, i_sub, i_mul, i_neg, i_ofNat, i_rem, i_div, w_in, w_in2, w_cnt, w_cnt2, z01, z01', il, li, lc_ge, lc_le, lc_gt, lc_lt, lc_eq, l_ofNat, l0, l_eq, l_lt, l_le]) <;> omega)) (h_neg (by first | omega | ((simp (disch := omega) only [i0, i1, i_lt, i_le, i_eq, i_add, i_sub, i_mul, i_neg, i_ofNat, i_rem, i_div, w_in, w_in2, w_cnt, w_cnt2, z01, z01', il, li, lc_ge, lc_le, lc_gt, lc_lt, lc_eq, l_ofNat, l0, l_eq, l_lt, l_le]) <;> omega)) (h_pos (by first | omega | ((simp (disch := omega) only [i0, i1, i_lt, i_le, i_eq, i_add, i_sub, i_mul, i_neg, i_ofNat, i_rem, i_div, w_in, w_in2, w_cnt, w_cnt2, z01, z01', il, li, lc_ge, lc_le, lc_gt, lc_lt, lc_eq, l_ofNat, l0, l_eq, l_lt, l_le]) <;> omega)) rfl))
    · refine ⟨Int32.ofInt (-1000), ?_, ?_⟩
      · exact h_pos (by first | omega | ((simp (disch := omega) only [i0, i1, i_lt, i_le, i_eq, i_add, i_sub, i_mul, i_neg, i_ofNat, i_rem, i_div, w_in, w_in2, w_cnt, w_cnt2, z01, z01', il, li, lc_ge, lc_le, lc_gt, lc_lt, lc_eq, l_ofNat, l0, l_eq, l_lt, l_le]) <;> omega)) (h_pos (by first | omega | ((simp (disch := omega) only [i0, i1, i_lt, i_le, i_eq, i_add, i_sub, i_mul, i_neg, i_ofNat, i_rem, i_div, w_in, w_in2, w_cnt, w_cnt2, z01, z01', il, li, lc_ge, lc_le, lc_gt, lc_lt, lc_eq, l_ofNat, l0, l_eq, l_lt, l_le]) <;> omega)) rfl)
      · exact h_pos (by first | omega | ((simp (disch := omega) only [i0, i1, i_lt, i_le, i_eq, i_add, i_sub, i_mul, i_neg, i_ofNat, i_rem, i_div, w_in, w_in2, w_cnt, w_cnt2, z01, z01', il, li, lc_ge, lc_le, lc_gt, lc_lt, lc_eq, l_ofNat, l0, l_eq, l_lt, l_le]) <;> omega)) (h_pos (by first | omega | ((simp (disch := omega) only [i0, i1, i_lt, i_le, i_eq, i_add, i_sub, i_mul, i_neg, i_ofNat, i_rem, i_div, w_in, w_in2, w_cnt, w_cnt2, z01, z01', il, li, lc_ge, lc_le, lc_gt, lc_lt, lc_eq, l_ofNat, l0, l_eq, l_lt, l_le]) <;> omega)) rfl)
def ledS (A : Nat → Int) (a : Int) : Nat → Nat → Int → Int
  | _, 0, x => x
  | i, m + 1, x => ledS A a (i + 1) m (if pgV (A (1313 + i)) 2 = a then x + 1 else x)
theorem pgV_rng {v : Int} (h : 0 ≤ v ∧ v < 180000000 ∧ 1 ≤ v % 200) : 0 ≤ pgV v 2 ∧ pgV v 2 ≤ 9 := by
  unfold pgV
  rw [if_neg (by omega), if_neg (by omega), if_pos rfl]
  omega
theorem c_ledger (h : Rel T S) {N : Nat} {a : Int} (ha : 0 ≤ a ∧ a ≤ 9) : ∀ (m n i : Nat) (x : Int), (i : Int) + m = rv S 266 11 → m < n → 0 ≤ x → x + m ≤ 100 → lX2_countWritten N n (Int32.ofInt a) (Int32.ofInt x) (Int32.ofInt i) S = some (Int32.ofInt (ledS (rv S 266) a i m x))
  | 0, n + 1, i, x, hm, _, _, _ => by
    have h25 := R_pgs h
    rw [lX2_countWritten, C_pgs h]
    exact h_pos (by first | omega | ((simp (disch := omega) only [i0, i1, i_lt, i_le, i_eq, i_add, i_sub, i_mul, i_neg, i_ofNat, i_rem, i_div, w_in, w_in2, w_cnt, w_cnt2, z01, z01', il, li, lc_ge, lc_le, lc_gt, lc_lt, lc_eq, l_ofNat, l0, l_eq, l_lt, l_le]) <;> omega)) rfl
  | m + 1, n + 1, i, x, hm, hn, h0, h1 => by
    have h25 := R_pgs h
    have hr := pgV_rng (R_page h (show (i : Int) < rv S 266 11 by omega))
    rw [lX2_countWritten, C_pgs h]
    refine h_neg (by first | omega | ((simp (disch := omega) only [i0, i1, i_lt, i_le, i_eq, i_add, i_sub, i_mul, i_neg, i_ofNat, i_rem, i_div, w_in, w_in2, w_cnt, w_cnt2, z01, z01', il, li, lc_ge, lc_le, lc_gt, lc_lt, lc_eq, l_ofNat, l0, l_eq, l_lt, l_le]) <;> omega)) ?_
    refine h_bind (c_page (w := 2) h (by omega) (by omega)) ?_
    rw [i_add, i_add, show (i : Int) + 1 = ((i + 1 : Nat) : Int) by omega]
    unfold ledS
    by_cases hc : pgV (rv S 266 (1313 + i)) 2 = a
    · rw [if_pos hc]
      exact h_neg (by first | omega | ((simp (disch := omega) only [i0, i1, i_lt, i_le, i_eq, i_add, i_sub, i_mul, i_neg, i_ofNat, i_rem, i_div, w_in, w_in2, w_cnt, w_cnt2, z01, z01', il, li, lc_ge, lc_le, lc_gt, lc_lt, lc_eq, l_ofNat, l0, l_eq, l_lt, l_le]) <;> omega)) (c_ledger h ha m n (i + 1) (x + 1) (by omega) (by omega) (by omega) (by omega))
    · rw [if_neg hc]
      exact h_pos (by first | omega | ((simp (disch := omega) only [i0, i1, i_lt, i_le, i_eq, i_add, i_sub, i_mul, i_neg, i_ofNat, i_rem, i_div, w_in, w_in2, w_cnt, w_cnt2, z01, z01', il, li, lc_ge, lc_le, lc_gt, lc_lt, lc_eq, l_ofNat, l0, l_eq, l_lt, l_le]) <;> omega)) (c_ledger h ha m n (i + 1) x (by omega) (by omega) (by omega) (by omega))
theorem r_ledger (h : Rel T S) {N : Nat} {a : Int} (ha : 0 ≤ a ∧ a ≤ 9) : ∀ (m n i : Nat) (x : Int), (i : Int) + m = rv S 266 11 → m < n → 0 ≤ x → x + m ≤ 100 → lX12_ledger N n (Int32.ofInt a) (Int32.ofInt x) (Int32.ofInt i) S = some (Int32.ofInt (ledS (rv S 266) a i m x))
  | 0, n + 1, i, x, hm, _, _, _ => by
    have h25 := R_pgs h
    rw [lX12_ledger, rv_eq S 266 11]
    exact h_pos (by first | omega | ((simp (disch := omega) only [i0, i1, i_lt, i_le, i_eq, i_add, i_sub, i_mul, i_neg, i_ofNat, i_rem, i_div, w_in, w_in2, w_cnt, w_cnt2, z01, z01', il, li, lc_ge, lc_le, lc_gt, lc_lt, lc_eq, l_ofNat, l0, l_eq, l_lt, l_le]) <;> omega)) rfl
  | m + 1, n + 1, i, x, hm, hn, h0, h1 => by
    have h25 := R_pgs h
    have hr := pgV_rng (R_page h (show (i : Int) < rv S 266 11 by omega))
    rw [lX12_ledger, rv_eq S 266 11]
    refine h_neg (by first | omega | ((simp (disch := omega) only [i0, i1, i_lt, i_le, i_eq, i_add, i_sub, i_mul, i_neg, i_ofNat, i_rem, i_div, w_in, w_in2, w_cnt, w_cnt2, z01, z01', il, li, lc_ge, lc_le, lc_gt, lc_lt, lc_eq, l_ofNat, l0, l_eq, l_lt, l_le]) <;> omega)) ?_
    refine h_bind (r_page (w := 2) h (by omega) (by omega)) ?_
    rw [i_add, i_add, i_add, show (i : Int) + 1 = ((i + 1 : Nat) : Int) by omega, Int.add_zero]
    unfold ledS
    by_cases hc : pgV (rv S 266 (1313 + i)) 2 = a
    · rw [if_pos hc]
      exact h_neg (by first | omega | ((simp (disch := omega) only [i0, i1, i_lt, i_le, i_eq, i_add, i_sub, i_mul, i_neg, i_ofNat, i_rem, i_div, w_in, w_in2, w_cnt, w_cnt2, z01, z01', il, li, lc_ge, lc_le, lc_gt, lc_lt, lc_eq, l_ofNat, l0, l_eq, l_lt, l_le]) <;> omega)) (r_ledger h ha m n (i + 1) (x + 1) (by omega) (by omega) (by omega) (by omega))
    · rw [if_neg hc]
      exact h_pos (by first | omega | ((simp (disch := omega) only [i0, i1, i_lt, i_le, i_eq, i_add, i_sub, i_mul, i_neg, i_ofNat, i_rem, i_div, w_in, w_in2, w_cnt, w_cnt2, z01, z01', il, li, lc_ge, lc_le, lc_gt, lc_lt, lc_eq, l_ofNat, l0, l_eq, l_lt, l_le]) <;> omega)) (r_ledger h ha m n (i + 1) x (by omega) (by omega) (by omega) (by omega))
theorem pm_ledger (h : Rel T S) {N : Nat} (hN : 2000000 ≤ N) (v0 : Int32) : PM0 S (fX11_ledger N v0) (fX12_ledger N v0) := by
  obtain ⟨a, a1, a2, rfl⟩ := i_ex v0
  have h25 := R_pgs h
  unfold PM0 fX11_ledger fX12_ledger fX2_countWritten
  by_cases ha : 0 ≤ a ∧ a ≤ 9
  · obtain ⟨m, hm⟩ := Int.eq_ofNat_of_zero_le h25.1
    refine ⟨_, h_neg (by first | omega | ((simp (disch := omega) only [i0, i1, i_lt, i_le, i_eq, i_add, i_sub, i_mul, i_neg, i_ofNat, i_rem, i_div, w_in, w_in2, w_cnt, w_cnt2, z01, z01', il, li, lc_ge, lc_le, lc_gt, lc_lt, lc_eq, l_ofNat, l0, l_eq, l_lt, l_le]) <;> omega)) (h_bind (c_ledger h ha m N 0 0 (by omega) (by omega) (by omega) (by omega)) rfl), h_pos (by first | omega | ((simp (disch := omega) only [i0, i1, i_lt, i_le, i_eq, i_add, i_sub, i_mul, i_neg, i_ofNat, i_rem, i_div, w_in, w_in2, w_cnt, w_cnt2, z01, z01', il, li, lc_ge, lc_le, lc_gt, lc_lt, lc_eq, l_ofNat, l0, l_eq, l_lt, l_le]) <;> omega)) (r_ledger h ha m N 0 0 (by omega) (by omega) (by omega) (by omega))⟩
  · exact ⟨_, h_pos (by first | omega | ((simp (disch := omega) only [i0, i1, i_lt, i_le, i_eq, i_add, i_sub, i_mul, i_neg, i_ofNat, i_rem, i_div, w_in, w_in2, w_cnt, w_cnt2, z01, z01', il, li, lc_ge, lc_le, lc_gt, lc_lt, lc_eq, l_ofNat, l0, l_eq, l_lt, l_le]) <;> omega)) rfl, h_neg (by first | omega | ((simp (disch := omega) only [i0, i1, i_lt, i_le, i_eq, i_add, i_sub, i_mul, i_neg, i_ofNat, i_rem, i_div, w_in, w_in2, w_cnt, w_cnt2, z01, z01', il, li, lc_ge, lc_le, lc_gt, lc_lt, lc_eq, l_ofNat, l0, l_eq, l_lt, l_le]) <;> omega)) rfl⟩
def eldS (A : Nat → Int) : Nat → Nat → Int → Int
  | _, 0, f => f
  | b, m + 1, f => if A (13 + b) ≤ (if f = -1 then 0 else A (13 + f.toNat)) then eldS A (b + 1) m f else eldS A (b + 1) m b
theorem c_eldest (h : Rel T S) {N : Nat} : ∀ (m n b : Nat) (f : Int), (b : Int) + m = rv S 266 0 → m < n → (f = -1 ∨ (0 ≤ f ∧ f < b)) → lX11_eldest N n (Int32.ofInt f) (Int32.ofInt (if f = -1 then 0 else rv S 266 (13 + f.toNat))) (Int32.ofInt b) S = some (Int32.ofInt (eldS (rv S 266) b m f))
  | 0, n + 1, b, f, hm, _, _ => by
    have h8 := R_i0 h
    rw [lX11_eldest, C_birds h]
    exact h_pos (by first | omega | ((simp (disch := omega) only [i0, i1, i_lt, i_le, i_eq, i_add, i_sub, i_mul, i_neg, i_ofNat, i_rem, i_div, w_in, w_in2, w_cnt, w_cnt2, z01, z01', il, li, lc_ge, lc_le, lc_gt, lc_lt, lc_eq, l_ofNat, l0, l_eq, l_lt, l_le]) <;> omega)) rfl
  | m + 1, n + 1, b, f, hm, hn, hf => by
    have h8 := R_i0 h
    have hr := R_came h (show b < 8 by omega)
    have hr2 : 0 ≤ (if f = -1 then 0 else rv S 266 (13 + f.toNat)) ∧ (if f = -1 then 0 else rv S 266 (13 + f.toNat)) ≤ 9999 := by
      split
      · omega
      · exact R_came h (by omega)
    rw [lX11_eldest, C_birds h]
    refine h_neg (by first | omega | ((simp (disch := omega) only [i0, i1, i_lt, i_le, i_eq, i_add, i_sub, i_mul, i_neg, i_ofNat, i_rem, i_div, w_in, w_in2, w_cnt, w_cnt2, z01, z01', il, li, lc_ge, lc_le, lc_gt, lc_lt, lc_eq, l_ofNat, l0, l_eq, l_lt, l_le]) <;> omega)) ?_
    refine h_ainN (by omega) (by omega) ?_
    rw [C_came h (by omega), i_add, show (b : Int) + 1 = ((b + 1 : Nat) : Int) by omega]
    unfold eldS
    by_cases hc : rv S 266 (13 + b) ≤ (if f = -1 then 0 else rv S 266 (13 + f.toNat))
    · rw [if_pos hc]
      exact h_pos (by first | omega | ((simp (disch := omega) only [i0, i1, i_lt, i_le, i_eq, i_add, i_sub, i_mul, i_neg, i_ofNat, i_rem, i_div, w_in, w_in2, w_cnt, w_cnt2, z01, z01', il, li, lc_ge, lc_le, lc_gt, lc_lt, lc_eq, l_ofNat, l0, l_eq, l_lt, l_le]) <;> omega)) (c_eldest h m n (b + 1) f (by omega) (by omega) (by omega))
    · rw [if_neg hc]
      refine h_neg (by first | omega | ((simp (disch := omega) only [i0, i1, i_lt, i_le, i_eq, i_add, i_sub, i_mul, i_neg, i_ofNat, i_rem, i_div, w_in, w_in2, w_cnt, w_cnt2, z01, z01', il, li, lc_ge, lc_le, lc_gt, lc_lt, lc_eq, l_ofNat, l0, l_eq, l_lt, l_le]) <;> omega)) ?_
      refine h_ainN (by omega) (by omega) ?_
      have := c_eldest h (N := N) m n (b + 1) b (by omega) (by omega) (by omega)
      rw [if_neg (by omega), Int.toNat_natCast] at this
      rw [C_came h (by omega)]
      exact this
theorem r_eldest (h : Rel T S) {N : Nat} : ∀ (m n b : Nat) (f : Int), (b : Int) + m = rv S 266 0 → m < n → (f = -1 ∨ (0 ≤ f ∧ f < b)) → lX12_eldest N n (Int32.ofInt f) (Int32.ofInt b) S = some (Int32.ofInt (eldS (rv S 266) b m f))
  | 0, n + 1, b, f, hm, _, _ => by
    have h8 := R_i0 h
    rw [lX12_eldest, rv_eq S 266 0]
    exact h_pos (by first | omega | ((simp (disch := omega) only [i0, i1, i_lt, i_le, i_eq, i_add, i_sub, i_mul, i_neg, i_ofNat, i_rem, i_div, w_in, w_in2, w_cnt, w_cnt2, z01, z01', il, li, lc_ge, lc_le, lc_gt, lc_lt, lc_eq, l_ofNat, l0, l_eq, l_lt, l_le]) <;> omega)) rfl
  | m + 1, n + 1, b, f, hm, hn, hf => by
    have h8 := R_i0 h
    have hr := R_came h (show b < 8 by omega)
    rw [lX12_eldest, rv_eq S 266 0]
    refine h_neg (by first | omega | ((simp (disch := omega) only [i0, i1, i_lt, i_le, i_eq, i_add, i_sub, i_mul, i_neg, i_ofNat, i_rem, i_div, w_in, w_in2, w_cnt, w_cnt2, z01, z01', il, li, lc_ge, lc_le, lc_gt, lc_lt, lc_eq, l_ofNat, l0, l_eq, l_lt, l_le]) <;> omega)) ?_
    simp only [i_add]
    rw [show (b : Int) + 1 = ((b + 1 : Nat) : Int) by omega, show (13 : Int) + (b : Int) = ((13 + b : Nat) : Int) by omega]
    refine h_ainN (by omega) (by omega) ?_
    rw [rv_eq S 266 (13 + b)]
    unfold eldS
    by_cases hm1 : f = -1
    · rw [if_pos hm1]
      refine h_neg (by first | omega | ((simp (disch := omega) only [i0, i1, i_lt, i_le, i_eq, i_add, i_sub, i_mul, i_neg, i_ofNat, i_rem, i_div, w_in, w_in2, w_cnt, w_cnt2, z01, z01', il, li, lc_ge, lc_le, lc_gt, lc_lt, lc_eq, l_ofNat, l0, l_eq, l_lt, l_le]) <;> omega)) ?_
      by_cases hc : rv S 266 (13 + b) ≤ 0
      · rw [if_pos hc]
        exact h_pos (by first | omega | ((simp (disch := omega) only [i0, i1, i_lt, i_le, i_eq, i_add, i_sub, i_mul, i_neg, i_ofNat, i_rem, i_div, w_in, w_in2, w_cnt, w_cnt2, z01, z01', il, li, lc_ge, lc_le, lc_gt, lc_lt, lc_eq, l_ofNat, l0, l_eq, l_lt, l_le]) <;> omega)) (r_eldest h m n (b + 1) f (by omega) (by omega) (by omega))
      · rw [if_neg hc]
        exact h_neg (by first | omega | ((simp (disch := omega) only [i0, i1, i_lt, i_le, i_eq, i_add, i_sub, i_mul, i_neg, i_ofNat, i_rem, i_div, w_in, w_in2, w_cnt, w_cnt2, z01, z01', il, li, lc_ge, lc_le, lc_gt, lc_lt, lc_eq, l_ofNat, l0, l_eq, l_lt, l_le]) <;> omega)) (r_eldest h m n (b + 1) b (by omega) (by omega) (by omega))
    · rw [if_neg hm1]
      obtain ⟨k, rfl⟩ := Int.eq_ofNat_of_zero_le (show 0 ≤ f by omega)
      have hr2 := R_came h (show k < 8 by omega)
      refine h_pos (by first | omega | ((simp (disch := omega) only [i0, i1, i_lt, i_le, i_eq, i_add, i_sub, i_mul, i_neg, i_ofNat, i_rem, i_div, w_in, w_in2, w_cnt, w_cnt2, z01, z01', il, li, lc_ge, lc_le, lc_gt, lc_lt, lc_eq, l_ofNat, l0, l_eq, l_lt, l_le]) <;> omega)) ?_
      rw [show (13 : Int) + (k : Int) = ((13 + k : Nat) : Int) by omega]
      refine h_ainN (by omega) (by omega) ?_
      rw [rv_eq S 266 (13 + k), Int.toNat_natCast]
      by_cases hc : rv S 266 (13 + b) ≤ rv S 266 (13 + k)
      · rw [if_pos hc]
        exact h_pos (by first | omega | ((simp (disch := omega) only [i0, i1, i_lt, i_le, i_eq, i_add, i_sub, i_mul, i_neg, i_ofNat, i_rem, i_div, w_in, w_in2, w_cnt, w_cnt2, z01, z01', il, li, lc_ge, lc_le, lc_gt, lc_lt, lc_eq, l_ofNat, l0, l_eq, l_lt, l_le]) <;> omega)) (r_eldest h m n (b + 1) k (by omega) (by omega) (by omega))
      · rw [if_neg hc]
        exact h_neg (by first | omega | ((simp (disch := omega) only [i0, i1, i_lt, i_le, i_eq, i_add, i_sub, i_mul, i_neg, i_ofNat, i_rem, i_div, w_in, w_in2, w_cnt, w_cnt2, z01, z01', il, li, lc_ge, lc_le, lc_gt, lc_lt, lc_eq, l_ofNat, l0, l_eq, l_lt, l_le]) <;> omega)) (r_eldest h m n (b + 1) b (by omega) (by omega) (by omega))
theorem pm_eldest (h : Rel T S) {N : Nat} (hN : 2000000 ≤ N) : PM0 S (fX11_eldest N) (fX12_eldest N) := by
  have h8 := R_i0 h
  obtain ⟨m, hm⟩ := Int.eq_ofNat_of_zero_le h8.1
  exact ⟨_, c_eldest h m N 0 (-1) (by omega) (by omega) (Or.inl rfl), r_eldest h m N 0 (-1) (by omega) (by omega) (Or.inl rfl)⟩
end PMS
