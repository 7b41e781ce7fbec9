/-! ===== undo, thin, call, grant ===== -/
theorem b_or : ∀ g : Nat, g < 256 → ∀ b : Nat, b < 8 → Int32.ofInt (g : Int) ||| (Int32.ofInt 1 <<< (Int32.ofInt (b : Int) &&& 31)) = Int32.ofInt ((g ||| 2 ^ b : Nat) : Int) := by decide +kernel
def clN (g b : Nat) : Nat := if g.testBit b then g - 2 ^ b else g
theorem b_andn : ∀ g : Nat, g < 256 → ∀ b : Nat, b < 8 → Int32.ofInt (g : Int) &&& ((Int32.ofInt 1 <<< (Int32.ofInt (b : Int) &&& 31)) ^^^ Int32.ofInt (-1)) = Int32.ofInt ((clN g b : Nat) : Int) := by decide +kernel
theorem b_xor : ∀ g : Nat, g < 256 → ∀ b : Nat, b < 8 → g.testBit b = true → Int32.ofInt (g : Int) ^^^ (Int32.ofInt 1 <<< (Int32.ofInt (b : Int) &&& 31)) = Int32.ofInt ((clN g b : Nat) : Int) := by decide +kernel
theorem b_same : ∀ g : Nat, g < 256 → ∀ b : Nat, b < 8 → g.testBit b = true → g ||| 2 ^ b = g := by decide +kernel
theorem or_lt {g b B : Nat} (hg : g < 2 ^ B) (hb : b < B) : g ||| 2 ^ b < 2 ^ B := Nat.or_lt_two_pow hg (Nat.pow_lt_pow_right (by omega) hb)
theorem clN_le (g b : Nat) : clN g b ≤ g := by
  unfold clN
  split
  · exact Nat.sub_le _ _
  · exact Nat.le_refl _
def hbB (A : Nat → Int) (v : Int) : Bool := decide (0 ≤ v ∧ v < A 0)
def thB (A : Nat → Int) (v : Int) : Bool := hbB A v && !(tb (Int32.ofInt (A 12)) v.toNat)
def clB (A : Nat → Int) (v : Int) : Bool := hbB A v && tb (Int32.ofInt (A 12)) v.toNat
def grB (A : Nat → Int) (v : Int) : Bool := decide (-9999 ≤ A 8 + v ∧ A 8 + v ≤ 9999)
def orA (A : Nat → Int) (v : Int) : Nat → Int := rU A 12 (((A 12).toNat ||| 2 ^ v.toNat : Nat) : Int)
def clA (A : Nat → Int) (v : Int) : Nat → Int := rU A 12 ((clN (A 12).toNat v.toNat : Nat) : Int)
theorem hb_t {A : Nat → Int} {v : Int} : hbB A v = true ↔ 0 ≤ v ∧ v < A 0 := by unfold hbB; exact decide_eq_true_iff
section PMS
variable {T : yK} {S S' S1 S2 : yS} {A A' : Nat → Int} {W : Nat → wP}
theorem k_has (h : cR 0 A S) (hr : rI A) {v : Int} (h1 : -2147483648 ≤ v) (h2 : v < 2147483648) : fX0_hasBird (Int32.ofInt v) S = some (Int32.ofInt (if hbB A v = true then 1 else 0)) := by
  have h0 := I_i0 hr
  unfold fX0_hasBird
  rw [K_birds h]
  simp only [hb_t]
  by_cases a : v < 0
  · rw [if_neg (show ¬ (0 ≤ v ∧ v < A 0) by omega)]
    exact h_pos (by first | omega | ((simp (disch := omega) only [i0, i1, i_lt, i_le, i_eq, i_add, i_sub, i_mul, i_neg, i_ofNat, i_rem, i_div, w_in, w_in2, w_cnt, w_cnt2, z01, z01', il, li, lc_ge, lc_le, lc_gt, lc_lt, lc_eq, l_ofNat, l0, l_eq, l_lt, l_le]) <;> omega)) rfl
  · refine h_neg (by first | omega | ((simp (disch := omega) only [i0, i1, i_lt, i_le, i_eq, i_add, i_sub, i_mul, i_neg, i_ofNat, i_rem, i_div, w_in, w_in2, w_cnt, w_cnt2, z01, z01', il, li, lc_ge, lc_le, lc_gt, lc_lt, lc_eq, l_ofNat, l0, l_eq, l_lt, l_le]) <;> omega)) ?_
    by_cases b : A 0 ≤ v
    · rw [if_neg (show ¬ (0 ≤ v ∧ v < A 0) by omega)]
      exact h_pos (by first | omega | ((simp (disch := omega) only [i0, i1, i_lt, i_le, i_eq, i_add, i_sub, i_mul, i_neg, i_ofNat, i_rem, i_div, w_in, w_in2, w_cnt, w_cnt2, z01, z01', il, li, lc_ge, lc_le, lc_gt, lc_lt, lc_eq, l_ofNat, l0, l_eq, l_lt, l_le]) <;> omega)) rfl
    · rw [if_pos (show (0 ≤ v ∧ v < A 0) by omega)]
      exact h_neg (by first | omega | ((simp (disch := omega) only [i0, i1, i_lt, i_le, i_eq, i_add, i_sub, i_mul, i_neg, i_ofNat, i_rem, i_div, w_in, w_in2, w_cnt, w_cnt2, z01, z01', il, li, lc_ge, lc_le, lc_gt, lc_lt, lc_eq, l_ofNat, l0, l_eq, l_lt, l_le]) <;> omega)) rfl
theorem q_has (hr : rI A) (hA : rv S 266 = A) {v : Int} (h1 : -2147483648 ≤ v) (h2 : v < 2147483648) : fX12_isBird (Int32.ofInt v) S = some (Int32.ofInt (if hbB A v = true then 1 else 0)) := by
  have h0 := I_i0 hr
  unfold fX12_isBird
  rw [rv_eq S 266 0, hA, i_sub, w_in2 h1 h2 (by omega) (by omega) (by omega) (by omega), i0, i1]
  refine h_pos (by rw [z01']; trivial) ?_
  simp only [hb_t]
  by_cases a : 0 ≤ v ∧ v < A 0
  · rw [if_pos a, if_pos (by omega)]
  · rw [if_neg a, if_neg (by omega)]
theorem k_canThin (h : cR 0 A S) (hr : rI A) {v : Int} (h1 : -2147483648 ≤ v) (h2 : v < 2147483648) : fX0_canThin (Int32.ofInt v) S = some (Int32.ofInt (if thB A v = true then 1 else 0)) := by
  have h0 := I_i0 hr
  unfold fX0_canThin thB
  refine h_bind (k_has h hr h1 h2) ?_
  cases hb : hbB A v with
  | false => exact h_pos (by decide) rfl
  | true =>
    have hv := hb_t.mp hb
    obtain ⟨b, rfl⟩ := Int.eq_ofNat_of_zero_le hv.1
    refine h_neg (by decide) (h_bind (k_gone h (by omega)) ?_)
    rw [Int.toNat_natCast]
    cases tb (Int32.ofInt (A 12)) b with
    | true => exact h_pos (by decide) rfl
    | false => exact h_neg (by decide) rfl
theorem k_canCall (h : cR 0 A S) (hr : rI A) {v : Int} (h1 : -2147483648 ≤ v) (h2 : v < 2147483648) : fX0_canCall (Int32.ofInt v) S = some (Int32.ofInt (if clB A v = true then 1 else 0)) := by
  have h0 := I_i0 hr
  unfold fX0_canCall clB
  refine h_bind (k_has h hr h1 h2) ?_
  cases hb : hbB A v with
  | false => exact h_pos (by decide) rfl
  | true =>
    have hv := hb_t.mp hb
    obtain ⟨b, rfl⟩ := Int.eq_ofNat_of_zero_le hv.1
    refine h_neg (by decide) (h_bind (k_gone h (by omega)) ?_)
    rw [Int.toNat_natCast]
    cases tb (Int32.ofInt (A 12)) b with
    | true => exact h_neg (by decide) rfl
    | false => exact h_pos (by decide) rfl
theorem k_canGrant (h : cR 0 A S) (hr : rI A) {v : Int} (h1 : -999999 ≤ v) (h2 : v < 999999) : fX0_canGrant (Int32.ofInt v) S = some (Int32.ofInt (if grB A v = true then 1 else 0)) := by
  have h8 := I_fund hr
  unfold fX0_canGrant
  rw [K_fund h, i_add, w_in (by omega) (by omega) (by omega) (by omega) (by omega) (by omega), i0, i1]
  refine h_pos (by rw [z01']; trivial) ?_
  unfold grB
  by_cases a : -9999 ≤ A 8 + v ∧ A 8 + v ≤ 9999
  · rw [if_pos a, decide_eq_true a]; rfl
  · rw [if_neg a, decide_eq_false a]; rfl
theorem or_mI (h : rI A) {v : Int} (hb : hbB A v = true) : mI (A 0) (nowF (orA A v)) := by
  have hv := hb_t.mp hb
  have hg := I_gone h
  have h0 := I_i0 h
  refine up12_mI h ⟨by omega, ?_⟩
  have e : (A 12).toNat < 2 ^ (A 0).toNat := by
    have : ((A 12).toNat : Int) < ((2 ^ (A 0).toNat : Nat) : Int) := by
      rw [show (((A 12).toNat : Nat) : Int) = A 12 by omega]
      exact_mod_cast hg.2
    omega
  exact_mod_cast or_lt e (show v.toNat < (A 0).toNat by omega)
theorem cl_mI (h : rI A) {v : Int} : mI (A 0) (nowF (clA A v)) := by
  have hg := I_gone h
  have e := clN_le (A 12).toNat v.toNat
  exact up12_mI h ⟨by omega, by omega⟩
theorem k_markGone (h : ClR T A S W) {v : Int} (hb : hbB A v = true) : ∃ S1, fX2_markGone (Int32.ofInt v) S = some S1 ∧ ClR T (orA A v) S1 W ∧ Gn S S1 := by
  have hv := hb_t.mp hb
  have hg := I_gone8 h.2.1
  have h0 := I_i0 h.2.1
  have u := up_ClR (j := 12) h (by omega) (by omega) (by omega) (or_mI h.2.1 hb)
  refine ⟨_, ?_, u, Gn_i⟩
  unfold fX2_markGone
  obtain ⟨b, rfl⟩ := Int.eq_ofNat_of_zero_le hv.1
  have e := b_or (A 12).toNat (by omega) b (by omega)
  rw [show (((A 12).toNat : Nat) : Int) = A 12 by omega] at e
  rw [K_gone h.1, e]
  rfl
theorem k_markBack (h : ClR T A S W) {v : Int} (hb : hbB A v = true) : ∃ S1, fX2_markBack (Int32.ofInt v) S = some S1 ∧ ClR T (clA A v) S1 W ∧ Gn S S1 := by
  have hv := hb_t.mp hb
  have hg := I_gone8 h.2.1
  have h0 := I_i0 h.2.1
  have u := up_ClR (j := 12) h (by omega) (by omega) (by omega) (cl_mI h.2.1 (v := v))
  refine ⟨_, ?_, u, Gn_i⟩
  unfold fX2_markBack
  obtain ⟨b, rfl⟩ := Int.eq_ofNat_of_zero_le hv.1
  have e := b_andn (A 12).toNat (by omega) b (by omega)
  rw [show (((A 12).toNat : Nat) : Int) = A 12 by omega] at e
  rw [K_gone h.1, e]
  rfl
/-! thin -/
def thA (A : Nat → Int) (v : Int) : Nat → Int := if thB A v = true then orA (kpA A) v else A
theorem kp_hb (hr : rI A) (v : Int) : hbB (kpA A) v = hbB A v := by
  unfold hbB
  rw [kpA_o hr (by omega) (by omega)]
theorem k_thin (h : ClR T A S W) {v : Int} (h1 : -2147483648 ≤ v) (h2 : v < 2147483648) : ∃ S1, fX11_thin (Int32.ofInt v) S = some (Int32.ofInt (if thB A v = true then 1 else 0), S1) ∧ ClR T (thA A v) S1 W ∧ Gs S S1 := by
  have ct := k_canThin h.1 h.2.1 h1 h2
  unfold fX11_thin thA
  by_cases hb : thB A v = true
  · simp only [if_pos hb] at ct ⊢
    obtain ⟨S1, a1, a2, a3⟩ := k_keep h
    have hb2 : hbB (kpA A) v = true := by
      rw [kp_hb h.2.1]
      unfold thB at hb
      exact (Bool.and_eq_true_iff.mp hb).1
    obtain ⟨S2, b1, b2, b3⟩ := k_markGone a2 hb2
    exact ⟨S2, h_bind ct (h_pos (by decide) (h_bind a1 (h_bind b1 rfl))), b2, Gs_trans a3 (Gs_Gn b3)⟩
  · simp only [if_neg hb] at ct ⊢
    exact ⟨S, h_bind ct (h_neg (by decide) rfl), h, Gs_refl S⟩
theorem q_thin (h : RfR S W) (hA : rv S 266 = A) {N : Nat} (hN : 2000000 ≤ N) {v : Int} (h1 : -2147483648 ≤ v) (h2 : v < 2147483648) : ∃ S1, fX12_thin N (Int32.ofInt v) S = some (Int32.ofInt (if thB A v = true then 1 else 0), S1) ∧ RfR S1 W ∧ rv S1 266 = thA A v ∧ Hn S S1 := by
  have hr := h.1
  rw [hA] at hr
  have h0 := I_i0 hr
  have hg := I_gone8 hr
  have qb := q_has hr hA h1 h2
  unfold fX12_thin thA
  cases hb : hbB A v with
  | false =>
    rw [hb] at qb
    have e : thB A v = false := by unfold thB; rw [hb]; rfl
    rw [e]
    exact ⟨S, h_bind qb (h_pos (by decide) rfl), h, hA, Hn_refl S⟩
  | true =>
    rw [hb] at qb
    have hv := hb_t.mp hb
    obtain ⟨b, rfl⟩ := Int.eq_ofNat_of_zero_le hv.1
    have qg := q_gone (b := b) h.1 (by omega)
    rw [hA] at qg
    cases ht : tb (Int32.ofInt (A 12)) b with
    | true =>
      have e : thB A (b : Int) = false := by unfold thB; rw [hb, Int.toNat_natCast, ht]; rfl
      rw [ht] at qg
      rw [e]
      exact ⟨S, h_bind qb (h_neg (by decide) (h_bind qg (h_neg (by decide) rfl))), h, hA, Hn_refl S⟩
    | false =>
      have e : thB A (b : Int) = true := by unfold thB; rw [hb, Int.toNat_natCast, ht]; rfl
      rw [ht] at qg
      rw [e]
      obtain ⟨S1, a1, a2, a3, a4⟩ := q_keep h hA hN
      have hk := kpA_rI hr
      have k12 : kpA A 12 = A 12 := kpA_o hr (by omega) (by omega)
      have u := up_RfR (j := 12) a2 a3 (by omega) (by omega) (x := (((kpA A 12).toNat ||| 2 ^ ((b : Int)).toNat : Nat) : Int)) (by
        have m := or_mI hk (v := (b : Int)) (by rw [kp_hb hr]; exact hb)
        have m6 := m.2.2.2.2.2.2.1
        have hp : (2 : Int) ^ (kpA A 0).toNat ≤ 2 ^ 8 := by
          have : 2 ^ (kpA A 0).toNat ≤ 2 ^ 8 := Nat.pow_le_pow_right (by omega) (by rw [kpA_o hr (by omega) (by omega)]; omega)
          exact_mod_cast this
        have e8 : (2 : Int) ^ 8 = 256 := rfl
        have m7 : 0 ≤ (((kpA A 12).toNat ||| 2 ^ ((b : Int)).toNat : Nat) : Int) ∧ (((kpA A 12).toNat ||| 2 ^ ((b : Int)).toNat : Nat) : Int) < 2 ^ (kpA A 0).toNat := m6
        omega) (or_mI hk (v := (b : Int)) (by rw [kp_hb hr]; exact hb))
      refine ⟨_, h_bind qb (h_neg (by decide) (h_bind qg (h_pos (by decide) (h_bind a1 (h_pst ?_))))), u.1, u.2, Hn_trans a4.1 Hn_a⟩
      have eo := b_or (A 12).toNat (by omega) b (by omega)
      rw [show (((A 12).toNat : Nat) : Int) = A 12 by omega] at eo
      rw [rv_eq S1 266 12, a3, k12, eo, Int.toNat_natCast]
      rfl
/-! call -/
def caA (A : Nat → Int) (v : Int) : Nat → Int := if clB A v = true then clA (kpA A) v else A
theorem k_call (h : ClR T A S W) {v : Int} (h1 : -2147483648 ≤ v) (h2 : v < 2147483648) : ∃ S1, fX11_call (Int32.ofInt v) S = some (Int32.ofInt (if clB A v = true then 1 else 0), S1) ∧ ClR T (caA A v) S1 W ∧ Gs S S1 := by
  have ct := k_canCall h.1 h.2.1 h1 h2
  unfold fX11_call caA
  by_cases hb : clB A v = true
  · simp only [if_pos hb] at ct ⊢
    obtain ⟨S1, a1, a2, a3⟩ := k_keep h
    have hb2 : hbB (kpA A) v = true := by
      rw [kp_hb h.2.1]
      unfold clB at hb
      exact (Bool.and_eq_true_iff.mp hb).1
    obtain ⟨S2, b1, b2, b3⟩ := k_markBack a2 hb2
    exact ⟨S2, h_bind ct (h_pos (by decide) (h_bind a1 (h_bind b1 rfl))), b2, Gs_trans a3 (Gs_Gn b3)⟩
  · simp only [if_neg hb] at ct ⊢
    exact ⟨S, h_bind ct (h_neg (by decide) rfl), h, Gs_refl S⟩
theorem q_call (h : RfR S W) (hA : rv S 266 = A) {N : Nat} (hN : 2000000 ≤ N) {v : Int} (h1 : -2147483648 ≤ v) (h2 : v < 2147483648) : ∃ S1, fX12_call N (Int32.ofInt v) S = some (Int32.ofInt (if clB A v = true then 1 else 0), S1) ∧ RfR S1 W ∧ rv S1 266 = caA A v ∧ Hn S S1 := by
  have hr := h.1
  rw [hA] at hr
  have h0 := I_i0 hr
  have hg := I_gone8 hr
  have qb := q_has hr hA h1 h2
  unfold fX12_call caA
  cases hb : hbB A v with
  | false =>
    rw [hb] at qb
    have e : clB A v = false := by unfold clB; rw [hb]; rfl
    rw [e]
    exact ⟨S, h_bind qb (h_pos (by decide) rfl), h, hA, Hn_refl S⟩
  | true =>
    rw [hb] at qb
    have hv := hb_t.mp hb
    obtain ⟨b, rfl⟩ := Int.eq_ofNat_of_zero_le hv.1
    have qg := q_gone (b := b) h.1 (by omega)
    rw [hA] at qg
    cases ht : tb (Int32.ofInt (A 12)) b with
    | false =>
      have e : clB A (b : Int) = false := by unfold clB; rw [hb, Int.toNat_natCast, ht]; rfl
      rw [ht] at qg
      rw [e]
      exact ⟨S, h_bind qb (h_neg (by decide) (h_bind qg (h_neg (by decide) rfl))), h, hA, Hn_refl S⟩
    | true =>
      have e : clB A (b : Int) = true := by unfold clB; rw [hb, Int.toNat_natCast, ht]; rfl
      rw [ht] at qg
      rw [e]
      obtain ⟨S1, a1, a2, a3, a4⟩ := q_keep h hA hN
      have hk := kpA_rI hr
      have k12 : kpA A 12 = A 12 := kpA_o hr (by omega) (by omega)
      have hle := clN_le (kpA A 12).toNat ((b : Int)).toNat
      have u := up_RfR (j := 12) a2 a3 (by omega) (by omega) (x := ((clN (kpA A 12).toNat ((b : Int)).toNat : Nat) : Int)) (by omega) (cl_mI hk (v := (b : Int)))
      refine ⟨_, h_bind qb (h_neg (by decide) (h_bind qg (h_pos (by decide) (h_bind a1 (h_pst ?_))))), u.1, u.2, Hn_trans a4.1 Hn_a⟩
      have t1 := tb_nat (A 12).toNat (by omega) b (by omega)
      rw [show (((A 12).toNat : Nat) : Int) = A 12 by omega, ht] at t1
      have eo := b_xor (A 12).toNat (by omega) b (by omega) t1.symm
      rw [show (((A 12).toNat : Nat) : Int) = A 12 by omega] at eo
      rw [rv_eq S1 266 12, a3, k12, eo, Int.toNat_natCast]
      rfl
/-! grant -/
def gnB (A : Nat → Int) (v : Int) : Bool := decide (v ≠ 0 ∧ -999 ≤ v ∧ v ≤ 999) && grB A v
def grA (A : Nat → Int) (v : Int) : Nat → Int := if gnB A v = true then rU (kpA A) 8 (A 8 + v) else A
theorem gr_t {A : Nat → Int} {v : Int} : grB A v = true ↔ -9999 ≤ A 8 + v ∧ A 8 + v ≤ 9999 := by unfold grB; exact decide_eq_true_iff
theorem k_grant (h : ClR T A S W) {v : Int} (h1 : -2147483648 ≤ v) (h2 : v < 2147483648) : ∃ S1, fX11_grant (Int32.ofInt v) S = some (Int32.ofInt (if gnB A v = true then 1 else 0), S1) ∧ ClR T (grA A v) S1 W ∧ Gs S S1 := by
  unfold fX11_grant grA gnB
  by_cases hv : v ≠ 0 ∧ -999 ≤ v ∧ v ≤ 999
  · rw [decide_eq_true hv, Bool.true_and]
    have ct := k_canGrant h.1 h.2.1 (v := v) (by omega) (by omega)
    by_cases hb : grB A v = true
    · have hb2 := gr_t.mp hb
      simp only [if_pos hb] at ct ⊢
      obtain ⟨S1, a1, a2, a3⟩ := k_keep h
      have u := up_ClR (j := 8) (x := A 8 + v) a2 (by omega) (by omega) (by omega) (up8_mI a2.2.1 (by omega))
      refine ⟨_, h_neg (by first | omega | ((simp (disch := omega) only [i0, i1, i_lt, i_le, i_eq, i_add, i_sub, i_mul, i_neg, i_ofNat, i_rem, i_div, w_in, w_in2, w_cnt, w_cnt2, z01, z01', il, li, lc_ge, lc_le, lc_gt, lc_lt, lc_eq, l_ofNat, l0, l_eq, l_lt, l_le]) <;> omega)) (h_neg (by first | omega | ((simp (disch := omega) only [i0, i1, i_lt, i_le, i_eq, i_add, i_sub, i_mul, i_neg, i_ofNat, i_rem, i_div, w_in, w_in2, w_cnt, w_cnt2, z01, z01', il, li, lc_ge, lc_le, lc_gt, lc_lt, lc_eq, l_ofNat, l0, l_eq, l_lt, l_le]) <;> omega)) (h_bind ct (h_pos (by decide) (h_bind a1 (h_pst ?_))))), u, Gs_trans a3 (Gs_Gn Gn_i)⟩
      rw [K_fund a2.1, kpA_o h.2.1 (by omega) (by omega), i_add]
      rfl
    · simp only [if_neg hb] at ct ⊢
      exact ⟨S, h_neg (by first | omega | ((simp (disch := omega) only [i0, i1, i_lt, i_le, i_eq, i_add, i_sub, i_mul, i_neg, i_ofNat, i_rem, i_div, w_in, w_in2, w_cnt, w_cnt2, z01, z01', il, li, lc_ge, lc_le, lc_gt, lc_lt, lc_eq, l_ofNat, l0, l_eq, l_lt, l_le]) <;> omega)) (h_neg (by first | omega | ((simp (disch := omega) only [i0, i1, i_lt, i_le, i_eq, i_add, i_sub, i_mul, i_neg, i_ofNat, i_rem, i_div, w_in, w_in2, w_cnt, w_cnt2, z01, z01', il, li, lc_ge, lc_le, lc_gt, lc_lt, lc_eq, l_ofNat, l0, l_eq, l_lt, l_le]) <;> omega)) (h_bind ct (h_neg (by decide) rfl))), h, Gs_refl S⟩
  · rw [decide_eq_false hv, Bool.false_and]
    refine ⟨S, ?_, h, Gs_refl S⟩
    by_cases h0 : v = 0
    · exact h_pos (by first | omega | ((simp (disch := omega) only [i0, i1, i_lt, i_le, i_eq, i_add, i_sub, i_mul, i_neg, i_ofNat, i_rem, i_div, w_in, w_in2, w_cnt, w_cnt2, z01, z01', il, li, lc_ge, lc_le, lc_gt, lc_lt, lc_eq, l_ofNat, l0, l_eq, l_lt, l_le]) <;> omega)) rfl
    · exact h_neg (by first | omega | ((simp (disch := omega) only [i0, i1, i_lt, i_le, i_eq, i_add, i_sub, i_mul, i_neg, i_ofNat, i_rem, i_div, w_in, w_in2, w_cnt, w_cnt2, z01, z01', il, li, lc_ge, lc_le, lc_gt, lc_lt, lc_eq, l_ofNat, l0, l_eq, l_lt, l_le]) <;> omega)) (h_pos (by first | omega | ((simp (disch := omega) only [i0, i1, i_lt, i_le, i_eq, i_add, i_sub, i_mul, i_neg, i_ofNat, i_rem, i_div, w_in, w_in2, w_cnt, w_cnt2, z01, z01', il, li, lc_ge, lc_le, lc_gt, lc_lt, lc_eq, l_ofNat, l0, l_eq, l_lt, l_le]) <;> omega)) rfl)
theorem q_canGrant (hr : rI A) (hA : rv S 266 = A) {v : Int} (h1 : -2147483648 ≤ v) (h2 : v < 2147483648) : fX12_canGrant (Int32.ofInt v) S = some (Int32.ofInt (if gnB A v = true then 1 else 0)) := by
  have h8 := I_fund hr
  unfold fX12_canGrant gnB
  rw [rv_eq S 266 8, hA, i_add]
  by_cases hv : -999 ≤ v ∧ v ≤ 999
  · refine h_neg (by first | omega | ((simp (disch := omega) only [i0, i1, i_lt, i_le, i_eq, i_add, i_sub, i_mul, i_neg, i_ofNat, i_rem, i_div, w_in, w_in2, w_cnt, w_cnt2, z01, z01', il, li, lc_ge, lc_le, lc_gt, lc_lt, lc_eq, l_ofNat, l0, l_eq, l_lt, l_le]) <;> omega)) ?_
    by_cases h0 : v = 0
    · rw [decide_eq_false (show ¬ (v ≠ 0 ∧ -999 ≤ v ∧ v ≤ 999) by omega), Bool.false_and]
      exact h_pos (by first | omega | ((simp (disch := omega) only [i0, i1, i_lt, i_le, i_eq, i_add, i_sub, i_mul, i_neg, i_ofNat, i_rem, i_div, w_in, w_in2, w_cnt, w_cnt2, z01, z01', il, li, lc_ge, lc_le, lc_gt, lc_lt, lc_eq, l_ofNat, l0, l_eq, l_lt, l_le]) <;> omega)) rfl
    · rw [decide_eq_true (show (v ≠ 0 ∧ -999 ≤ v ∧ v ≤ 999) by omega), Bool.true_and]
      refine h_neg (by first | omega | ((simp (disch := omega) only [i0, i1, i_lt, i_le, i_eq, i_add, i_sub, i_mul, i_neg, i_ofNat, i_rem, i_div, w_in, w_in2, w_cnt, w_cnt2, z01, z01', il, li, lc_ge, lc_le, lc_gt, lc_lt, lc_eq, l_ofNat, l0, l_eq, l_lt, l_le]) <;> omega)) ?_
      by_cases hb : -9999 ≤ A 8 + v ∧ A 8 + v ≤ 9999
      · rw [if_pos (gr_t.mpr hb)]
        exact h_neg (by first | omega | ((simp (disch := omega) only [i0, i1, i_lt, i_le, i_eq, i_add, i_sub, i_mul, i_neg, i_ofNat, i_rem, i_div, w_in, w_in2, w_cnt, w_cnt2, z01, z01', il, li, lc_ge, lc_le, lc_gt, lc_lt, lc_eq, l_ofNat, l0, l_eq, l_lt, l_le]) <;> omega)) rfl
      · rw [if_neg (fun q => hb (gr_t.mp q))]
        exact h_pos (by first | omega | ((simp (disch := omega) only [i0, i1, i_lt, i_le, i_eq, i_add, i_sub, i_mul, i_neg, i_ofNat, i_rem, i_div, w_in, w_in2, w_cnt, w_cnt2, z01, z01', il, li, lc_ge, lc_le, lc_gt, lc_lt, lc_eq, l_ofNat, l0, l_eq, l_lt, l_le]) <;> omega)) rfl
  · rw [decide_eq_false (show ¬ (v ≠ 0 ∧ -999 ≤ v ∧ v ≤ 999) by omega), Bool.false_and]
    exact h_pos (by first | omega | ((simp (disch := omega) only [i0, i1, i_lt, i_le, i_eq, i_add, i_sub, i_mul, i_neg, i_ofNat, i_rem, i_div, w_in, w_in2, w_cnt, w_cnt2, z01, z01', il, li, lc_ge, lc_le, lc_gt, lc_lt, lc_eq, l_ofNat, l0, l_eq, l_lt, l_le]) <;> omega)) rfl
theorem q_grant (h : RfR S W) (hA : rv S 266 = A) {N : Nat} (hN : 2000000 ≤ N) {v : Int} (h1 : -2147483648 ≤ v) (h2 : v < 2147483648) : ∃ S1, fX12_grant N (Int32.ofInt v) S = some (Int32.ofInt (if gnB A v = true then 1 else 0), S1) ∧ RfR S1 W ∧ rv S1 266 = grA A v ∧ Hn S S1 := by
  have hr := h.1
  rw [hA] at hr
  have ct := q_canGrant hr hA h1 h2
  unfold fX12_grant grA
  by_cases hb : gnB A v = true
  · have hb1 := Bool.and_eq_true_iff.mp hb
    have hb2 := gr_t.mp hb1.2
    simp only [if_pos hb] at ct ⊢
    obtain ⟨S1, a1, a2, a3, a4⟩ := q_keep h hA hN
    have u := up_RfR (j := 8) (x := A 8 + v) a2 a3 (by omega) (by omega) (by omega) (up8_mI (kpA_rI hr) (by omega))
    refine ⟨_, h_bind ct (h_pos (by decide) (h_bind a1 (h_pst ?_))), u.1, u.2, Hn_trans a4.1 Hn_a⟩
    rw [rv_eq S1 266 8, a3, kpA_o hr (by omega) (by omega), i_add]
  · simp only [if_neg hb] at ct ⊢
    exact ⟨S, h_bind ct (h_neg (by decide) rfl), h, hA, Hn_refl S⟩
theorem pm_thin (h : Rel T S) {N : Nat} (hN : 2000000 ≤ N) (v0 : Int32) : PM T S (fX11_thin v0) (fX12_thin N v0) := by
  obtain ⟨v, v1, v2, rfl⟩ := i_ex v0
  obtain ⟨W, hc, hf⟩ := Rel_W h
  obtain ⟨S1, a1, a2, a3⟩ := k_thin hc v1 v2
  exact PM_gp h hf a1 a2 (Gp_Gs a3) (fun r e _ => q_thin r e hN v1 v2)
theorem pm_call (h : Rel T S) {N : Nat} (hN : 2000000 ≤ N) (v0 : Int32) : PM T S (fX11_call v0) (fX12_call N v0) := by
  obtain ⟨v, v1, v2, rfl⟩ := i_ex v0
  obtain ⟨W, hc, hf⟩ := Rel_W h
  obtain ⟨S1, a1, a2, a3⟩ := k_call hc v1 v2
  exact PM_gp h hf a1 a2 (Gp_Gs a3) (fun r e _ => q_call r e hN v1 v2)
theorem pm_grant (h : Rel T S) {N : Nat} (hN : 2000000 ≤ N) (v0 : Int32) : PM T S (fX11_grant v0) (fX12_grant N v0) := by
  obtain ⟨v, v1, v2, rfl⟩ := i_ex v0
  obtain ⟨W, hc, hf⟩ := Rel_W h
  obtain ⟨S1, a1, a2, a3⟩ := k_grant hc v1 v2
  exact PM_gp h hf a1 a2 (Gp_Gs a3) (fun r e _ => q_grant r e hN v1 v2)
end PMS
