/-! ===== the runoff, to its end ===== -/
theorem clr_s : ∀ s : Nat, s < 16 → ∀ w : Nat, w < 4 → s.testBit w = true → Int32.ofInt (s : Int) &&& ((Int32.ofInt 1 <<< (Int32.ofInt (w : Int) &&& 31)) ^^^ Int32.ofInt (-1)) = Int32.ofInt ((s - 2 ^ w : Nat) : Int) := by decide +kernel
theorem clr_pc : ∀ s : Nat, s < 16 → ∀ w : Nat, w < 4 → s.testBit w = true → pc8 (s - 2 ^ w) + 1 = pc8 s ∧ s - 2 ^ w < 16 := by decide +kernel
theorem pc_ex : ∀ s : Nat, s < 16 → 1 ≤ pc8 s → (s.testBit 0 || s.testBit 1 || s.testBit 2 || s.testBit 3) = true := by decide +kernel
theorem pc_ex' {s : Nat} (hs : s < 16) (h : 1 ≤ pc8 s) : ∃ c, c < 4 ∧ s.testBit c = true := by
  have := pc_ex s hs h
  simp only [Bool.or_eq_true] at this
  rcases this with ((e | e) | e) | e
  · exact ⟨0, by omega, e⟩
  · exact ⟨1, by omega, e⟩
  · exact ⟨2, by omega, e⟩
  · exact ⟨3, by omega, e⟩
def lowB (s : Nat) : Nat := if s.testBit 0 = true then 0 else if s.testBit 1 = true then 1 else if s.testBit 2 = true then 2 else 3
section PMS
variable {T : yK} {S : yS}
theorem c_round (h : Rel T S) {N : Nat} (hN : 2000000 ≤ N) {s : Nat} (hs : s < 16) (hp : 1 ≤ pc8 s) : ∃ w, isMn s (fun c => fvS (rv S 266) s c 0 5 0) w ∧ ∀ n k : Nat, k < 4 → lX4_lastLeft N (n + 1) 0 (Int32.ofInt (s : Int)) (Int32.ofInt (k : Int)) S = lX4_lastLeft N n 0 (Int32.ofInt ((s - 2 ^ w : Nat) : Int)) (Int32.ofInt ((k + 1 : Nat) : Int)) S := by
  obtain ⟨w, e1, e2⟩ := c_wk h hN hs 4 N 0 0 4995 (by omega) (by omega) (Or.inl ⟨rfl, rfl, fun c hc => by omega⟩) (pc_ex' hs hp)
  refine ⟨w, e1, fun n k hk => ?_⟩
  rw [lX4_lastLeft]
  refine h_pos rfl (h_neg (by first | omega | ((simp (disch := omega) only [i0, i1, i_lt, i_le, i_eq, i_add, i_sub, i_mul, i_neg, i_ofNat, i_rem, i_div, w_in, w_in2, w_cnt, w_cnt2, z01, z01', il, li, lc_ge, lc_le, lc_gt, lc_lt, lc_eq, l_ofNat, l0, l_eq, l_lt, l_le]) <;> omega)) ?_)
  refine h_bind e2 (h_pst ?_)
  rw [clr_s s hs w e1.1 e1.2.1, i_add, show (k : Int) + 1 = ((k + 1 : Nat) : Int) by omega]
theorem c_last {N : Nat} {s : Nat} (hs : s < 16) : ∀ n, lX4_lastLeft N (n + 5) 0 (Int32.ofInt (s : Int)) (Int32.ofInt 4) S = some (Int32.ofInt (lowB s : Nat)) := by
  intro n
  rw [show n + 5 = (n + 4) + 1 by omega, lX4_lastLeft]
  refine h_pos rfl (h_pos (by decide) ?_)
  unfold lowB
  have t0 := in_nat (s := s) (b := 0) (by omega) (by omega)
  have t1 := in_nat (s := s) (b := 1) (by omega) (by omega)
  have t2 := in_nat (s := s) (b := 2) (by omega) (by omega)
  rw [show n + 4 = (n + 3) + 1 by omega, lX4_lastLeft]
  refine h_neg (by omega) (h_neg (by decide) ?_)
  rw [show fX11_isIn (Int32.ofInt (s : Int)) (Int32.ofInt 0) = _ from t0]
  cases s.testBit 0 with
  | true => exact h_pos (by decide) rfl
  | false =>
    refine h_neg (by decide) ?_
    rw [show n + 3 = (n + 2) + 1 by omega, lX4_lastLeft]
    refine h_neg (by omega) (h_neg (by decide) ?_)
    rw [show fX11_isIn (Int32.ofInt (s : Int)) (Int32.ofInt 0 + Int32.ofInt 1) = _ from t1]
    cases s.testBit 1 with
    | true => exact h_pos (by decide) rfl
    | false =>
      refine h_neg (by decide) ?_
      rw [show n + 2 = (n + 1) + 1 by omega, lX4_lastLeft]
      refine h_neg (by omega) (h_neg (by decide) ?_)
      rw [show fX11_isIn (Int32.ofInt (s : Int)) (Int32.ofInt 0 + Int32.ofInt 1 + Int32.ofInt 1) = _ from t2]
      cases s.testBit 2 with
      | true => exact h_pos (by decide) rfl
      | false =>
        refine h_neg (by decide) ?_
        rw [lX4_lastLeft]
        exact h_neg (by omega) (h_pos (by decide) rfl)
theorem r_out (h : Rel T S) {N : Nat} (hN : 2000000 ≤ N) {s : Nat} (hs : s < 16) : ∀ (m : Nat) (out : Int), m ≤ 4 → ((out = -1 ∧ (∀ c, m ≤ c → c < 4 → s.testBit c = false)) ∨ (∃ w : Nat, out = w ∧ m ≤ w ∧ w < 4 ∧ s.testBit w = true ∧ ∀ c, m ≤ c → c < 4 → s.testBit c = true → fvS (rv S 266) s w 0 5 0 ≤ fvS (rv S 266) s c 0 5 0 ∧ (fvS (rv S 266) s c 0 5 0 = fvS (rv S 266) s w 0 5 0 → c ≤ w))) → (∃ c, c < 4 ∧ s.testBit c = true) → ∃ w', isMn s (fun c => fvS (rv S 266) s c 0 5 0) w' ∧ ∀ n, lX12_runoff N (n + m + 1) 1 (Int32.ofInt (s : Int)) (Int32.ofInt out) (Int32.ofInt ((m : Int) - 1)) S = lX12_runoff N n 0 (Int32.ofInt ((s - 2 ^ w' : Nat) : Int)) 0 0 S
  | 0, out, hm, hI, hex => by
    rcases hI with ⟨_, hI⟩ | ⟨w, rfl, h1, h2, h3, h4⟩
    · obtain ⟨c, hc, hc2⟩ := hex
      rw [hI c (by omega) hc] at hc2
      cases hc2
    · refine ⟨w, ⟨h2, h3, fun c hc hc2 => h4 c (by omega) hc hc2⟩, fun n => ?_⟩
      rw [lX12_runoff]
      refine h_neg (by omega) (h_pos rfl (h_pos (by first | omega | ((simp (disch := omega) only [i0, i1, i_lt, i_le, i_eq, i_add, i_sub, i_mul, i_neg, i_ofNat, i_rem, i_div, w_in, w_in2, w_cnt, w_cnt2, z01, z01', il, li, lc_ge, lc_le, lc_gt, lc_lt, lc_eq, l_ofNat, l0, l_eq, l_lt, l_le]) <;> omega)) (h_pst ?_)))
      rw [clr_s s hs w h2 h3]
  | m + 1, out, hm, hI, hex => by
    have hr := fvS_rng h (s := s) (c := m) 5 0 0 (by omega)
    have hx : ((m + 1 : Nat) : Int) - 1 = (m : Int) := by omega
    have hy : (m : Int) + -1 = (m : Int) - 1 := by omega
    cases tk : s.testBit m with
    | false =>
      obtain ⟨w', e1, e2⟩ := r_out h hN hs m out (by omega) (by
        rcases hI with ⟨q1, q2⟩ | ⟨w, q0, q1, q2, q3, q4⟩
        · refine Or.inl ⟨q1, fun c hc hc4 => ?_⟩
          by_cases hck : c = m
          · rw [hck]; exact tk
          · exact q2 c (by omega) hc4
        · refine Or.inr ⟨w, q0, by omega, q2, q3, fun c hc hc4 hc2 => ?_⟩
          by_cases hck : c = m
          · rw [hck, tk] at hc2; cases hc2
          · exact q4 c (by omega) hc4 hc2) hex
      refine ⟨w', e1, fun n => ?_⟩
      rw [show n + (m + 1) + 1 = (n + m + 1) + 1 by omega, lX12_runoff, hx]
      refine h_neg (by omega) (h_pos rfl (h_neg (by first | omega | ((simp (disch := omega) only [i0, i1, i_lt, i_le, i_eq, i_add, i_sub, i_mul, i_neg, i_ofNat, i_rem, i_div, w_in, w_in2, w_cnt, w_cnt2, z01, z01', il, li, lc_ge, lc_le, lc_gt, lc_lt, lc_eq, l_ofNat, l0, l_eq, l_lt, l_le]) <;> omega)) ?_))
      rw [has_nat (by omega) (by omega), tk, i_add, hy]
      exact h_pos (by decide) (e2 n)
    | true =>
      rcases hI with ⟨q1, q2⟩ | ⟨w, rfl, q1, q2, q3, q4⟩
      · obtain ⟨w', e1, e2⟩ := r_out h hN hs m (m : Int) (by omega) (by
          refine Or.inr ⟨m, rfl, by omega, by omega, tk, fun c hc hc4 hc2 => ?_⟩
          by_cases hck : c = m
          · subst hck; exact ⟨Int.le_refl _, fun _ => Nat.le_refl _⟩
          · rw [q2 c (by omega) hc4] at hc2; cases hc2) hex
        refine ⟨w', e1, fun n => ?_⟩
        rw [show n + (m + 1) + 1 = (n + m + 1) + 1 by omega, lX12_runoff, hx]
        refine h_neg (by omega) (h_pos rfl (h_neg (by first | omega | ((simp (disch := omega) only [i0, i1, i_lt, i_le, i_eq, i_add, i_sub, i_mul, i_neg, i_ofNat, i_rem, i_div, w_in, w_in2, w_cnt, w_cnt2, z01, z01', il, li, lc_ge, lc_le, lc_gt, lc_lt, lc_eq, l_ofNat, l0, l_eq, l_lt, l_le]) <;> omega)) ?_))
        rw [has_nat (by omega) (by omega), tk, i_add, hy]
        exact h_neg (by decide) (h_pos (by first | omega | ((simp (disch := omega) only [i0, i1, i_lt, i_le, i_eq, i_add, i_sub, i_mul, i_neg, i_ofNat, i_rem, i_div, w_in, w_in2, w_cnt, w_cnt2, z01, z01', il, li, lc_ge, lc_le, lc_gt, lc_lt, lc_eq, l_ofNat, l0, l_eq, l_lt, l_le]) <;> omega)) (e2 n))
      · have hrw := fvS_rng h (s := s) (c := w) 5 0 0 (by omega)
        by_cases hle : fvS (rv S 266) s w 0 5 0 ≤ fvS (rv S 266) s m 0 5 0
        · obtain ⟨w', e1, e2⟩ := r_out h hN hs m (w : Int) (by omega) (by
            refine Or.inr ⟨w, rfl, by omega, q2, q3, fun c hc hc4 hc2 => ?_⟩
            by_cases hck : c = m
            · subst hck; exact ⟨hle, fun _ => by omega⟩
            · exact q4 c (by omega) hc4 hc2) hex
          refine ⟨w', e1, fun n => ?_⟩
          rw [show n + (m + 1) + 1 = (n + m + 1) + 1 by omega, lX12_runoff, hx]
          refine h_neg (by omega) (h_pos rfl (h_neg (by first | omega | ((simp (disch := omega) only [i0, i1, i_lt, i_le, i_eq, i_add, i_sub, i_mul, i_neg, i_ofNat, i_rem, i_div, w_in, w_in2, w_cnt, w_cnt2, z01, z01', il, li, lc_ge, lc_le, lc_gt, lc_lt, lc_eq, l_ofNat, l0, l_eq, l_lt, l_le]) <;> omega)) ?_))
          rw [has_nat (by omega) (by omega), tk, i_add, hy]
          refine h_neg (by decide) (h_neg (by first | omega | ((simp (disch := omega) only [i0, i1, i_lt, i_le, i_eq, i_add, i_sub, i_mul, i_neg, i_ofNat, i_rem, i_div, w_in, w_in2, w_cnt, w_cnt2, z01, z01', il, li, lc_ge, lc_le, lc_gt, lc_lt, lc_eq, l_ofNat, l0, l_eq, l_lt, l_le]) <;> omega)) (h_bind (r_fv h hN hs (by omega) tk) (h_bind (r_fv h hN hs q2 q3) ?_)))
          exact h_pos (by first | omega | ((simp (disch := omega) only [i0, i1, i_lt, i_le, i_eq, i_add, i_sub, i_mul, i_neg, i_ofNat, i_rem, i_div, w_in, w_in2, w_cnt, w_cnt2, z01, z01', il, li, lc_ge, lc_le, lc_gt, lc_lt, lc_eq, l_ofNat, l0, l_eq, l_lt, l_le]) <;> omega)) (e2 n)
        · obtain ⟨w', e1, e2⟩ := r_out h hN hs m (m : Int) (by omega) (by
            refine Or.inr ⟨m, rfl, by omega, by omega, tk, fun c hc hc4 hc2 => ?_⟩
            by_cases hck : c = m
            · subst hck; exact ⟨Int.le_refl _, fun _ => Nat.le_refl _⟩
            · have := q4 c (by omega) hc4 hc2
              exact ⟨by omega, fun e => by omega⟩) hex
          refine ⟨w', e1, fun n => ?_⟩
          rw [show n + (m + 1) + 1 = (n + m + 1) + 1 by omega, lX12_runoff, hx]
          refine h_neg (by omega) (h_pos rfl (h_neg (by first | omega | ((simp (disch := omega) only [i0, i1, i_lt, i_le, i_eq, i_add, i_sub, i_mul, i_neg, i_ofNat, i_rem, i_div, w_in, w_in2, w_cnt, w_cnt2, z01, z01', il, li, lc_ge, lc_le, lc_gt, lc_lt, lc_eq, l_ofNat, l0, l_eq, l_lt, l_le]) <;> omega)) ?_))
          rw [has_nat (by omega) (by omega), tk, i_add, hy]
          refine h_neg (by decide) (h_neg (by first | omega | ((simp (disch := omega) only [i0, i1, i_lt, i_le, i_eq, i_add, i_sub, i_mul, i_neg, i_ofNat, i_rem, i_div, w_in, w_in2, w_cnt, w_cnt2, z01, z01', il, li, lc_ge, lc_le, lc_gt, lc_lt, lc_eq, l_ofNat, l0, l_eq, l_lt, l_le]) <;> omega)) (h_bind (r_fv h hN hs (by omega) tk) (h_bind (r_fv h hN hs q2 q3) ?_)))
          exact h_neg (by first | omega | ((simp (disch := omega) only [i0, i1, i_lt, i_le, i_eq, i_add, i_sub, i_mul, i_neg, i_ofNat, i_rem, i_div, w_in, w_in2, w_cnt, w_cnt2, z01, z01', il, li, lc_ge, lc_le, lc_gt, lc_lt, lc_eq, l_ofNat, l0, l_eq, l_lt, l_le]) <;> omega)) (e2 n)
theorem r_round (h : Rel T S) {N : Nat} (hN : 2000000 ≤ N) {s : Nat} (hs : s < 16) (hp : 2 ≤ pc8 s) : ∃ w, isMn s (fun c => fvS (rv S 266) s c 0 5 0) w ∧ ∀ n, lX12_runoff N (n + 6) 0 (Int32.ofInt (s : Int)) 0 0 S = lX12_runoff N n 0 (Int32.ofInt ((s - 2 ^ w : Nat) : Int)) 0 0 S := by
  obtain ⟨w, e1, e2⟩ := r_out h hN hs 4 (-1) (by omega) (Or.inl ⟨rfl, fun c hc hc4 => by omega⟩) (pc_ex' hs (by omega))
  refine ⟨w, e1, fun n => ?_⟩
  have hl := pc8_le s (by omega)
  rw [show n + 6 = (n + 5) + 1 by omega, lX12_runoff]
  refine h_pos rfl (h_bind (pc8_b (by omega) (by omega)) (h_neg (by first | omega | ((simp (disch := omega) only [i0, i1, i_lt, i_le, i_eq, i_add, i_sub, i_mul, i_neg, i_ofNat, i_rem, i_div, w_in, w_in2, w_cnt, w_cnt2, z01, z01', il, li, lc_ge, lc_le, lc_gt, lc_lt, lc_eq, l_ofNat, l0, l_eq, l_lt, l_le]) <;> omega)) ?_))
  exact e2 n
theorem r_last {N : Nat} (hN : 2000000 ≤ N) {s : Nat} (hs : s < 16) (hp : pc8 s = 1) : ∀ n, lX12_runoff N (n + 5) 0 (Int32.ofInt (s : Int)) 0 0 S = some (Int32.ofInt (lowB s : Nat)) := by
  intro n
  rw [show n + 5 = (n + 4) + 1 by omega, lX12_runoff]
  refine h_pos rfl (h_bind (pc8_b (by omega) (by omega)) (h_pos (by first | omega | ((simp (disch := omega) only [i0, i1, i_lt, i_le, i_eq, i_add, i_sub, i_mul, i_neg, i_ofNat, i_rem, i_div, w_in, w_in2, w_cnt, w_cnt2, z01, z01', il, li, lc_ge, lc_le, lc_gt, lc_lt, lc_eq, l_ofNat, l0, l_eq, l_lt, l_le]) <;> omega)) ?_))
  have hex := pc_ex s hs (by omega)
  unfold lowB
  have t0 := has_nat (s := s) (b := 0) (by omega) (by omega)
  have t1 := has_nat (s := s) (b := 1) (by omega) (by omega)
  have t2 := has_nat (s := s) (b := 2) (by omega) (by omega)
  have t3 := has_nat (s := s) (b := 3) (by omega) (by omega)
  rw [show n + 4 = (n + 3) + 1 by omega, lX12_runoff]
  refine h_neg (by omega) (h_neg (by omega) ?_)
  rw [show fX12_has (Int32.ofInt (s : Int)) (Int32.ofInt 0) = _ from t0]
  generalize s.testBit 0 = b0 at *
  generalize s.testBit 1 = b1 at *
  generalize s.testBit 2 = b2 at *
  generalize s.testBit 3 = b3 at *
  cases b0 with
  | true => exact h_pos (by decide) rfl
  | false =>
    refine h_neg (by decide) ?_
    rw [show n + 3 = (n + 2) + 1 by omega, lX12_runoff]
    refine h_neg (by omega) (h_neg (by omega) ?_)
    rw [show fX12_has (Int32.ofInt (s : Int)) (Int32.ofInt 0 + Int32.ofInt 1) = _ from t1]
    cases b1 with
    | true => exact h_pos (by decide) rfl
    | false =>
      refine h_neg (by decide) ?_
      rw [show n + 2 = (n + 1) + 1 by omega, lX12_runoff]
      refine h_neg (by omega) (h_neg (by omega) ?_)
      rw [show fX12_has (Int32.ofInt (s : Int)) (Int32.ofInt 0 + Int32.ofInt 1 + Int32.ofInt 1) = _ from t2]
      cases b2 with
      | true => exact h_pos (by decide) rfl
      | false =>
        refine h_neg (by decide) ?_
        rw [lX12_runoff]
        refine h_neg (by omega) (h_neg (by omega) ?_)
        rw [show fX12_has (Int32.ofInt (s : Int)) (Int32.ofInt 0 + Int32.ofInt 1 + Int32.ofInt 1 + Int32.ofInt 1) = _ from t3]
        cases b3 with
        | true => exact h_pos (by decide) rfl
        | false => cases hex
theorem pm_runoff (h : Rel T S) {N : Nat} (hN : 2000000 ≤ N) : PM0 S (fX11_runoff N) (fX12_runoff N) := by
  have p15 : pc8 15 = 4 := by decide
  obtain ⟨w1, a1, b1⟩ := c_round h hN (s := 15) (by omega) (by omega)
  obtain ⟨x1, c1, d1⟩ := r_round h hN (s := 15) (by omega) (by omega)
  have := isMn_u a1 c1
  subst this
  have q1 := clr_pc 15 (by omega) w1 a1.1 a1.2.1
  generalize 15 - 2 ^ w1 = s1 at *
  obtain ⟨w2, a2, b2⟩ := c_round h hN (s := s1) q1.2 (by omega)
  obtain ⟨x2, c2, d2⟩ := r_round h hN (s := s1) q1.2 (by omega)
  have := isMn_u a2 c2
  subst this
  have q2 := clr_pc s1 q1.2 w2 a2.1 a2.2.1
  generalize s1 - 2 ^ w2 = s2 at *
  obtain ⟨w3, a3, b3⟩ := c_round h hN (s := s2) q2.2 (by omega)
  obtain ⟨x3, c3, d3⟩ := r_round h hN (s := s2) q2.2 (by omega)
  have := isMn_u a3 c3
  subst this
  have q3 := clr_pc s2 q2.2 w3 a3.1 a3.2.1
  generalize s2 - 2 ^ w3 = s3 at *
  refine ⟨Int32.ofInt (lowB s3 : Nat), h_bind (v := Int32.ofInt (lowB s3 : Nat)) ?_ rfl, ?_⟩
  · have key : ∀ M, 8 ≤ M → lX4_lastLeft N M 0 (Int32.ofInt 15) (Int32.ofInt 1) S = some (Int32.ofInt (lowB s3 : Nat)) := by
      intro M hM
      obtain ⟨k, rfl⟩ : ∃ k, M = k + 5 + 1 + 1 + 1 := ⟨M - 8, by omega⟩
      exact ((b1 _ 1 (by omega)).trans (b2 _ 2 (by omega))).trans ((b3 _ 3 (by omega)).trans (c_last q3.2 k))
    exact key N (by omega)
  · have key : ∀ M, 23 ≤ M → lX12_runoff N M 0 (Int32.ofInt 15) 0 0 S = some (Int32.ofInt (lowB s3 : Nat)) := by
      intro M hM
      obtain ⟨k, rfl⟩ : ∃ k, M = k + 5 + 6 + 6 + 6 := ⟨M - 23, by omega⟩
      exact ((d1 _).trans (d2 _)).trans ((d3 _).trans (r_last hN q3.2 (by omega) k))
    exact key N (by omega)
end PMS
