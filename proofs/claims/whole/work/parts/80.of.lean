/-! ===== of, brings, whose ===== -/
theorem txC_Fq {T : yK} {S S' : yS} {o : Nat} {w : wP} (h : txC T S o w) (hF : Fq S S') : txC T S' o w := by
  have ho : 281 ≤ o := (yTx_K h.1).2.2.2.2.2.2
  exact txC_congr h (hF.1 o (by unfold kO; omega)) (hF.2.1 _ (by unfold kA; omega)) (hF.2.1 _ (by unfold kA; omega))
def alT (c : Nat → Bool) : Nat → Nat → Bool
  | 0, _ => true
  | r + 1, k => c k && alT c r (k + 1)
def tlB (W : Nat → wP) (A : Nat → Int) (t : Int) (k : Nat) : Bool := decide (brS W A t (A (92 + 2 * k)).toNat = A (93 + 2 * k))
def wsF (c : Nat → Bool) : Nat → Nat → Int32 → Int32
  | 0, _, l => l
  | r + 1, t, l => wsF c r (t + 1) (if c t = true then l ||| ((Int32.ofInt 1) <<< ((Int32.ofInt (t : Int)) &&& 31)) else l)
section PMS
variable {T : yK} {S : yS} {A : Nat → Int} {W : Nat → wP}
theorem k_hasB (h : cR 0 A S) (hr : rI A) {b : Int} (h1 : -2147483648 ≤ b) (h2 : b < 2147483648) : fX0_hasBird (Int32.ofInt b) S = some (Int32.ofInt (if 0 ≤ b ∧ b < A 0 then 1 else 0)) := by
  have h8 := I_i0 hr
  unfold fX0_hasBird
  rw [K_birds h]
  by_cases c0 : 0 ≤ b
  · by_cases c1 : b < A 0
    · have e : (if 0 ≤ b ∧ b < A 0 then (1 : Int) else 0) = 1 := if_pos ⟨c0, c1⟩
      rw [e]
      exact h_neg (by first | omega | ((simp (disch := omega) only [i0, i1, i_lt, i_le, i_eq, i_add, i_sub, i_mul, i_neg, i_ofNat, i_rem, i_div, w_in, w_in2, w_cnt, w_cnt2, z01, z01', il, li, lc_ge, lc_le, lc_gt, lc_lt, lc_eq, l_ofNat, l0, l_eq, l_lt, l_le]) <;> omega)) (h_neg (by first | omega | ((simp (disch := omega) only [i0, i1, i_lt, i_le, i_eq, i_add, i_sub, i_mul, i_neg, i_ofNat, i_rem, i_div, w_in, w_in2, w_cnt, w_cnt2, z01, z01', il, li, lc_ge, lc_le, lc_gt, lc_lt, lc_eq, l_ofNat, l0, l_eq, l_lt, l_le]) <;> omega)) rfl)
    · have e : (if 0 ≤ b ∧ b < A 0 then (1 : Int) else 0) = 0 := if_neg (fun q => c1 q.2)
      rw [e]
      exact h_neg (by first | omega | ((simp (disch := omega) only [i0, i1, i_lt, i_le, i_eq, i_add, i_sub, i_mul, i_neg, i_ofNat, i_rem, i_div, w_in, w_in2, w_cnt, w_cnt2, z01, z01', il, li, lc_ge, lc_le, lc_gt, lc_lt, lc_eq, l_ofNat, l0, l_eq, l_lt, l_le]) <;> omega)) (h_pos (by first | omega | ((simp (disch := omega) only [i0, i1, i_lt, i_le, i_eq, i_add, i_sub, i_mul, i_neg, i_ofNat, i_rem, i_div, w_in, w_in2, w_cnt, w_cnt2, z01, z01', il, li, lc_ge, lc_le, lc_gt, lc_lt, lc_eq, l_ofNat, l0, l_eq, l_lt, l_le]) <;> omega)) rfl)
  · have e : (if 0 ≤ b ∧ b < A 0 then (1 : Int) else 0) = 0 := if_neg (fun q => c0 q.1)
    rw [e]
    exact h_pos (by first | omega | ((simp (disch := omega) only [i0, i1, i_lt, i_le, i_eq, i_add, i_sub, i_mul, i_neg, i_ofNat, i_rem, i_div, w_in, w_in2, w_cnt, w_cnt2, z01, z01', il, li, lc_ge, lc_le, lc_gt, lc_lt, lc_eq, l_ofNat, l0, l_eq, l_lt, l_le]) <;> omega)) rfl
theorem q_isB (hr : rI (rv S 266)) {b : Int} (h1 : -2147483648 ≤ b) (h2 : b < 2147483648) : fX12_isBird (Int32.ofInt b) S = some (Int32.ofInt (if 0 ≤ b ∧ b < rv S 266 0 then 1 else 0)) := by
  have h8 := I_i0 hr
  unfold fX12_isBird
  rw [rv_eq S 266 0, i_sub, w_in2 h1 h2 (by omega) (by omega) (by omega) (by omega)]
  refine h_pos (by rw [i0, i1, z01']; trivial) ?_
  by_cases c : 0 ≤ b ∧ b < rv S 266 0
  · rw [if_pos c, if_pos (by omega)]
  · rw [if_neg c, if_neg (by omega)]
theorem pm_of (h : Rel T S) {N : Nat} (hN : 2000000 ≤ N) (v0 v1 : Int32) : PM T S (fX11_of N T v0 v1) (fX12_of N v0 v1) := by
  obtain ⟨a, a1, a2, rfl⟩ := i_ex v0
  obtain ⟨b, b1, b2, rfl⟩ := i_ex v1
  obtain ⟨W, hW, hV⟩ := Rel_W h
  have hr := hV.1
  have h8 := I_i0 hr
  have kb := k_hasB hW.1 hr a1 a2
  have qb := q_isB hr a1 a2
  unfold PM fX11_of fX12_of
  by_cases ha : 0 ≤ a ∧ a < rv S 266 0
  · rw [if_pos ha] at kb qb
    obtain ⟨k, rfl⟩ := Int.eq_ofNat_of_zero_le ha.1
    have kg := k_gone hW.1 (show k < 32 by omega)
    have qg := q_gone hr (show k < 32 by omega)
    by_cases hb : 0 ≤ b ∧ b ≤ 5
    · have hc : b = 0 ∨ b = 1 ∨ b = 2 ∨ b = 3 ∨ b = 4 ∨ b = 5 := by omega
      rcases hc with rfl | rfl | rfl | rfl | rfl | rfl
      · refine ⟨Int32.ofInt (rv S 266 (21 + k)), S, S, h_bind kb (h_pos (by decide) (h_pos rfl (h_ainN (by omega) (by omega) ?_))), h_bind qb (h_pos (by decide) (h_pos rfl ?_)), h⟩
        · rw [K_per hW.1 (by omega)]
        · rw [i_add, show (21 : Int) + (k : Int) = ((21 + k : Nat) : Int) by omega]
          refine h_ainN (by omega) (by omega) ?_
          rw [rv_eq]
      · refine ⟨Int32.ofInt (rv S 266 (29 + k)), S, S, h_bind kb (h_pos (by decide) (h_neg (by decide) (h_pos rfl (h_ainN (by omega) (by omega) ?_)))), h_bind qb (h_pos (by decide) (h_neg (by decide) (h_pos rfl ?_))), h⟩
        · rw [K_pha hW.1 (by omega)]
        · rw [i_add, show (29 : Int) + (k : Int) = ((29 + k : Nat) : Int) by omega]
          refine h_ainN (by omega) (by omega) ?_
          rw [rv_eq]
      · refine ⟨Int32.ofInt (rv S 266 (37 + k)), S, S, h_bind kb (h_pos (by decide) (h_neg (by decide) (h_neg (by decide) (h_pos rfl (h_ainN (by omega) (by omega) ?_))))), h_bind qb (h_pos (by decide) (h_neg (by decide) (h_neg (by decide) (h_pos rfl ?_)))), h⟩
        · rw [K_odd hW.1 (by omega)]
        · rw [i_add, show (37 : Int) + (k : Int) = ((37 + k : Nat) : Int) by omega]
          refine h_ainN (by omega) (by omega) ?_
          rw [rv_eq]
      · by_cases hg : tb (Int32.ofInt (rv S 266 12)) k = true
        · rw [if_pos hg] at kg qg
          exact ⟨Int32.ofInt 1, S, S, h_bind kb (h_pos (by decide) (h_neg (by decide) (h_neg (by decide) (h_neg (by decide) (h_pos rfl (h_bind kg (h_neg (by decide) rfl))))))), h_bind qb (h_pos (by decide) (h_neg (by decide) (h_neg (by decide) (h_neg (by decide) (h_pos rfl (h_bind qg (h_neg (by decide) rfl))))))), h⟩
        · rw [if_neg hg] at kg qg
          exact ⟨Int32.ofInt 0, S, S, h_bind kb (h_pos (by decide) (h_neg (by decide) (h_neg (by decide) (h_neg (by decide) (h_pos rfl (h_bind kg (h_pos (by decide) rfl))))))), h_bind qb (h_pos (by decide) (h_neg (by decide) (h_neg (by decide) (h_neg (by decide) (h_pos rfl (h_bind qg (h_pos (by decide) rfl))))))), h⟩
      · refine ⟨Int32.ofInt (rv S 266 (13 + k)), S, S, h_bind kb (h_pos (by decide) (h_neg (by decide) (h_neg (by decide) (h_neg (by decide) (h_neg (by decide) (h_pos rfl (h_ainN (by omega) (by omega) ?_))))))), h_bind qb (h_pos (by decide) (h_neg (by decide) (h_neg (by decide) (h_neg (by decide) (h_neg (by decide) (h_pos rfl ?_)))))), h⟩
        · rw [K_came hW.1 (by omega)]
        · rw [i_add, show (13 : Int) + (k : Int) = ((13 + k : Nat) : Int) by omega]
          refine h_ainN (by omega) (by omega) ?_
          rw [rv_eq]
      · obtain ⟨S1, e1, f1⟩ := k_chance hW hN ha.2
        have hV1 := RfR_Fq hV f1
        have e6 : rv S1 266 = rv S 266 := Fq_rv f1 (by unfold kA; omega)
        obtain ⟨S2, e2, f2⟩ := q_chance hV1 hN (b := k) (by rw [e6]; exact ha.2)
        have qb1 := q_isB hV1.1 a1 a2
        rw [e6, if_pos ha] at qb1
        rw [e6] at e2
        exact ⟨_, S1, S2, h_bind kb (h_pos (by decide) (h_neg (by decide) (h_neg (by decide) (h_neg (by decide) (h_neg (by decide) (h_neg (by decide) (h_pos rfl (h_bind e1 rfl)))))))), h_bind qb1 (h_pos (by decide) (h_neg (by decide) (h_neg (by decide) (h_neg (by decide) (h_neg (by decide) (h_neg (by decide) (h_pos rfl (h_bind e2 rfl)))))))), Rel_Fq (Rel_Fq h f1) f2⟩
    · exact ⟨Int32.ofInt (-1), S, S, h_bind kb (h_pos (by decide) (h_neg (by first | omega | ((simp (disch := omega) only [i0, i1, i_lt, i_le, i_eq, i_add, i_sub, i_mul, i_neg, i_ofNat, i_rem, i_div, w_in, w_in2, w_cnt, w_cnt2, z01, z01', il, li, lc_ge, lc_le, lc_gt, lc_lt, lc_eq, l_ofNat, l0, l_eq, l_lt, l_le]) <;> omega)) (h_neg (by first | omega | ((simp (disch := omega) only [i0, i1, i_lt, i_le, i_eq, i_add, i_sub, i_mul, i_neg, i_ofNat, i_rem, i_div, w_in, w_in2, w_cnt, w_cnt2, z01, z01', il, li, lc_ge, lc_le, lc_gt, lc_lt, lc_eq, l_ofNat, l0, l_eq, l_lt, l_le]) <;> omega)) (h_neg (by first | omega | ((simp (disch := omega) only [i0, i1, i_lt, i_le, i_eq, i_add, i_sub, i_mul, i_neg, i_ofNat, i_rem, i_div, w_in, w_in2, w_cnt, w_cnt2, z01, z01', il, li, lc_ge, lc_le, lc_gt, lc_lt, lc_eq, l_ofNat, l0, l_eq, l_lt, l_le]) <;> omega)) (h_neg (by first | omega | ((simp (disch := omega) only [i0, i1, i_lt, i_le, i_eq, i_add, i_sub, i_mul, i_neg, i_ofNat, i_rem, i_div, w_in, w_in2, w_cnt, w_cnt2, z01, z01', il, li, lc_ge, lc_le, lc_gt, lc_lt, lc_eq, l_ofNat, l0, l_eq, l_lt, l_le]) <;> omega)) (h_neg (by first | omega | ((simp (disch := omega) only [i0, i1, i_lt, i_le, i_eq, i_add, i_sub, i_mul, i_neg, i_ofNat, i_rem, i_div, w_in, w_in2, w_cnt, w_cnt2, z01, z01', il, li, lc_ge, lc_le, lc_gt, lc_lt, lc_eq, l_ofNat, l0, l_eq, l_lt, l_le]) <;> omega)) (h_neg (by first | omega | ((simp (disch := omega) only [i0, i1, i_lt, i_le, i_eq, i_add, i_sub, i_mul, i_neg, i_ofNat, i_rem, i_div, w_in, w_in2, w_cnt, w_cnt2, z01, z01', il, li, lc_ge, lc_le, lc_gt, lc_lt, lc_eq, l_ofNat, l0, l_eq, l_lt, l_le]) <;> omega)) rfl))))))), h_bind qb (h_pos (by decide) (h_neg (by first | omega | ((simp (disch := omega) only [i0, i1, i_lt, i_le, i_eq, i_add, i_sub, i_mul, i_neg, i_ofNat, i_rem, i_div, w_in, w_in2, w_cnt, w_cnt2, z01, z01', il, li, lc_ge, lc_le, lc_gt, lc_lt, lc_eq, l_ofNat, l0, l_eq, l_lt, l_le]) <;> omega)) (h_neg (by first | omega | ((simp (disch := omega) only [i0, i1, i_lt, i_le, i_eq, i_add, i_sub, i_mul, i_neg, i_ofNat, i_rem, i_div, w_in, w_in2, w_cnt, w_cnt2, z01, z01', il, li, lc_ge, lc_le, lc_gt, lc_lt, lc_eq, l_ofNat, l0, l_eq, l_lt, l_le]) <;> omega)) (h_neg (by first | omega | ((simp (disch := omega) only [i0, i1, i_lt, i_le, i_eq, i_add, i_sub, i_mul, i_neg, i_ofNat, i_rem, i_div, w_in, w_in2, w_cnt, w_cnt2, z01, z01', il, li, lc_ge, lc_le, lc_gt, lc_lt, lc_eq, l_ofNat, l0, l_eq, l_lt, l_le]) <;> omega)) (h_neg (by first | omega | ((simp (disch := omega) only [i0, i1, i_lt, i_le, i_eq, i_add, i_sub, i_mul, i_neg, i_ofNat, i_rem, i_div, w_in, w_in2, w_cnt, w_cnt2, z01, z01', il, li, lc_ge, lc_le, lc_gt, lc_lt, lc_eq, l_ofNat, l0, l_eq, l_lt, l_le]) <;> omega)) (h_neg (by first | omega | ((simp (disch := omega) only [i0, i1, i_lt, i_le, i_eq, i_add, i_sub, i_mul, i_neg, i_ofNat, i_rem, i_div, w_in, w_in2, w_cnt, w_cnt2, z01, z01', il, li, lc_ge, lc_le, lc_gt, lc_lt, lc_eq, l_ofNat, l0, l_eq, l_lt, l_le]) <;> omega)) (h_neg (by first | omega | ((simp (disch := omega) only [i0, i1, i_lt, i_le, i_eq, i_add, i_sub, i_mul, i_neg, i_ofNat, i_rem, i_div, w_in, w_in2, w_cnt, w_cnt2, z01, z01', il, li, lc_ge, lc_le, lc_gt, lc_lt, lc_eq, l_ofNat, l0, l_eq, l_lt, l_le]) <;> omega)) rfl))))))), h⟩
  · rw [if_neg ha] at kb qb
    exact ⟨Int32.ofInt (-1), S, S, h_bind kb (h_neg (by decide) rfl), h_bind qb (h_neg (by decide) rfl), h⟩
theorem pm_brings (h : Rel T S) {N : Nat} (hN : 2000000 ≤ N) (v0 : Int32) : PM T S (fX11_brings N T v0) (fX12_brings N v0) := by
  obtain ⟨a, a1, a2, rfl⟩ := i_ex v0
  obtain ⟨W, hW, hV⟩ := Rel_W h
  have hr := hV.1
  have h2 := I_i2 hr
  unfold PM fX11_brings fX12_brings
  by_cases ha : 0 ≤ a ∧ a ≤ 8
  · obtain ⟨k, rfl⟩ := Int.eq_ofNat_of_zero_le ha.1
    have hq : ∀ S1, Fq S S1 → ∃ S2, (if (fX12_isCount (Int32.ofInt (k : Int))) = 0 then some ((Int32.ofInt (-1000)), S1) else (fX12_bringsOf N (S1.2.2.1 266 2) (Int32.ofInt (k : Int)) S1).bind fun (u3, S2) => some (u3, S2)) = some (Int32.ofInt (brS W (rv S 266) (rv S 266 2) k), S2) ∧ Fq S S2 := by
      intro S1 f1
      have hV1 := RfR_Fq hV f1
      have e6 : rv S1 266 = rv S 266 := Fq_rv f1 (by unfold kA; omega)
      obtain ⟨S2, e2, f2⟩ := q_brings hV1 hN (t := rv S 266 2) (by rw [e6]; exact h2) (show k < 9 by omega)
      rw [e6] at e2
      refine ⟨S2, h_neg (by first | omega | ((simp (disch := omega) only [i0, i1, i_lt, i_le, i_eq, i_add, i_sub, i_mul, i_neg, i_ofNat, i_rem, i_div, w_in, w_in2, w_cnt, w_cnt2, z01, z01', il, li, lc_ge, lc_le, lc_gt, lc_lt, lc_eq, l_ofNat, l0, l_eq, l_lt, l_le]) <;> omega)) ?_, Fq_trans f1 f2⟩
      rw [rv_eq S1 266 2, e6]
      exact h_bind e2 rfl
    rcases k_rule hW with ⟨c, e⟩ | ⟨m, o, c, x, e⟩
    · have e1 := k_bringsN hW (N := N) (show k < 9 by omega)
      obtain ⟨S2, e2, f2⟩ := hq S (Fq_refl S)
      refine ⟨_, S, S2, h_neg (by first | omega | ((simp (disch := omega) only [i0, i1, i_lt, i_le, i_eq, i_add, i_sub, i_mul, i_neg, i_ofNat, i_rem, i_div, w_in, w_in2, w_cnt, w_cnt2, z01, z01', il, li, lc_ge, lc_le, lc_gt, lc_lt, lc_eq, l_ofNat, l0, l_eq, l_lt, l_le]) <;> omega)) (h_bind e (h_bind e1 ?_)), e2, Rel_Fq h f2⟩
      unfold brS
      rw [if_pos c]
    · obtain ⟨S1, e1, f1⟩ := k_brings hW hN x (show k < 9 by omega)
      obtain ⟨S2, e2, f2⟩ := hq S1 f1
      refine ⟨_, S1, S2, h_neg (by first | omega | ((simp (disch := omega) only [i0, i1, i_lt, i_le, i_eq, i_add, i_sub, i_mul, i_neg, i_ofNat, i_rem, i_div, w_in, w_in2, w_cnt, w_cnt2, z01, z01', il, li, lc_ge, lc_le, lc_gt, lc_lt, lc_eq, l_ofNat, l0, l_eq, l_lt, l_le]) <;> omega)) (h_bind e (h_pos x.1 (h_bind e1 ?_))), e2, Rel_Fq h f2⟩
      unfold brS
      rw [if_neg (by omega), c, Int.toNat_natCast]
  · exact ⟨Int32.ofInt (-1000), S, S, h_pos (by first | omega | ((simp (disch := omega) only [i0, i1, i_lt, i_le, i_eq, i_add, i_sub, i_mul, i_neg, i_ofNat, i_rem, i_div, w_in, w_in2, w_cnt, w_cnt2, z01, z01', il, li, lc_ge, lc_le, lc_gt, lc_lt, lc_eq, l_ofNat, l0, l_eq, l_lt, l_le]) <;> omega)) rfl, h_pos (by first | omega | ((simp (disch := omega) only [i0, i1, i_lt, i_le, i_eq, i_add, i_sub, i_mul, i_neg, i_ofNat, i_rem, i_div, w_in, w_in2, w_cnt, w_cnt2, z01, z01', il, li, lc_ge, lc_le, lc_gt, lc_lt, lc_eq, l_ofNat, l0, l_eq, l_lt, l_le]) <;> omega)) rfl, h⟩
/-! whose: the class -/
theorem k_allT (t : Int) {N : Nat} (hN : 2000000 ≤ N) : ∀ (r n k : Nat) (S : yS) (o : Nat), ClR T A S W → txC T S o (W t.toNat) → 0 ≤ t → (k + r : Nat) = A 5 → r < n → ∃ S', lX11_bringsAllTold_T N T o n (Int32.ofInt (k : Int)) S = some (Int32.ofInt (if alT (tlB W A t) r k = true then 1 else 0), S') ∧ Fq S S'
  | 0, n + 1, k, S, o, h, x, h0, hk, _ => by
    have h5 := I_i5 h.2.1
    rw [lX11_bringsAllTold_T, K_tolds h.1]
    exact ⟨S, h_pos (by first | omega | ((simp (disch := omega) only [i0, i1, i_lt, i_le, i_eq, i_add, i_sub, i_mul, i_neg, i_ofNat, i_rem, i_div, w_in, w_in2, w_cnt, w_cnt2, z01, z01', il, li, lc_ge, lc_le, lc_gt, lc_lt, lc_eq, l_ofNat, l0, l_eq, l_lt, l_le]) <;> omega)) rfl, Fq_refl S⟩
  | r + 1, n + 1, k, S, o, h, x, h0, hk, hn => by
    have h5 := I_i5 h.2.1
    have hc := I_tcn h.2.1 (show k < 8 by omega)
    have hb := I_tbr h.2.1 (show k < 8 by omega)
    rw [lX11_bringsAllTold_T, K_tolds h.1, i_add, show (k : Int) + 1 = ((k + 1 : Nat) : Int) by omega]
    obtain ⟨S1, e1, f1⟩ := k_brings h hN x (show (A (92 + 2 * k)).toNat < 9 by omega)
    have hg := brS_rng (W := W) (t := t) h.2.1 (show (A (92 + 2 * k)).toNat < 9 by omega)
    have e1 : fX1_broughtBy_T N T o (Int32.ofInt (A (92 + 2 * k))) S = some (Int32.ofInt (brS W A t (A (92 + 2 * k)).toNat), S1) := by
      rw [show (((A (92 + 2 * k)).toNat : Nat) : Int) = A (92 + 2 * k) by omega] at e1
      rw [e1]
      unfold brS
      rw [if_neg (by omega)]
    have h1 := ClR_Fq h f1
    unfold alT
    by_cases hq : brS W A t (A (92 + 2 * k)).toNat = A (93 + 2 * k)
    · obtain ⟨S2, e2, f2⟩ := k_allT t hN r n (k + 1) S1 o h1 (txC_Fq x f1) h0 (by omega) (by omega)
      refine ⟨S2, h_neg (by first | omega | ((simp (disch := omega) only [i0, i1, i_lt, i_le, i_eq, i_add, i_sub, i_mul, i_neg, i_ofNat, i_rem, i_div, w_in, w_in2, w_cnt, w_cnt2, z01, z01', il, li, lc_ge, lc_le, lc_gt, lc_lt, lc_eq, l_ofNat, l0, l_eq, l_lt, l_le]) <;> omega)) (h_ainN (by omega) (by omega) ?_), Fq_trans f1 f2⟩
      rw [K_tcn h.1 (by omega)]
      refine h_bind e1 ?_
      dsimp only
      refine h_ainN (by omega) (by omega) ?_
      rw [K_tbr h1.1 (by omega), hq]
      refine h_pos rfl ?_
      rw [e2, show tlB W A t k = true from decide_eq_true hq, Bool.true_and]
    · refine ⟨S1, h_neg (by first | omega | ((simp (disch := omega) only [i0, i1, i_lt, i_le, i_eq, i_add, i_sub, i_mul, i_neg, i_ofNat, i_rem, i_div, w_in, w_in2, w_cnt, w_cnt2, z01, z01', il, li, lc_ge, lc_le, lc_gt, lc_lt, lc_eq, l_ofNat, l0, l_eq, l_lt, l_le]) <;> omega)) (h_ainN (by omega) (by omega) ?_), f1⟩
      rw [K_tcn h.1 (by omega)]
      refine h_bind e1 ?_
      dsimp only
      refine h_ainN (by omega) (by omega) ?_
      rw [K_tbr h1.1 (by omega)]
      refine h_neg (by first | omega | ((simp (disch := omega) only [i0, i1, i_lt, i_le, i_eq, i_add, i_sub, i_mul, i_neg, i_ofNat, i_rem, i_div, w_in, w_in2, w_cnt, w_cnt2, z01, z01', il, li, lc_ge, lc_le, lc_gt, lc_lt, lc_eq, l_ofNat, l0, l_eq, l_lt, l_le]) <;> omega)) ?_
      rw [show tlB W A t k = false from decide_eq_false hq]
      rfl
theorem k_whoL {N : Nat} (hN : 2000000 ≤ N) : ∀ (r n t : Nat) (l : Int32) (S : yS), ClR T A S W → (t + r : Nat) = A 1 → r < n → ∃ S', lX11_whose N T n l (Int32.ofInt (t : Int)) S = some (wsF (fun t => alT (tlB W A t) (A 5).toNat 0) r t l, S') ∧ Fq S S'
  | 0, n + 1, t, l, S, h, ht, _ => by
    have h1 := I_i1 h.2.1
    rw [lX11_whose, K_texts h.1]
    exact ⟨S, h_pos (by first | omega | ((simp (disch := omega) only [i0, i1, i_lt, i_le, i_eq, i_add, i_sub, i_mul, i_neg, i_ofNat, i_rem, i_div, w_in, w_in2, w_cnt, w_cnt2, z01, z01', il, li, lc_ge, lc_le, lc_gt, lc_lt, lc_eq, l_ofNat, l0, l_eq, l_lt, l_le]) <;> omega)) rfl, Fq_refl S⟩
  | r + 1, n + 1, t, l, S, h, ht, hn => by
    have h1 := I_i1 h.2.1
    have h5 := I_i5 h.2.1
    rcases k_text h (t := (t : Int)) (by omega) with ⟨a, -⟩ | ⟨k, o, a, x, e⟩
    · omega
    · obtain rfl : k = t := by omega
      obtain ⟨S1, e1, f1⟩ := k_allT (k : Int) hN (A 5).toNat N 0 S o h x (by omega) (by omega) (by omega)
      obtain ⟨S2, e2, f2⟩ := k_whoL hN r n (k + 1) (if alT (tlB W A (k : Int)) (A 5).toNat 0 = true then l ||| ((Int32.ofInt 1) <<< ((Int32.ofInt (k : Int)) &&& 31)) else l) S1 (ClR_Fq h f1) (by omega) (by omega)
      refine ⟨S2, ?_, Fq_trans f1 f2⟩
      rw [lX11_whose, K_texts h.1, i_add, show (k : Int) + 1 = ((k + 1 : Nat) : Int) by omega]
      refine h_neg (by first | omega | ((simp (disch := omega) only [i0, i1, i_lt, i_le, i_eq, i_add, i_sub, i_mul, i_neg, i_ofNat, i_rem, i_div, w_in, w_in2, w_cnt, w_cnt2, z01, z01', il, li, lc_ge, lc_le, lc_gt, lc_lt, lc_eq, l_ofNat, l0, l_eq, l_lt, l_le]) <;> omega)) (h_bind e (h_pos x.1 (h_bind e1 ?_)))
      dsimp only
      unfold wsF
      rw [← e2]
      by_cases hq : alT (tlB W A (k : Int)) (A 5).toNat 0 = true
      · rw [if_pos hq, if_pos hq]
        exact h_neg (by decide) (h_pst rfl)
      · rw [if_neg hq, if_neg hq]
        exact h_pos (by decide) rfl
/-! whose: the reference -/
theorem or_0 (x : Int32) : x ||| Int32.ofInt 0 = x := by
  apply Int32.toBitVec_inj.mp
  rw [Int32.toBitVec_or]
  exact BitVec.or_zero
theorem q_allT {N : Nat} (hN : 2000000 ≤ N) {t : Nat} {l : Int32} : ∀ (r n k : Nat) (c : Bool) (S : yS), RfR S W → rv S 266 = A → (t : Int) < A 1 → (k + r : Nat) = A 5 → ∃ S', lX12_whose N (n + (r + 1)) 1 l (Int32.ofInt (t : Int)) (Int32.ofInt (if c = true then 1 else 0)) (Int32.ofInt ((92 + 2 * k : Nat) : Int)) S = lX12_whose N n 0 (if (c && alT (tlB W A t) r k) = true then l ||| ((Int32.ofInt 1) <<< ((Int32.ofInt (t : Int)) &&& 31)) else l) (Int32.ofInt ((t + 1 : Nat) : Int)) 0 0 S' ∧ Fq S S'
  | 0, n, k, c, S, h, hA, ht, hk => by
    have hr := h.1
    rw [hA] at hr
    have h5 := I_i5 hr
    refine ⟨S, ?_, Fq_refl S⟩
    rw [lX12_whose, rv_eq S 266 5, hA, i_mul, i_add, i_add, show (t : Int) + 1 = ((t + 1 : Nat) : Int) by omega]
    refine h_neg (by decide) (h_pos (by first | omega | ((simp (disch := omega) only [i0, i1, i_lt, i_le, i_eq, i_add, i_sub, i_mul, i_neg, i_ofNat, i_rem, i_div, w_in, w_in2, w_cnt, w_cnt2, z01, z01', il, li, lc_ge, lc_le, lc_gt, lc_lt, lc_eq, l_ofNat, l0, l_eq, l_lt, l_le]) <;> omega)) ?_)
    unfold alT
    rw [Bool.and_true, or_0]
    cases c with
    | true => exact h_neg (by decide) (h_pst rfl)
    | false => exact h_pos (by decide) rfl
  | r + 1, n, k, c, S, h, hA, ht, hk => by
    have hr := h.1
    rw [hA] at hr
    have h1 := I_i1 hr
    have h5 := I_i5 hr
    have hc := I_tcn hr (show k < 8 by omega)
    have hb := I_tbr hr (show k < 8 by omega)
    rw [show n + (r + 1 + 1) = (n + (r + 1)) + 1 by omega, lX12_whose, rv_eq S 266 5, hA]
    simp only [i_mul, i_add]
    rw [show ((92 + 2 * k : Nat) : Int) + 2 = ((92 + 2 * (k + 1) : Nat) : Int) by omega, show ((92 + 2 * k : Nat) : Int) + 1 = ((93 + 2 * k : Nat) : Int) by omega]
    cases c with
    | false =>
      obtain ⟨S2, e2, f2⟩ := q_allT hN r n (k + 1) false S h hA ht (by omega)
      refine ⟨S2, h_neg (by decide) (h_neg (by first | omega | ((simp (disch := omega) only [i0, i1, i_lt, i_le, i_eq, i_add, i_sub, i_mul, i_neg, i_ofNat, i_rem, i_div, w_in, w_in2, w_cnt, w_cnt2, z01, z01', il, li, lc_ge, lc_le, lc_gt, lc_lt, lc_eq, l_ofNat, l0, l_eq, l_lt, l_le]) <;> omega)) (h_pos (by decide) ?_)), f2⟩
      rw [Bool.false_and] at e2 ⊢
      exact e2
    | true =>
      obtain ⟨S1, e1, f1⟩ := q_brings h hN (t := (t : Int)) (by rw [hA]; omega) (show (A (92 + 2 * k)).toNat < 9 by omega)
      have e6 : rv S1 266 = A := (Fq_rv f1 (by unfold kA; omega)).trans hA
      have hg := brS_rng (W := W) (t := t) hr (show (A (92 + 2 * k)).toNat < 9 by omega)
      rw [hA, show (((A (92 + 2 * k)).toNat : Nat) : Int) = A (92 + 2 * k) by omega] at e1
      unfold alT
      by_cases hq : brS W A t (A (92 + 2 * k)).toNat = A (93 + 2 * k)
      · obtain ⟨S2, e2, f2⟩ := q_allT hN r n (k + 1) true S1 (RfR_Fq h f1) e6 ht (by omega)
        refine ⟨S2, h_neg (by decide) (h_neg (by first | omega | ((simp (disch := omega) only [i0, i1, i_lt, i_le, i_eq, i_add, i_sub, i_mul, i_neg, i_ofNat, i_rem, i_div, w_in, w_in2, w_cnt, w_cnt2, z01, z01', il, li, lc_ge, lc_le, lc_gt, lc_lt, lc_eq, l_ofNat, l0, l_eq, l_lt, l_le]) <;> omega)) (h_neg (by decide) (h_ainN (by omega) (by omega) ?_))), Fq_trans f1 f2⟩
        rw [rv_eq S 266, hA]
        refine h_bind e1 ?_
        dsimp only
        refine h_ainN (by omega) (by omega) ?_
        rw [rv_eq S1 266, e6, hq, show tlB W A t k = true from decide_eq_true hq, Bool.true_and]
        exact h_neg (fun q => q rfl) e2
      · obtain ⟨S2, e2, f2⟩ := q_allT hN r n (k + 1) false S1 (RfR_Fq h f1) e6 ht (by omega)
        refine ⟨S2, h_neg (by decide) (h_neg (by first | omega | ((simp (disch := omega) only [i0, i1, i_lt, i_le, i_eq, i_add, i_sub, i_mul, i_neg, i_ofNat, i_rem, i_div, w_in, w_in2, w_cnt, w_cnt2, z01, z01', il, li, lc_ge, lc_le, lc_gt, lc_lt, lc_eq, l_ofNat, l0, l_eq, l_lt, l_le]) <;> omega)) (h_neg (by decide) (h_ainN (by omega) (by omega) ?_))), Fq_trans f1 f2⟩
        rw [rv_eq S 266, hA]
        refine h_bind e1 ?_
        dsimp only
        refine h_ainN (by omega) (by omega) ?_
        rw [rv_eq S1 266, e6, show tlB W A t k = false from decide_eq_false hq, Bool.false_and]
        exact h_pos (by first | omega | ((simp (disch := omega) only [i0, i1, i_lt, i_le, i_eq, i_add, i_sub, i_mul, i_neg, i_ofNat, i_rem, i_div, w_in, w_in2, w_cnt, w_cnt2, z01, z01', il, li, lc_ge, lc_le, lc_gt, lc_lt, lc_eq, l_ofNat, l0, l_eq, l_lt, l_le]) <;> omega)) e2
theorem q_whoL {N : Nat} (hN : 2000000 ≤ N) : ∀ (r n t : Nat) (l : Int32) (S : yS), RfR S W → rv S 266 = A → (t + r : Nat) = A 1 → 12 * r < n → ∃ S', lX12_whose N n 0 l (Int32.ofInt (t : Int)) 0 0 S = some (wsF (fun t => alT (tlB W A t) (A 5).toNat 0) r t l, S') ∧ Fq S S'
  | 0, n + 1, t, l, S, h, hA, ht, _ => by
    have hr := h.1
    rw [hA] at hr
    have h1 := I_i1 hr
    rw [lX12_whose, rv_eq S 266 1, hA]
    exact ⟨S, h_pos rfl (h_pos (by first | omega | ((simp (disch := omega) only [i0, i1, i_lt, i_le, i_eq, i_add, i_sub, i_mul, i_neg, i_ofNat, i_rem, i_div, w_in, w_in2, w_cnt, w_cnt2, z01, z01', il, li, lc_ge, lc_le, lc_gt, lc_lt, lc_eq, l_ofNat, l0, l_eq, l_lt, l_le]) <;> omega)) rfl), Fq_refl S⟩
  | r + 1, n + 1, t, l, S, h, hA, ht, hn => by
    have hr := h.1
    rw [hA] at hr
    have h1 := I_i1 hr
    have h5 := I_i5 hr
    obtain ⟨S1, e1, f1⟩ := q_allT (l := l) hN (A 5).toNat (n - ((A 5).toNat + 1)) 0 true S h hA (show (t : Int) < A 1 by omega) (by omega)
    rw [show n - ((A 5).toNat + 1) + ((A 5).toNat + 1) = n by omega, Bool.true_and] at e1
    have e6 : rv S1 266 = A := (Fq_rv f1 (by unfold kA; omega)).trans hA
    obtain ⟨S2, e2, f2⟩ := q_whoL hN r (n - ((A 5).toNat + 1)) (t + 1) (if alT (tlB W A t) (A 5).toNat 0 = true then l ||| ((Int32.ofInt 1) <<< ((Int32.ofInt (t : Int)) &&& 31)) else l) S1 (RfR_Fq h f1) e6 (by omega) (by omega)
    refine ⟨S2, ?_, Fq_trans f1 f2⟩
    rw [lX12_whose, rv_eq S 266 1, hA]
    refine h_pos rfl (h_neg (by first | omega | ((simp (disch := omega) only [i0, i1, i_lt, i_le, i_eq, i_add, i_sub, i_mul, i_neg, i_ofNat, i_rem, i_div, w_in, w_in2, w_cnt, w_cnt2, z01, z01', il, li, lc_ge, lc_le, lc_gt, lc_lt, lc_eq, l_ofNat, l0, l_eq, l_lt, l_le]) <;> omega)) ?_)
    unfold wsF
    rw [← e2]
    exact e1
theorem pm_whose (h : Rel T S) {N : Nat} (hN : 2000000 ≤ N) : PM T S (fX11_whose N T) (fX12_whose N) := by
  obtain ⟨W, hW, hV⟩ := Rel_W h
  have h1 := I_i1 hV.1
  obtain ⟨S1, e1, f1⟩ := k_whoL hN (rv S 266 1).toNat N 0 (Int32.ofInt 0) S hW (by omega) (by omega)
  have e6 : rv S1 266 = rv S 266 := Fq_rv f1 (by unfold kA; omega)
  obtain ⟨S2, e2, f2⟩ := q_whoL hN (rv S 266 1).toNat N 0 (Int32.ofInt 0) S1 (RfR_Fq hV f1) e6 (by omega) (by omega)
  exact ⟨_, S1, S2, e1, e2, Rel_Fq (Rel_Fq h f1) f2⟩
end PMS
