/-! ===== the reference's page and the end of its day ===== -/
theorem rv_ySa {S : yS} {r : Nat} {f : Nat → Int32} : rv (ySa S r f) r = rf f := by rw [rv_rf, ySa_at]
section PMS
variable {T : yK} {S S' : yS} {A A' : Nat → Int} {W : Nat → wP}
theorem wr_step {N : Nat} {c x : Int32} (n k : Nat) (S : yS) (hk : k < 24) : lX12_write N (n + 1) c x (Int32.ofInt ((1 + k : Nat) : Int)) S = lX12_write N n c x (Int32.ofInt ((1 + k + 1 : Nat) : Int)) (ySa S 266 (upd (S.2.2.1 266) (1313 + k) (S.2.2.1 266 (1314 + k)))) := by
  rw [lX12_write]
  refine h_neg (by first | omega | ((simp (disch := omega) only [i0, i1, i_lt, i_le, i_eq, i_add, i_sub, i_mul, i_neg, i_ofNat, i_rem, i_div, w_in, w_in2, w_cnt, w_cnt2, z01, z01', il, li, lc_ge, lc_le, lc_gt, lc_lt, lc_eq, l_ofNat, l0, l_eq, l_lt, l_le]) <;> omega)) ?_
  simp only [i_add, i_sub]
  rw [show (1313 : Int) + ((1 + k : Nat) : Int) = ((1314 + k : Nat) : Int) by omega, show ((1314 + k : Nat) : Int) - 1 = ((1313 + k : Nat) : Int) by omega, show ((1 + k : Nat) : Int) + 1 = ((1 + k + 1 : Nat) : Int) by omega]
  exact h_ainN (by omega) (by omega) (h_ainN (by omega) (by omega) rfl)
theorem q_wr (h : RfR S W) {E : Nat → Int} (hA : rv S 266 = E) {N : Nat} (hN : 2000000 ≤ N) {c : Nat} (hc : c < 9) {x : Int} (hx : -99 ≤ x ∧ x ≤ 99) (hw : S.1 265 23 = Int32.ofInt 1) : ∃ S1, fX12_write N (Int32.ofInt (c : Int)) (Int32.ofInt x) S = some S1 ∧ RfR S1 W ∧ rv S1 266 = wrA E (((E 6 * 9 + c) * 10 + E (45 + c)) * 200 + x + 100) ∧ Hz S S1 := by
  have hr := h.1
  rw [hA] at hr
  have h6 := I_day hr
  have h11 := I_pgs hr
  have h45 := I_rhy hr hc
  have e : ∀ k, S.2.2.1 266 k = Int32.ofInt (E k) := fun k => by rw [rv_eq, hA]
  have hE : rf (S.2.2.1 266) = E := hA
  obtain ⟨p, hp⟩ := Int.eq_ofNat_of_zero_le h11.1
  have hv : 0 ≤ ((E 6 * 9 + c) * 10 + E (45 + c)) * 200 + x + 100 ∧ ((E 6 * 9 + c) * 10 + E (45 + c)) * 200 + x + 100 < 180000000 ∧ 1 ≤ (((E 6 * 9 + c) * 10 + E (45 + c)) * 200 + x + 100) % 200 := by omega
  generalize hV : ((E 6 * 9 + c) * 10 + E (45 + c)) * 200 + x + 100 = v at hv
  have fin : ∀ g : Nat → Int32, rf g = wrA E v → RfR (ySa S 266 g) W ∧ rv (ySa S 266 g) 266 = wrA E v := fun g hg => by
    have e2 : rv (ySa S 266 g) 266 = wrA E v := by rw [rv_ySa, hg]
    refine ⟨RfR_now h (fun k hk => ?_) ?_ rfl, e2⟩
    · rw [e2, hA]; exact wrA_now hr k hk
    · rw [e2, hA]; exact wrA_mI hr hv
  unfold fX12_write
  rw [hw]
  by_cases h25 : E 11 < 25
  · have q := fin (upd (upd (S.2.2.1 266) (1313 + p) (Int32.ofInt v)) 11 (Int32.ofInt ((p : Int) + 1))) (by
      rw [rf_upd (by omega) (by omega), rf_upd (by omega) (by omega), hE]
      unfold wrA
      rw [if_pos h25, hp, Int.toNat_natCast])
    refine ⟨_, h_pos (by decide) ?_, q.1, q.2, Hz_a⟩
    simp only [e, i_add, i_mul]
    rw [hp]
    refine h_pos (by first | omega | ((simp (disch := omega) only [i0, i1, i_lt, i_le, i_eq, i_add, i_sub, i_mul, i_neg, i_ofNat, i_rem, i_div, w_in, w_in2, w_cnt, w_cnt2, z01, z01', il, li, lc_ge, lc_le, lc_gt, lc_lt, lc_eq, l_ofNat, l0, l_eq, l_lt, l_le]) <;> omega)) ?_
    rw [show (45 : Int) + (c : Int) = ((45 + c : Nat) : Int) by omega, show (1313 : Int) + (p : Int) = ((1313 + p : Nat) : Int) by omega]
    refine h_ainN (by omega) (by omega) (h_ainN (by omega) (by omega) (h_pst (h_pst ?_)))
    rw [ySa_ySa, ySa_at, upd_ne (show 11 ≠ 1313 + p by omega), e, hp, i_add, hV]
  · have hp25 : E 11 = 25 := by omega
    have gE : ∀ k, ¬ (1313 ≤ k ∧ k < 1337) → cpF (S.2.2.1 266) (S.2.2.1 266) 1314 1313 24 k = Int32.ofInt (E k) := fun k hk => by
      unfold cpF
      rw [if_neg (by omega), e]
    have q := fin (upd (upd (upd (cpF (S.2.2.1 266) (S.2.2.1 266) 1314 1313 24) 11 (Int32.ofInt 24)) 1337 (Int32.ofInt v)) 11 (Int32.ofInt 25)) (by
      rw [rf_upd (by omega) (by omega), rf_upd (by omega) (by omega), rf_upd (by omega) (by omega)]
      funext k
      unfold wrA rU
      rw [if_neg h25]
      by_cases k11 : k = 11
      · rw [if_pos k11, if_neg (by omega), if_neg (by omega), k11, hp25]
      · rw [if_neg k11, if_neg k11]
        by_cases k37 : k = 1337
        · rw [if_pos k37, if_neg (by omega), if_pos k37]
        · rw [if_neg k37]
          by_cases kk : 1313 ≤ k ∧ k < 1337
          · rw [if_pos kk, ← hE]
            unfold rf cpF
            rw [if_pos (by omega), show 1314 + (k - 1313) = k + 1 by omega]
          · rw [if_neg kk, if_neg k37, ← hE]
            unfold rf cpF
            rw [if_neg (by omega)])
    refine ⟨_, h_pos (by decide) ?_, q.1, q.2, Hz_a⟩
    rw [e 11, hp25]
    refine h_neg (fun z => z rfl) ?_
    have l := cpL0 (F := fun n l3 S => lX12_write N n (Int32.ofInt (c : Int)) (Int32.ofInt x) l3 S) (r := 266) (q := 266) (src := 1314) (dst := 1313) (K := 24) (c0 := 1) (n := N - 25 + 1) (fun n k S hk => wr_step n k S hk) S (by omega)
    rw [show N - 25 + 1 + 24 = N by omega] at l
    refine Eq.trans l ?_
    show lX12_write N (N - 25 + 1) _ _ _ _ = _
    rw [lX12_write]
    refine h_pos (by decide) (h_pst ?_)
    simp only [ySa_ySa, ySa_at]
    rw [gE 11 (by omega), hp25, i_sub, show (25 : Int) - 1 = 24 from rfl, i_add 45 (c : Int), show (45 : Int) + (c : Int) = ((45 + c : Nat) : Int) by omega]
    refine h_ainN (by omega) (by omega) ?_
    rw [upd_at, i_add 1313 24]
    refine h_ainN (k := 1337) (by omega) (by omega) (h_pst (h_pst ?_))
    simp only [ySa_ySa, ySa_at]
    rw [upd_ne (show 11 ≠ 1337 by omega), upd_at, upd_ne (show 6 ≠ 11 by omega), upd_ne (show 45 + c ≠ 11 by omega), gE 6 (by omega), gE (45 + c) (by omega)]
    simp only [i_add, i_mul]
    rw [hV]
    rfl
theorem RfR_i {k : Nat} {v : Int32} (h : RfR S W) : RfR (ySi S 265 k v) W := h
theorem q_pass (h : RfR S W) (hA : rv S 266 = A) {N : Nat} (hN : 2000000 ≤ N) (hd : A 6 ≤ 9998) {wf : Bool} (hw : S.1 265 23 = Int32.ofInt (if wf then 1 else 0)) : ∃ S1, fX12_pass N S = some S1 ∧ RfR S1 W ∧ rv S1 266 = psA W wf A ∧ Hn S S1 ∧ S1.1 265 24 = S.1 265 24 + Int32.ofInt ((psL W (A 0).toNat 0 0 A).1 : Int) := by
  have hr := h.1
  rw [hA] at hr
  have h0 := I_i0 hr
  have dn := q_dueN h.1 hN
  rw [hA] at dn
  obtain ⟨S1, a1, a2, aA, a3⟩ := q_psL (W := W) hN (l := dueS A (A 6)) (A 0).toNat (N - (A 0).toNat - 1 + 1) 0 0 S A h hA (by omega) (fun k _ hk => by
    unfold dueS
    rw [tb_orB _ _ _ _ (by omega) (by omega), tb_0, decide_eq_true (show 0 ≤ k ∧ k < 0 + (A 0).toNat by omega)]
    simp)
  have hc9 := psL_c (W := W) (A 0).toNat 0 0 A
  have o0 := psL_o (W := W) (A 0).toNat 0 0 A 0 (by omega) (by omega)
  have o6 := psL_o (W := W) (A 0).toNat 0 0 A 6 (by omega) (by omega)
  rw [show N - (A 0).toNat - 1 + 1 + (A 0).toNat = N by omega] at a1
  unfold fX12_pass psA
  rw [dn]
  generalize hB : (psL W (A 0).toNat 0 0 A).2 = B at *
  generalize hC : (psL W (A 0).toNat 0 0 A).1 = c at *
  have hc : c < 9 := by omega
  have hrB := a2.1
  rw [aA] at hrB
  have h8 := I_fund hrB
  have h45 := I_rhy hrB hc
  have hx := brS_rng (W := W) (t := B 2) hrB hc
  have h2 := I_i2 hrB
  have d3 : RfR (ySi S1 265 24 (S1.1 265 24 + Int32.ofInt (c : Int))) W := RfR_i a2
  obtain ⟨S5, b1, b2⟩ := q_brings d3 hN (t := B 2) (c := c) (by rw [show rv (ySi S1 265 24 (S1.1 265 24 + Int32.ofInt (c : Int))) 266 = rv S1 266 from rfl, aA]; exact h2) hc
  rw [show rv (ySi S1 265 24 (S1.1 265 24 + Int32.ofInt (c : Int))) 266 = rv S1 266 from rfl, aA] at b1
  have d5 := RfR_Fq d3 b2
  have aA5 : rv S5 266 = B := (Fq_rv b2 (by unfold kA; omega)).trans aA
  generalize hX : brS W B (B 2) c = x at *
  have u1 := up_RfR (j := 8) (x := cl9 (B 8 + x)) d5 aA5 (by omega) (by omega) (by unfold cl9; omega) (up8_mI hrB (by unfold cl9; omega))
  have r1 := u1.1.1
  rw [u1.2] at r1
  have u2 := up_RfR (j := 9) (x := (c : Int)) u1.1 u1.2 (by omega) (by omega) (by omega) (up9_mI r1 hc)
  have r2 := u2.1.1
  rw [u2.2] at r2
  have u3 := up_RfR (j := 10) (x := B (45 + c)) u2.1 u2.2 (by omega) (by omega) (by omega) (up10_mI r2 h45)
  have r3 := u3.1.1
  rw [u3.2] at r3
  generalize hS8 : ySa (ySa S5 266 (upd (S5.2.2.1 266) 8 (Int32.ofInt (cl9 (B 8 + x))))) 266 (upd ((ySa S5 266 (upd (S5.2.2.1 266) 8 (Int32.ofInt (cl9 (B 8 + x))))).2.2.1 266) 9 (Int32.ofInt (c : Int))) = S8 at *
  have fS8 : Hz S5 S8 := by rw [← hS8]; exact Hz_trans Hz_a Hz_a
  have e6 : enA B c x 6 = B 6 := by unfold enA; rw [rU_ne (by omega), rU_ne (by omega), rU_ne (by omega)]
  have e45 : enA B c x (45 + c) = B (45 + c) := by unfold enA; rw [rU_ne (by omega), rU_ne (by omega), rU_ne (by omega)]
  have key : ∃ S6, fX12_write N (Int32.ofInt (c : Int)) (Int32.ofInt x) (ySa S8 266 (upd (S8.2.2.1 266) 10 (Int32.ofInt (B (45 + c))))) = some S6 ∧ RfR S6 W ∧ rv S6 266 = (if wf then wrA (enA B c x) (((B 6 * 9 + c) * 10 + B (45 + c)) * 200 + x + 100) else enA B c x) ∧ Hz (ySa S8 266 (upd (S8.2.2.1 266) 10 (Int32.ofInt (B (45 + c))))) S6 := by
    have w23 : (ySa S8 266 (upd (S8.2.2.1 266) 10 (Int32.ofInt (B (45 + c))))).1 265 23 = Int32.ofInt (if wf then 1 else 0) := by
      rw [show (ySa S8 266 (upd (S8.2.2.1 266) 10 (Int32.ofInt (B (45 + c))))).1 = S8.1 from rfl, fS8.2, b2.1 265 (by unfold kO; omega), fld_ne (by omega), a3.2]
      exact hw
    cases wf with
    | true =>
      obtain ⟨S6, w1, w2, w3, w4⟩ := q_wr u3.1 u3.2 hN hc hx w23
      have e6' : rU (rU (rU B 8 (cl9 (B 8 + x))) 9 (c : Int)) 10 (B (45 + c)) = enA B c x := rfl
      rw [e6', e6, e45] at w3
      exact ⟨S6, w1, w2, w3, w4⟩
    | false =>
      refine ⟨_, ?_, u3.1, u3.2, Hz_refl _⟩
      unfold fX12_write
      rw [w23]
      exact h_neg (by decide) rfl
  obtain ⟨S6, w1, w2, w3, w4⟩ := key
  have r6 := w2.1
  rw [w3] at r6
  have e66 : (if wf then wrA (enA B c x) (((B 6 * 9 + c) * 10 + B (45 + c)) * 200 + x + 100) else enA B c x) 6 = B 6 := by
    cases wf with
    | true => rw [if_pos rfl, wrA_o (show rI (enA B c x) from r3) (by omega) (by omega), e6]
    | false => rw [if_neg (by decide), e6]
  have h6 := I_day hrB
  have u6 := up_RfR (j := 6) (x := B 6 + 1) w2 w3 (by omega) (by omega) (by omega) (up6_mI r6 (by omega))
  refine ⟨ySa S6 266 (upd (S6.2.2.1 266) 6 (Int32.ofInt (B 6 + 1))), ?_, u6.1, u6.2, Hn_trans (Hn_trans a3.1 (Hn_trans Hn_i (Hn_Fq b2))) (Hn_trans fS8.1 (Hn_trans Hn_a (Hn_trans w4.1 Hn_a))), ?_⟩
  · refine h_bind rfl ?_
    rw [show Int32.ofInt 0 = Int32.ofInt ((0 : Nat) : Int) from rfl, a1, lX12_pass, rv_eq S1 266 0, aA, o0]
    refine h_pos (by first | omega | ((simp (disch := omega) only [i0, i1, i_lt, i_le, i_eq, i_add, i_sub, i_mul, i_neg, i_ofNat, i_rem, i_div, w_in, w_in2, w_cnt, w_cnt2, z01, z01', il, li, lc_ge, lc_le, lc_gt, lc_lt, lc_eq, l_ofNat, l0, l_eq, l_lt, l_le]) <;> omega)) (h_pst ?_)
    rw [show (ySi S1 265 24 (S1.1 265 24 + Int32.ofInt (c : Int))).2.2.1 266 2 = S1.2.2.1 266 2 from rfl, rv_eq S1 266 2, aA]
    refine h_bind b1 (h_pst (h_pst ?_))
    rw [rv_eq S5 266 8, aA5, i_add (B 8) x, il (by omega) (by omega), hd_l (by omega) (by omega) (by omega) (by omega) (by omega) (by omega) (by omega), i_add 45 (c : Int), show (45 : Int) + (c : Int) = ((45 + c : Nat) : Int) by omega, show max (-9999) (min (B 8 + x) 9999) = cl9 (B 8 + x) from rfl, hS8]
    refine h_ainN (by omega) (by omega) (h_pst ?_)
    rw [rv_eq S8 266 (45 + c), u2.2, rU_ne (show 45 + c ≠ 9 by omega), rU_ne (show 45 + c ≠ 8 by omega)]
    refine h_bind w1 (h_pst ?_)
    rw [rv_eq S6 266 6, w3, e66, i_add]
  · rw [show (ySa S6 266 (upd (S6.2.2.1 266) 6 (Int32.ofInt (B 6 + 1)))).1 = S6.1 from rfl, w4.2, show (ySa S8 266 (upd (S8.2.2.1 266) 10 (Int32.ofInt (B (45 + c))))).1 = S8.1 from rfl, fS8.2, b2.1 265 (by unfold kO; omega), fld_at, a3.2]
end PMS
