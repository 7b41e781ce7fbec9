/-! ===== undo, day, years ===== -/
def udA (A : Nat → Int) : Nat → Int := fun k => if k = 3 then A 3 - 1 else if 6 ≤ k ∧ k < 21 then stF A (A 3 - 1).toNat (k - 6) else if 1313 ≤ k ∧ k < 1338 then stF A (A 3 - 1).toNat (k - 1298) else A k
section KP
variable {A : Nat → Int}
theorem udA_o {k : Nat} (h1 : ¬ nowP k) (h2 : k ≠ 3) : udA A k = A k := by
  unfold nowP at h1
  unfold udA
  rw [if_neg h2, if_neg (by omega), if_neg (by omega)]
theorem udA_now : ∀ k, k < 40 → nowF (udA A) k = stF A (A 3 - 1).toNat k := by
  intro k hk
  unfold nowF udA
  by_cases q : k < 15
  · rw [if_pos q, if_neg (by omega), if_pos (by omega), show 6 + k - 6 = k by omega]
  · rw [if_neg q, if_neg (by omega), if_neg (by omega), if_pos (by omega), show 1298 + k - 1298 = k by omega]
theorem udA_st {i : Nat} (hi : i < 30) : ∀ k, k < 40 → stF (udA A) i k = stF A i k := stF_congr (fun k a b => udA_o (by unfold nowP; omega) (by omega)) hi
theorem udA_rI (h : rI A) (h0 : 1 ≤ A 3) : rI (udA A) := by
  have h3 := I_i3 h
  have u3 : udA A 3 = A 3 - 1 := if_pos rfl
  obtain ⟨a, b, c, d, e⟩ := id h
  have z : ∀ k, k < 6 → k ≠ 3 → udA A k = A k := fun k x y => udA_o (by unfold nowP; omega) y
  refine ⟨?_, rA_same b (fun k h1 h2 => udA_o (by unfold nowP; omega) (by omega)), fun k hk => ?_, ?_, fun i hi => ?_⟩
  · rw [z 0 (by omega) (by omega), z 1 (by omega) (by omega), z 2 (by omega) (by omega), z 4 (by omega) (by omega), z 5 (by omega) (by omega), u3]
    exact ⟨a.1, a.2.1, a.2.2.1, by omega, a.2.2.2.2⟩
  · rw [z 0 (by omega) (by omega)] at hk
    have := a.1
    rw [udA_o (by unfold nowP; omega) (by omega), udA_o (by unfold nowP; omega) (by omega)]
    exact c k hk
  · rw [z 0 (by omega) (by omega)]
    exact mI_congr (e (A 3 - 1).toNat (by omega)) (Int.le_refl _) udA_now
  · rw [u3] at hi
    rw [z 0 (by omega) (by omega)]
    exact mI_congr (e i (by omega)) (Int.le_refl _) (udA_st (by omega))
end KP
section PMS
variable {T : yK} {S S' S1 S2 : yS} {A A' : Nat → Int} {W : Nat → wP}
theorem k_undo (h : ClR T A S W) : ∃ S1, fX11_undo S = some (Int32.ofInt (A 3 - 1), S1) ∧ ClR T (if A 3 = 0 then A else udA A) S1 W ∧ Gs S S1 := by
  have hr := h.2.1
  have h3 := I_i3 hr
  obtain ⟨c1, c2, c3, c4, c5, fi, c6, c7, c8⟩ := h.1
  have c5' : S.1 22 2 = Int32.ofInt (A 3) := c5
  have c7' : S.1 22 1 = Int32.ofInt (fi : Int) := c7
  unfold fX11_undo
  rw [c5']
  by_cases h0 : A 3 = 0
  · rw [if_pos h0]
    refine ⟨S, h_neg (by first | omega | ((simp (disch := omega) only [i0, i1, i_lt, i_le, i_eq, i_add, i_sub, i_mul, i_neg, i_ofNat, i_rem, i_div, w_in, w_in2, w_cnt, w_cnt2, z01, z01', il, li, lc_ge, lc_le, lc_gt, lc_lt, lc_eq, l_ofNat, l0, l_eq, l_lt, l_le]) <;> omega)) ?_, h, Gs_refl S⟩
    rw [h0]; rfl
  · rw [if_neg h0]
    obtain ⟨m, hm⟩ := Int.eq_ofNat_of_zero_le (show 0 ≤ A 3 - 1 by omega)
    have hlt := Nat.mod_lt (fi + m) (show 0 < 30 by omega)
    have eo := c4 ((fi + m) % 30) hlt
    have ey := yMo_st ((fi + m) % 30) hlt
    have mq := c8 m (by omega)
    have hm25 := (hr.2.2.2.2 m (by omega)).2.2.2.2.2.1.2
    generalize hq : 24 + 0 + 3 * ((fi + m) % 30) = q at eo ey mq
    have md : ∀ {q' : Nat} {f : Nat → Int} {j : Nat} {v : Int32}, q' ≠ 22 → mR q' f S → mR q' f (ySi S 22 j v) := fun {q'} {f} {j} {v} hq' hh => by
      unfold mR at hh ⊢
      rw [fld_o hq']
      exact hh
    have g : Gs S (mCopy (ySi S 22 2 (Int32.ofInt (m : Int))) 19 q) := Gs_trans (Gs_i (i := 22) (k := 2) (v := Int32.ofInt (m : Int)) (by omega)) (Gs_c (by omega))
    have e22 : (mCopy (ySi S 22 2 (Int32.ofInt (m : Int))) 19 q).1 22 = (ySi S 22 2 (Int32.ofInt (m : Int))).1 22 := mCopy_o (by omega)
    have u3 : udA A 3 = A 3 - 1 := if_pos rfl
    have hM : (A 3 - 1).toNat = m := by omega
    refine ⟨mCopy (ySi S 22 2 (Int32.ofInt (m : Int))) 19 q, h_pos (by first | omega | ((simp (disch := omega) only [i0, i1, i_lt, i_le, i_eq, i_add, i_sub, i_mul, i_neg, i_ofNat, i_rem, i_div, w_in, w_in2, w_cnt, w_cnt2, z01, z01', il, li, lc_ge, lc_le, lc_gt, lc_lt, lc_eq, l_ofNat, l0, l_eq, l_lt, l_le]) <;> omega)) (h_bind (v := mCopy (ySi S 22 2 (Int32.ofInt (m : Int))) 19 q) ?_ ?_), ?_, g⟩
    · unfold fX8_takeBack_19
      rw [c5']
      refine h_neg (by first | omega | ((simp (disch := omega) only [i0, i1, i_lt, i_le, i_eq, i_add, i_sub, i_mul, i_neg, i_ofNat, i_rem, i_div, w_in, w_in2, w_cnt, w_cnt2, z01, z01', il, li, lc_ge, lc_le, lc_gt, lc_lt, lc_eq, l_ofNat, l0, l_eq, l_lt, l_le]) <;> omega)) (h_pst ?_)
      rw [i_sub, hm, fld_at, fld_ne (by omega), c7', i_add, i_rem (by omega) (by omega) (by omega) (by omega), show ((fi : Int) + (m : Int)) % 30 = (((fi + m) % 30 : Nat) : Int) by omega]
      exact h_ainN hlt (by omega) (h_bind eo (h_pos ey rfl))
    · rw [e22, fld_at, hm]
    · refine ClR_st h g (fun k a b c => udA_o (by unfold nowP; omega) c) (udA_rI hr (by omega)) ?_ ⟨c4, ?_, fi, c6, ?_, fun i hi => ?_⟩
      · have q19 : mR 19 (stF A m) (mCopy (ySi S 22 2 (Int32.ofInt (m : Int))) 19 q) := mR_copy (md (by omega) mq) hm25 (by omega) (by omega)
        refine mR_congr q19 rfl rfl rfl (fun k hk => ?_) hm25
        rw [udA_now k hk, hM]
      · show (mCopy (ySi S 22 2 (Int32.ofInt (m : Int))) 19 q).1 22 2 = _
        rw [e22, fld_at, u3, hm]
      · show (mCopy (ySi S 22 2 (Int32.ofInt (m : Int))) 19 q).1 22 1 = _
        rw [e22, fld_ne (by omega)]; exact c7
      · rw [u3] at hi
        have hl := Nat.mod_lt (fi + i) (show 0 < 30 by omega)
        have b := md (j := 2) (v := Int32.ofInt (m : Int)) (show 24 + 0 + 3 * ((fi + i) % 30) ≠ 22 by omega) (c8 i (by omega))
        exact mR_congr b (mCopy_o (by omega)) (mCopy_a (by omega) (by omega)) (mCopy_a (by omega) (by omega)) (udA_st (by omega)) (hr.2.2.2.2 i (by omega)).2.2.2.2.2.1.2
theorem ud_s0 {N x : Nat} (hx : x + 40 ≤ 1313) (n k : Nat) (S : yS) (hk : k < 15) : lX12_undo N (n + 1) 0 (Int32.ofInt (x : Int)) (Int32.ofInt ((0 + k : Nat) : Int)) S = lX12_undo N n 0 (Int32.ofInt (x : Int)) (Int32.ofInt ((0 + k + 1 : Nat) : Int)) (ySa S 266 (upd (S.2.2.1 266) (6 + k) (S.2.2.1 266 (x + k)))) := by
  rw [lX12_undo]
  refine h_pos rfl (h_neg (by first | omega | ((simp (disch := omega) only [i0, i1, i_lt, i_le, i_eq, i_add, i_sub, i_mul, i_neg, i_ofNat, i_rem, i_div, w_in, w_in2, w_cnt, w_cnt2, z01, z01', il, li, lc_ge, lc_le, lc_gt, lc_lt, lc_eq, l_ofNat, l0, l_eq, l_lt, l_le]) <;> omega)) ?_)
  simp only [i_add]
  rw [show (6 : Int) + ((0 + k : Nat) : Int) = ((6 + k : Nat) : Int) by omega, show (x : Int) + ((0 + k : Nat) : Int) = ((x + k : Nat) : Int) by omega, show ((0 + k : Nat) : Int) + 1 = ((0 + k + 1 : Nat) : Int) by omega]
  exact h_ainN (by omega) (by omega) (h_ainN (by omega) (by omega) rfl)
theorem ud_s1 {N x : Nat} (hx : x + 40 ≤ 1313) (n k : Nat) (S : yS) (hk : k < 25) : lX12_undo N (n + 1) 1 (Int32.ofInt (x : Int)) (Int32.ofInt ((0 + k : Nat) : Int)) S = lX12_undo N n 1 (Int32.ofInt (x : Int)) (Int32.ofInt ((0 + k + 1 : Nat) : Int)) (ySa S 266 (upd (S.2.2.1 266) (1313 + k) (S.2.2.1 266 (x + 15 + k)))) := by
  rw [lX12_undo]
  refine h_neg (by decide) (h_neg (by first | omega | ((simp (disch := omega) only [i0, i1, i_lt, i_le, i_eq, i_add, i_sub, i_mul, i_neg, i_ofNat, i_rem, i_div, w_in, w_in2, w_cnt, w_cnt2, z01, z01', il, li, lc_ge, lc_le, lc_gt, lc_lt, lc_eq, l_ofNat, l0, l_eq, l_lt, l_le]) <;> omega)) ?_)
  simp only [i_add]
  rw [show (1313 : Int) + ((0 + k : Nat) : Int) = ((1313 + k : Nat) : Int) by omega, show (x : Int) + 15 + ((0 + k : Nat) : Int) = ((x + 15 + k : Nat) : Int) by omega, show ((0 + k : Nat) : Int) + 1 = ((0 + k + 1 : Nat) : Int) by omega]
  exact h_ainN (by omega) (by omega) (h_ainN (by omega) (by omega) rfl)
theorem q_undo (h : RfR S W) (hA : rv S 266 = A) {N : Nat} (hN : 2000000 ≤ N) : ∃ S1, fX12_undo N S = some (Int32.ofInt (A 3 - 1), S1) ∧ RfR S1 W ∧ rv S1 266 = (if A 3 = 0 then A else udA A) ∧ Hn S S1 := by
  have hr := h.1
  rw [hA] at hr
  have h3 := I_i3 hr
  have e : ∀ k, S.2.2.1 266 k = Int32.ofInt (A k) := fun k => by rw [rv_eq, hA]
  have hE : rf (S.2.2.1 266) = A := hA
  unfold fX12_undo
  rw [e 3]
  by_cases h0 : A 3 = 0
  · rw [if_pos h0]
    refine ⟨S, h_neg (by first | omega | ((simp (disch := omega) only [i0, i1, i_lt, i_le, i_eq, i_add, i_sub, i_mul, i_neg, i_ofNat, i_rem, i_div, w_in, w_in2, w_cnt, w_cnt2, z01, z01', il, li, lc_ge, lc_le, lc_gt, lc_lt, lc_eq, l_ofNat, l0, l_eq, l_lt, l_le]) <;> omega)) ?_, h, hA, Hn_refl S⟩
    rw [h0]; rfl
  · rw [if_neg h0]
    obtain ⟨m, hm⟩ := Int.eq_ofNat_of_zero_le (show 0 ≤ A 3 - 1 by omega)
    have hM : (A 3 - 1).toNat = m := by omega
    have e2 : rv (ySa S 266 (cpF (cpF (upd (S.2.2.1 266) 3 (Int32.ofInt (m : Int))) (upd (S.2.2.1 266) 3 (Int32.ofInt (m : Int))) (113 + 40 * m) 6 15) (cpF (upd (S.2.2.1 266) 3 (Int32.ofInt (m : Int))) (upd (S.2.2.1 266) 3 (Int32.ofInt (m : Int))) (113 + 40 * m) 6 15) (113 + 40 * m + 15) 1313 25)) 266 = udA A := by
      rw [rv_ySa]
      have hA' : ∀ j, rf (S.2.2.1 266) j = A j := fun j => congrFun hE j
      unfold rf at hA'
      funext k
      unfold rf cpF udA stF
      rw [hM, hm]
      by_cases q1 : 1313 ≤ k ∧ k < 1313 + 25
      · rw [if_pos q1, if_neg (by omega), if_neg (by omega), if_neg (by omega), if_pos (by omega), upd_ne (by omega), hA', show 113 + 40 * m + 15 + (k - 1313) = 113 + 40 * m + (k - 1298) by omega]
      · rw [if_neg q1]
        by_cases q2 : 6 ≤ k ∧ k < 6 + 15
        · rw [if_pos q2, if_neg (by omega), if_pos (by omega), upd_ne (by omega), hA']
        · rw [if_neg q2]
          by_cases q3 : k = 3
          · rw [if_pos q3, q3, upd_at, i_toInt (by omega) (by omega)]
          · rw [if_neg q3, if_neg (by omega), if_neg (by omega), upd_ne q3, hA']
    refine ⟨_, h_pos (by first | omega | ((simp (disch := omega) only [i0, i1, i_lt, i_le, i_eq, i_add, i_sub, i_mul, i_neg, i_ofNat, i_rem, i_div, w_in, w_in2, w_cnt, w_cnt2, z01, z01', il, li, lc_ge, lc_le, lc_gt, lc_lt, lc_eq, l_ofNat, l0, l_eq, l_lt, l_le]) <;> omega)) (h_pst (h_pst ?_)), ⟨by rw [e2]; exact udA_rI hr (by omega), fun t ht => ?_⟩, e2, Hn_a⟩
    · rw [i_sub, hm, ySa_at, upd_at, i_mul, i_add, show (113 : Int) + 40 * (m : Int) = ((113 + 40 * m : Nat) : Int) by omega]
      have l1 := cpL0 (F := fun n l3 S => lX12_undo N n 0 (Int32.ofInt ((113 + 40 * m : Nat) : Int)) l3 S) (r := 266) (q := 266) (src := 113 + 40 * m) (dst := 6) (K := 15) (c0 := 0) (n := N - 42 + 1 + 25 + 1) (fun n k S hk => ud_s0 (by omega) n k S hk) (ySa S 266 (upd (S.2.2.1 266) 3 (Int32.ofInt (m : Int)))) (by omega)
      rw [show N - 42 + 1 + 25 + 1 + 15 = N by omega, ySa_at, ySa_ySa] at l1
      refine Eq.trans l1 ?_
      show lX12_undo N (N - 42 + 1 + 25 + 1) 0 _ _ _ = _
      rw [lX12_undo]
      refine h_pos rfl (h_pos (by decide) ?_)
      have l2 := cpL0 (F := fun n l3 S => lX12_undo N n 1 (Int32.ofInt ((113 + 40 * m : Nat) : Int)) l3 S) (r := 266) (q := 266) (src := 113 + 40 * m + 15) (dst := 1313) (K := 25) (c0 := 0) (n := N - 42 + 1) (fun n k S hk => ud_s1 (by omega) n k S hk) (ySa S 266 (cpF (upd (S.2.2.1 266) 3 (Int32.ofInt (m : Int))) (upd (S.2.2.1 266) 3 (Int32.ofInt (m : Int))) (113 + 40 * m) 6 15)) (by omega)
      rw [ySa_at, ySa_ySa] at l2
      refine Eq.trans l2 ?_
      show lX12_undo N (N - 42 + 1) 1 _ _ _ = _
      rw [lX12_undo]
      refine h_neg (by decide) (h_pos (by decide) ?_)
      have e3 : (ySa S 266 (cpF (cpF (upd (S.2.2.1 266) 3 (Int32.ofInt (m : Int))) (upd (S.2.2.1 266) 3 (Int32.ofInt (m : Int))) (113 + 40 * m) 6 15) (cpF (upd (S.2.2.1 266) 3 (Int32.ofInt (m : Int))) (upd (S.2.2.1 266) 3 (Int32.ofInt (m : Int))) (113 + 40 * m) 6 15) (113 + 40 * m + 15) 1313 25)).2.2.1 266 3 = Int32.ofInt (m : Int) := by
        rw [rv_eq, e2]
        show Int32.ofInt (udA A 3) = _
        rw [show udA A 3 = A 3 - 1 from if_pos rfl, hm]
      rw [e3]
    · rw [e2, udA_o (by unfold nowP; omega) (by omega), ← hA] at ht
      exact txF_congr (h.2 t ht) rfl
theorem pm_undo (h : Rel T S) {N : Nat} (hN : 2000000 ≤ N) : PM T S fX11_undo (fX12_undo N) := by
  obtain ⟨W, hc, hf⟩ := Rel_W h
  obtain ⟨S1, a1, a2, a3⟩ := k_undo hc
  exact PM_gp h hf a1 a2 (Gp_Gs a3) (fun r e _ => q_undo r e hN)
/-! days -/
def pcC (W : Nat → wP) (A : Nat → Int) : Nat := (psL W (A 0).toNat 0 0 A).1
def dyA (W : Nat → wP) : Nat → (Nat → Int) → (Nat → Int)
  | 0, A => A
  | r + 1, A => dyA W r (psA W true (kpA A))
def dyC (W : Nat → wP) : Nat → (Nat → Int) → Nat
  | 0, _ => 0
  | r + 1, A => pcC W (kpA A) + dyC W r (psA W true (kpA A))
theorem psA_6 {W : Nat → wP} {wf : Bool} {A : Nat → Int} (h : A 0 ≤ 8) : psA W wf A 6 = A 6 + 1 := by
  unfold psA edA
  rw [rU_eq, psL_o _ _ _ _ _ (by omega) (by omega)]
theorem k_days {N : Nat} (hN : 2000000 ≤ N) : ∀ (r n i c : Nat) (S : yS) (A : Nat → Int), ClR T A S W → A 6 + r ≤ 9999 → r < n → i + r < 1000 → ∃ S1, lX11_passSteps N T n (Int32.ofInt ((i + r : Nat) : Int)) (Int32.ofInt (c : Int)) (Int32.ofInt (i : Int)) S = some (Int32.ofInt ((c + dyC W r A : Nat) : Int), S1) ∧ ClR T (dyA W r A) S1 W ∧ Gs S S1
  | 0, n + 1, i, c, S, A, h, _, _, hi => by
    rw [lX11_passSteps]
    exact ⟨S, h_pos (by first | omega | ((simp (disch := omega) only [i0, i1, i_lt, i_le, i_eq, i_add, i_sub, i_mul, i_neg, i_ofNat, i_rem, i_div, w_in, w_in2, w_cnt, w_cnt2, z01, z01', il, li, lc_ge, lc_le, lc_gt, lc_lt, lc_eq, l_ofNat, l0, l_eq, l_lt, l_le]) <;> omega)) rfl, h, Gs_refl S⟩
  | r + 1, n + 1, i, c, S, A, h, h6, hn, hi => by
    have hr := h.2.1
    have h0 := I_i0 hr
    obtain ⟨S1, a1, a2, a3⟩ := k_keep h
    have k6 : kpA A 6 = A 6 := kpA_o hr (by omega) (by omega)
    have k0 : kpA A 0 = A 0 := kpA_o hr (by omega) (by omega)
    obtain ⟨S2, b1, b2, b3⟩ := k_pass a2 hN (by omega)
    obtain ⟨S3, d1, d2, d3⟩ := k_days hN r n (i + 1) (c + pcC W (kpA A)) S2 _ b2 (by rw [psA_6 (by omega)]; omega) (by omega) (by omega)
    refine ⟨S3, ?_, d2, Gs_trans a3 (Gs_trans (Gs_Gn b3) d3)⟩
    rw [lX11_passSteps]
    refine h_neg (by first | omega | ((simp (disch := omega) only [i0, i1, i_lt, i_le, i_eq, i_add, i_sub, i_mul, i_neg, i_ofNat, i_rem, i_div, w_in, w_in2, w_cnt, w_cnt2, z01, z01', il, li, lc_ge, lc_le, lc_gt, lc_lt, lc_eq, l_ofNat, l0, l_eq, l_lt, l_le]) <;> omega)) (h_bind a1 (h_bind b1 ?_))
    dsimp only
    rw [i_add, i_add, show (i : Int) + 1 = ((i + 1 : Nat) : Int) by omega, show i + (r + 1) = i + 1 + r by omega]
    show lX11_passSteps N T n _ (Int32.ofInt ((c : Int) + ((pcC W (kpA A) : Nat) : Int))) _ _ = _
    rw [show (c : Int) + ((pcC W (kpA A) : Nat) : Int) = ((c + pcC W (kpA A) : Nat) : Int) by omega, d1]
    rw [show dyC W (r + 1) A = pcC W (kpA A) + dyC W r (psA W true (kpA A)) from rfl, Nat.add_assoc]
theorem q_days {N : Nat} (hN : 2000000 ≤ N) : ∀ (r n i m c : Nat) (S : yS) (A : Nat → Int), RfR S W → rv S 266 = A → S.1 265 23 = Int32.ofInt 1 → S.1 265 24 = Int32.ofInt (c : Int) → A 6 + r ≤ 9999 → r < n → i + r ≤ m → m < 1000 → (i + r = m ∨ A 6 + r = 9999) → ∃ S1, lX12_arePassed N n (Int32.ofInt (m : Int)) (Int32.ofInt (i : Int)) S = some (Int32.ofInt (if i + r = m then 1 else 0), S1) ∧ RfR S1 W ∧ rv S1 266 = dyA W r A ∧ Hn S S1 ∧ S1.1 265 24 = Int32.ofInt ((c + dyC W r A : Nat) : Int)
  | 0, n + 1, i, m, c, S, A, h, hA, w, hc, h6, hn, hi, hm, ho => by
    have hr := h.1
    rw [hA] at hr
    have d6 := I_day hr
    rw [lX12_arePassed, rv_eq S 266 6, hA]
    by_cases q : i + 0 = m
    · rw [if_pos q]
      exact ⟨S, h_pos (by first | omega | ((simp (disch := omega) only [i0, i1, i_lt, i_le, i_eq, i_add, i_sub, i_mul, i_neg, i_ofNat, i_rem, i_div, w_in, w_in2, w_cnt, w_cnt2, z01, z01', il, li, lc_ge, lc_le, lc_gt, lc_lt, lc_eq, l_ofNat, l0, l_eq, l_lt, l_le]) <;> omega)) rfl, h, hA, Hn_refl S, hc⟩
    · rw [if_neg q]
      exact ⟨S, h_neg (by first | omega | ((simp (disch := omega) only [i0, i1, i_lt, i_le, i_eq, i_add, i_sub, i_mul, i_neg, i_ofNat, i_rem, i_div, w_in, w_in2, w_cnt, w_cnt2, z01, z01', il, li, lc_ge, lc_le, lc_gt, lc_lt, lc_eq, l_ofNat, l0, l_eq, l_lt, l_le]) <;> omega)) (h_neg (by first | omega | ((simp (disch := omega) only [i0, i1, i_lt, i_le, i_eq, i_add, i_sub, i_mul, i_neg, i_ofNat, i_rem, i_div, w_in, w_in2, w_cnt, w_cnt2, z01, z01', il, li, lc_ge, lc_le, lc_gt, lc_lt, lc_eq, l_ofNat, l0, l_eq, l_lt, l_le]) <;> omega)) rfl), h, hA, Hn_refl S, hc⟩
  | r + 1, n + 1, i, m, c, S, A, h, hA, w, hc, h6, hn, hi, hm, ho => by
    have hr := h.1
    rw [hA] at hr
    have d6 := I_day hr
    have h0 := I_i0 hr
    have k6 : kpA A 6 = A 6 := kpA_o hr (by omega) (by omega)
    have k0 : kpA A 0 = A 0 := kpA_o hr (by omega) (by omega)
    obtain ⟨S1, a1, a2, a3, a4⟩ := q_keep h hA hN
    obtain ⟨S2, b1, b2, b3, b4, b5⟩ := q_pass a2 a3 hN (wf := true) (by omega) (by rw [a4.2]; exact w)
    have w2 : S2.1 265 23 = Int32.ofInt 1 := by rw [b4.2.1 23 (by omega), a4.2]; exact w
    rw [a4.2, hc, i_add] at b5
    obtain ⟨S3, e1, e2, e3, e4, e5⟩ := q_days hN r n (i + 1) m (c + pcC W (kpA A)) S2 _ b2 b3 w2 (by rw [b5]; rfl) (by rw [psA_6 (by omega)]; omega) (by omega) (by omega) hm (by rw [psA_6 (by omega)]; omega)
    refine ⟨S3, ?_, e2, e3, Hn_trans a4.1 (Hn_trans b4 e4), ?_⟩
    · rw [lX12_arePassed, rv_eq S 266 6, hA]
      refine h_neg (by first | omega | ((simp (disch := omega) only [i0, i1, i_lt, i_le, i_eq, i_add, i_sub, i_mul, i_neg, i_ofNat, i_rem, i_div, w_in, w_in2, w_cnt, w_cnt2, z01, z01', il, li, lc_ge, lc_le, lc_gt, lc_lt, lc_eq, l_ofNat, l0, l_eq, l_lt, l_le]) <;> omega)) (h_pos (by first | omega | ((simp (disch := omega) only [i0, i1, i_lt, i_le, i_eq, i_add, i_sub, i_mul, i_neg, i_ofNat, i_rem, i_div, w_in, w_in2, w_cnt, w_cnt2, z01, z01', il, li, lc_ge, lc_le, lc_gt, lc_lt, lc_eq, l_ofNat, l0, l_eq, l_lt, l_le]) <;> omega)) (h_bind a1 (h_bind b1 ?_)))
      rw [i_add, show (i : Int) + 1 = ((i + 1 : Nat) : Int) by omega, e1]
      simp only [show i + 1 + r = m ↔ i + (r + 1) = m by omega]
    · rw [e5]
      rw [show dyC W (r + 1) A = pcC W (kpA A) + dyC W r (psA W true (kpA A)) from rfl, Nat.add_assoc]
theorem pm_day (h : Rel T S) {N : Nat} (hN : 2000000 ≤ N) (v0 : Int32) : PM T S (fX11_day N T v0) (fX12_day N v0) := by
  obtain ⟨v, v1, v2, rfl⟩ := i_ex v0
  obtain ⟨W, hc, hf⟩ := Rel_W h
  have h6 := R_day h
  by_cases hv : 1 ≤ v ∧ v ≤ 60
  · by_cases hd : rv S 266 6 + v ≤ 9999
    · obtain ⟨m, rfl⟩ := Int.eq_ofNat_of_zero_le (show 0 ≤ v by omega)
      obtain ⟨S1, a1, a2, a3⟩ := k_days (W := W) hN m N 0 0 S _ hc hd (by omega) (by omega)
      rw [Nat.zero_add, Nat.zero_add] at a1
      refine PM_gp h hf (f := fX11_day N T (Int32.ofInt (m : Int))) (g := fX12_day N (Int32.ofInt (m : Int))) (S1 := S1) (q := Int32.ofInt ((dyC W m (rv S 266) : Nat) : Int)) ?_ a2 (Gp_Gs a3) (fun r e w => ?_)
      · unfold fX11_day
        rw [C_day h, i_add]
        exact h_neg (by first | omega | ((simp (disch := omega) only [i0, i1, i_lt, i_le, i_eq, i_add, i_sub, i_mul, i_neg, i_ofNat, i_rem, i_div, w_in, w_in2, w_cnt, w_cnt2, z01, z01', il, li, lc_ge, lc_le, lc_gt, lc_lt, lc_eq, l_ofNat, l0, l_eq, l_lt, l_le]) <;> omega)) (h_pos (by first | omega | ((simp (disch := omega) only [i0, i1, i_lt, i_le, i_eq, i_add, i_sub, i_mul, i_neg, i_ofNat, i_rem, i_div, w_in, w_in2, w_cnt, w_cnt2, z01, z01', il, li, lc_ge, lc_le, lc_gt, lc_lt, lc_eq, l_ofNat, l0, l_eq, l_lt, l_le]) <;> omega)) (h_bind a1 rfl))
      · obtain ⟨S2, b1, b2, b3, b4, b5⟩ := q_days (W := W) hN m N 0 m 0 (ySi S1 265 24 (Int32.ofInt 0)) _ (RfR_i r) e (by rw [fld_ne (by omega)]; exact w) fld_at hd (by omega) (by omega) (by omega) (by omega)
        rw [if_pos (by omega)] at b1
        refine ⟨S2, ?_, b2, b3, Hn_trans Hn_i b4⟩
        unfold fX12_day fX12_arePassed
        rw [rv_eq S1 266 6, e, i_add]
        refine h_neg (by first | omega | ((simp (disch := omega) only [i0, i1, i_lt, i_le, i_eq, i_add, i_sub, i_mul, i_neg, i_ofNat, i_rem, i_div, w_in, w_in2, w_cnt, w_cnt2, z01, z01', il, li, lc_ge, lc_le, lc_gt, lc_lt, lc_eq, l_ofNat, l0, l_eq, l_lt, l_le]) <;> omega)) (h_neg (by first | omega | ((simp (disch := omega) only [i0, i1, i_lt, i_le, i_eq, i_add, i_sub, i_mul, i_neg, i_ofNat, i_rem, i_div, w_in, w_in2, w_cnt, w_cnt2, z01, z01', il, li, lc_ge, lc_le, lc_gt, lc_lt, lc_eq, l_ofNat, l0, l_eq, l_lt, l_le]) <;> omega)) (h_bind (h_pst b1) (h_neg (by decide) ?_)))
        rw [b5, Nat.zero_add]
    · refine ⟨Int32.ofInt (-1), S, S, ?_, ?_, h⟩
      · unfold fX11_day
        rw [C_day h, i_add]
        exact h_neg (by first | omega | ((simp (disch := omega) only [i0, i1, i_lt, i_le, i_eq, i_add, i_sub, i_mul, i_neg, i_ofNat, i_rem, i_div, w_in, w_in2, w_cnt, w_cnt2, z01, z01', il, li, lc_ge, lc_le, lc_gt, lc_lt, lc_eq, l_ofNat, l0, l_eq, l_lt, l_le]) <;> omega)) (h_neg (by first | omega | ((simp (disch := omega) only [i0, i1, i_lt, i_le, i_eq, i_add, i_sub, i_mul, i_neg, i_ofNat, i_rem, i_div, w_in, w_in2, w_cnt, w_cnt2, z01, z01', il, li, lc_ge, lc_le, lc_gt, lc_lt, lc_eq, l_ofNat, l0, l_eq, l_lt, l_le]) <;> omega)) rfl)
      · unfold fX12_day
        rw [rv_eq S 266 6, i_add]
        exact h_neg (by first | omega | ((simp (disch := omega) only [i0, i1, i_lt, i_le, i_eq, i_add, i_sub, i_mul, i_neg, i_ofNat, i_rem, i_div, w_in, w_in2, w_cnt, w_cnt2, z01, z01', il, li, lc_ge, lc_le, lc_gt, lc_lt, lc_eq, l_ofNat, l0, l_eq, l_lt, l_le]) <;> omega)) (h_pos (by first | omega | ((simp (disch := omega) only [i0, i1, i_lt, i_le, i_eq, i_add, i_sub, i_mul, i_neg, i_ofNat, i_rem, i_div, w_in, w_in2, w_cnt, w_cnt2, z01, z01', il, li, lc_ge, lc_le, lc_gt, lc_lt, lc_eq, l_ofNat, l0, l_eq, l_lt, l_le]) <;> omega)) rfl)
  · refine ⟨Int32.ofInt (-1), S, S, ?_, ?_, h⟩
    · unfold fX11_day
      exact h_pos (by first | omega | ((simp (disch := omega) only [i0, i1, i_lt, i_le, i_eq, i_add, i_sub, i_mul, i_neg, i_ofNat, i_rem, i_div, w_in, w_in2, w_cnt, w_cnt2, z01, z01', il, li, lc_ge, lc_le, lc_gt, lc_lt, lc_eq, l_ofNat, l0, l_eq, l_lt, l_le]) <;> omega)) rfl
    · unfold fX12_day
      exact h_pos (by first | omega | ((simp (disch := omega) only [i0, i1, i_lt, i_le, i_eq, i_add, i_sub, i_mul, i_neg, i_ofNat, i_rem, i_div, w_in, w_in2, w_cnt, w_cnt2, z01, z01', il, li, lc_ge, lc_le, lc_gt, lc_lt, lc_eq, l_ofNat, l0, l_eq, l_lt, l_le]) <;> omega)) rfl
end PMS
