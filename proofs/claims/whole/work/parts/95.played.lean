/-! ===== played: what is told by a clause, each side of itself ===== -/
def toldP (k : Nat) : Prop := 6 ≤ k ∧ k < 21 ∨ 113 ≤ k ∨ k = 1 ∨ k = 3
theorem rI_told {A A' : Nat → Int} (h : rI A) (fA : ∀ k, toldP k → A' k = A k) (h0 : A 0 ≤ A' 0) (hd : (0 ≤ A' 0 ∧ A' 0 ≤ 8) ∧ (-1 ≤ A' 2 ∧ A' 2 < A 1) ∧ (0 ≤ A' 4 ∧ A' 4 ≤ 12) ∧ (0 ≤ A' 5 ∧ A' 5 ≤ 8)) (hr : rA A') (hb : ∀ k : Nat, (k : Int) < A' 0 → 1 ≤ A' (21 + k) ∧ A' (29 + k) < A' (21 + k)) : rI A' := by
  have i3 := I_i3 h
  obtain ⟨a, b, c, d, e⟩ := h
  refine ⟨⟨hd.1, by rw [fA 1 (by unfold toldP; omega)]; exact a.2.1, by rw [fA 1 (by unfold toldP; omega)]; exact hd.2.1, by rw [fA 3 (by unfold toldP; omega)]; exact a.2.2.2.1, hd.2.2⟩, hr, hb, mI_congr d h0 (nowF_congr (fun k x y => fA k (by unfold toldP; omega)) (fun k x y => fA k (by unfold toldP; omega))), fun i hi => ?_⟩
  rw [fA 3 (by unfold toldP; omega)] at hi
  exact mI_congr (e i hi) h0 (stF_congr (fun k x y => fA k (by unfold toldP; omega)) (by omega))
section PMS
variable {T : yK} {S S' S1 S2 : yS} {A A' : Nat → Int} {W : Nat → wP}
theorem ClR_told (h : ClR T A S W) (f1 : ∀ i, i ≠ 18 → S'.1 i = S.1 i) (f2 : ∀ i, ¬ (114 ≤ i ∧ i ≤ 117) → S'.2.2.1 i = S.2.2.1 i) (f3 : S'.2.2.2.2 = S.2.2.2.2) (fA : ∀ k, toldP k → A' k = A k) (g1 : cI 0 A' S') (g2 : cA 0 A' S') (gr : rI A') : ClR T A' S' W := by
  obtain ⟨⟨c1, c2, c3, c4, c5, fi, c6, c7, c8⟩, hr, x⟩ := h
  have i3 := I_i3 hr
  have hm : nowF A 5 ≤ 25 := hr.2.2.2.1.2.2.2.2.2.1.2
  refine ⟨⟨g1, g2, mR_congr c3 (f1 _ (by omega)) (f2 _ (by omega)) (f2 _ (by omega)) (nowF_congr (fun k x y => fA k (by unfold toldP; omega)) (fun k x y => fA k (by unfold toldP; omega))) hm, by rw [f3]; exact c4, by rw [f1 _ (by omega), fA 3 (by unfold toldP; omega)]; exact c5, fi, c6, by rw [f1 _ (by omega)]; exact c7, fun i hi => ?_⟩, gr, fun t ht => ?_⟩
  · rw [fA 3 (by unfold toldP; omega)] at hi
    have hl := Nat.mod_lt (fi + i) (show 0 < 30 by omega)
    exact mR_congr (c8 i hi) (f1 _ (by omega)) (f2 _ (by omega)) (f2 _ (by omega)) (stF_congr (fun k x y => fA k (by unfold toldP; omega)) (by omega)) (hr.2.2.2.2 i hi).2.2.2.2.2.1.2
  · rw [fA 1 (by unfold toldP; omega)] at ht
    obtain ⟨o, o1, o2⟩ := x t ht
    have ho : 281 ≤ o := (yTx_K o2.1).2.2.2.2.2.2
    exact ⟨o, by rw [f3]; exact o1, txC_congr o2 (f1 o (by omega)) (f2 _ (by omega)) (f2 _ (by omega))⟩
theorem RfR_told {f : Nat → Int32} (h : RfR S W) (hA : rv S 266 = A) (e : rf f = A') (fA : A' 1 = A 1) (gr : rI A') : RfR (ySa S 266 f) W ∧ rv (ySa S 266 f) 266 = A' := by
  have e2 : rv (ySa S 266 f) 266 = A' := by rw [rv_ySa, e]
  refine ⟨⟨by rw [e2]; exact gr, fun t ht => ?_⟩, e2⟩
  rw [e2, fA, ← hA] at ht
  exact txF_congr (h.2 t ht) rfl
/-! a bird -/
def bdB (A : Nat → Int) (p d : Int) : Bool := decide ((1 ≤ p ∧ p ≤ 12) ∧ (0 ≤ d ∧ d ≤ 10) ∧ A 0 < 8)
def bdA (A : Nat → Int) (p d : Int) : Nat → Int := rU (rU (rU (rU A (21 + (A 0).toNat) p) (29 + (A 0).toNat) 0) (37 + (A 0).toNat) d) 0 (A 0 + 1)
theorem bdA_o (hr : rI A) (h8 : A 0 < 8) {p d : Int} : ∀ k, toldP k → bdA A p d k = A k := by
  have h0 := I_i0 hr
  intro k hk
  unfold toldP at hk
  unfold bdA
  rw [rU_ne (by omega), rU_ne (by omega), rU_ne (by omega), rU_ne (by omega)]
theorem bdA_rI (hr : rI A) {p d : Int} (hp : 1 ≤ p ∧ p ≤ 12) (hd : 0 ≤ d ∧ d ≤ 10) (h8 : A 0 < 8) : rI (bdA A p d) := by
  have h0 := I_i0 hr
  obtain ⟨b, hbn⟩ := Int.eq_ofNat_of_zero_le h0.1
  have hB : (A 0).toNat = b := by omega
  have e0 : bdA A p d 0 = A 0 + 1 := rU_eq
  have z : ∀ k, 1 ≤ k → k < 21 → bdA A p d k = A k := fun k x y => by unfold bdA; rw [rU_ne (by omega), rU_ne (by omega), rU_ne (by omega), rU_ne (by omega)]
  refine rI_told hr (bdA_o hr h8) (by rw [e0]; omega) ?_ ?_ (fun k hk => ?_)
  · rw [e0, z 2 (by omega) (by omega), z 4 (by omega) (by omega), z 5 (by omega) (by omega)]
    exact ⟨by omega, hr.1.2.2.1, hr.1.2.2.2.2.1, hr.1.2.2.2.2.2⟩
  · have hR1 : rA (rU A (21 + b) p) := rA_up hr.2.1 (show (114, 8, 21, 1, (0 : Int), (12 : Int)) ∈ cTab by decide) (show b < 8 by omega) (by omega : (0 : Int) ≤ p ∧ p ≤ 12) (fun k _ _ => by rw [Nat.one_mul])
    have hR2 : rA (rU (rU A (21 + b) p) (29 + b) 0) := rA_up hR1 (show (115, 8, 29, 1, (0 : Int), (11 : Int)) ∈ cTab by decide) (show b < 8 by omega) (by omega : (0 : Int) ≤ 0 ∧ (0 : Int) ≤ 11) (fun k _ _ => by rw [Nat.one_mul])
    have hR3 : rA (rU (rU (rU A (21 + b) p) (29 + b) 0) (37 + b) d) := rA_up hR2 (show (116, 8, 37, 1, (0 : Int), (10 : Int)) ∈ cTab by decide) (show b < 8 by omega) (by omega : (0 : Int) ≤ d ∧ d ≤ 10) (fun k _ _ => by rw [Nat.one_mul])
    unfold bdA
    rw [hB]
    exact rA_same hR3 (fun k a b => rU_ne (by omega))
  · rw [e0] at hk
    unfold bdA
    rw [hB]
    by_cases hkb : k = b
    · subst hkb
      rw [rU_ne (by omega), rU_ne (by omega), rU_ne (by omega), rU_eq, rU_ne (by omega), rU_ne (by omega), rU_eq]
      omega
    · rw [rU_ne (by omega), rU_ne (by omega), rU_ne (by omega), rU_ne (by omega), rU_ne (by omega), rU_ne (by omega), rU_ne (by omega), rU_ne (by omega)]
      exact hr.2.2.1 k (by omega)
theorem k_bird (h : ClR T A S W) {p d : Int} (p1 : -2147483648 ≤ p) (p2 : p < 2147483648) (d1 : -2147483648 ≤ d) (d2 : d < 2147483648) : ∃ S1, fX11_bird (Int32.ofInt p) (Int32.ofInt 0) (Int32.ofInt d) S = some (Int32.ofInt (if bdB A p d = true then A 0 else -1), S1) ∧ ClR T (if bdB A p d = true then bdA A p d else A) S1 W ∧ Gp S S1 := by
  have hr := h.2.1
  have h0 := I_i0 hr
  have cb := K_birds h.1
  unfold fX11_bird
  simp only [i_sub]
  by_cases hp : 1 ≤ p ∧ p ≤ 12
  · by_cases hd : 0 ≤ d ∧ d ≤ 10
    · by_cases h8 : A 0 < 8
      · have hB : bdB A p d = true := decide_eq_true ⟨hp, hd, h8⟩
        rw [if_pos hB]
        simp only [if_pos hB]
        obtain ⟨b, hbn⟩ := Int.eq_ofNat_of_zero_le h0.1
        have hbt : (A 0).toNat = b := by omega
        have cb' : S.1 18 5 = Int32.ofInt (b : Int) := by rw [cb, hbn]
        refine ⟨ySi (ySa (ySa (ySa S 114 (upd (S.2.2.1 114) b (Int32.ofInt p))) 115 (upd (S.2.2.1 115) b (Int32.ofInt 0))) 116 (upd (S.2.2.1 116) b (Int32.ofInt d))) 18 5 (Int32.ofInt ((b : Int) + 1)), ?_, ?_, ?_⟩
        · refine h_neg (by first | omega | ((simp (disch := omega) only [i0, i1, i_lt, i_le, i_eq, i_add, i_sub, i_mul, i_neg, i_ofNat, i_rem, i_div, w_in, w_in2, w_cnt, w_cnt2, z01, z01', il, li, lc_ge, lc_le, lc_gt, lc_lt, lc_eq, l_ofNat, l0, l_eq, l_lt, l_le]) <;> omega)) (h_neg (by first | omega | ((simp (disch := omega) only [i0, i1, i_lt, i_le, i_eq, i_add, i_sub, i_mul, i_neg, i_ofNat, i_rem, i_div, w_in, w_in2, w_cnt, w_cnt2, z01, z01', il, li, lc_ge, lc_le, lc_gt, lc_lt, lc_eq, l_ofNat, l0, l_eq, l_lt, l_le]) <;> omega)) (h_pos (by first | omega | ((simp (disch := omega) only [i0, i1, i_lt, i_le, i_eq, i_add, i_sub, i_mul, i_neg, i_ofNat, i_rem, i_div, w_in, w_in2, w_cnt, w_cnt2, z01, z01', il, li, lc_ge, lc_le, lc_gt, lc_lt, lc_eq, l_ofNat, l0, l_eq, l_lt, l_le]) <;> omega)) ?_))
          refine h_bind (v := (Int32.ofInt b, _)) ?_ (by dsimp only; rw [hbn])
          unfold fX0_addBird
          rw [cb']
          refine h_pos (by first | omega | ((simp (disch := omega) only [i0, i1, i_lt, i_le, i_eq, i_add, i_sub, i_mul, i_neg, i_ofNat, i_rem, i_div, w_in, w_in2, w_cnt, w_cnt2, z01, z01', il, li, lc_ge, lc_le, lc_gt, lc_lt, lc_eq, l_ofNat, l0, l_eq, l_lt, l_le]) <;> omega)) ?_
          refine h_ainN (by omega) (by omega) (h_pst ?_)
          rw [show (ySa S 114 (upd (S.2.2.1 114) b (Int32.ofInt p))).1 18 5 = S.1 18 5 from rfl, cb']
          refine h_ainN (by omega) (by omega) (h_pst ?_)
          rw [show (ySa (ySa S 114 (upd (S.2.2.1 114) b (Int32.ofInt p))) 115 (upd ((ySa S 114 (upd (S.2.2.1 114) b (Int32.ofInt p))).2.2.1 115) b (Int32.ofInt 0))).1 18 5 = S.1 18 5 from rfl, cb']
          refine h_ainN (by omega) (by omega) (h_pst ?_)
          refine h_pst ?_
          show some (S.1 18 5 + Int32.ofInt 1 - Int32.ofInt 1, ySi _ 18 5 (S.1 18 5 + Int32.ofInt 1)) = _
          rw [cb', i_add, i_sub, show (b : Int) + 1 - 1 = b by omega]
          rfl
        · have c0 := h.1
          have hA1 : cA 0 (rU A (21 + b) p) (ySa S 114 (upd (S.2.2.1 114) b (Int32.ofInt p))) := cA_up c0.2.1 (show (114, 8, 21, 1, (0 : Int), (12 : Int)) ∈ cTab by decide) (show b < 8 by omega) (fun k _ _ => by rw [Nat.one_mul]) (ySa_at _ _ _) (fun i a b c => ySa_ne _ _ c)
          have hA2 : cA 0 (rU (rU A (21 + b) p) (29 + b) 0) (ySa (ySa S 114 (upd (S.2.2.1 114) b (Int32.ofInt p))) 115 (upd (S.2.2.1 115) b (Int32.ofInt 0))) := cA_up hA1 (show (115, 8, 29, 1, (0 : Int), (11 : Int)) ∈ cTab by decide) (show b < 8 by omega) (fun k _ _ => by rw [Nat.one_mul]) (ySa_at _ _ _) (fun i a b c => ySa_ne _ _ c)
          have hA3 : cA 0 (rU (rU (rU A (21 + b) p) (29 + b) 0) (37 + b) d) (ySa (ySa (ySa S 114 (upd (S.2.2.1 114) b (Int32.ofInt p))) 115 (upd (S.2.2.1 115) b (Int32.ofInt 0))) 116 (upd (S.2.2.1 116) b (Int32.ofInt d))) := cA_up hA2 (show (116, 8, 37, 1, (0 : Int), (10 : Int)) ∈ cTab by decide) (show b < 8 by omega) (fun k _ _ => by rw [Nat.one_mul]) (ySa_at _ _ _) (fun i a b c => ySa_ne _ _ c)
          refine ClR_told h (fun i a => fld_o a) (fun i a => ?_) rfl (bdA_o hr h8) ?_ ?_ (bdA_rI hr hp hd h8)
          · rw [ySi_2, ySa_ne _ _ (by omega), ySa_ne _ _ (by omega), ySa_ne _ _ (by omega)]
          · have z : ∀ k, 1 ≤ k → k < 21 → bdA A p d k = A k := fun k x y => by unfold bdA; rw [rU_ne (by omega), rU_ne (by omega), rU_ne (by omega), rU_ne (by omega)]
            unfold cI
            rw [z 1 (by omega) (by omega), z 2 (by omega) (by omega), z 5 (by omega) (by omega), z 4 (by omega) (by omega), show bdA A p d 0 = A 0 + 1 from rU_eq, hbn]
            exact ⟨fld_at, c0.1.2.1, c0.1.2.2.1, c0.1.2.2.2.1, c0.1.2.2.2.2⟩
          · unfold bdA
            rw [hbt]
            exact cA_same hA3 (fun k a b => rU_ne (by omega)) (fun i a c => rfl)
        · exact ⟨fun i a c _ => by rw [fld_o (by omega)]; rfl, fun i a c _ => by rw [ySi_2, ySa_ne _ _ (by omega), ySa_ne _ _ (by omega), ySa_ne _ _ (by omega)], rfl, by rw [fld_ne (by omega)]; rfl⟩
      · have hB : ¬ bdB A p d = true := fun q => h8 (of_decide_eq_true q).2.2
        rw [if_neg hB]
        simp only [if_neg hB]
        refine ⟨S, h_neg (by first | omega | ((simp (disch := omega) only [i0, i1, i_lt, i_le, i_eq, i_add, i_sub, i_mul, i_neg, i_ofNat, i_rem, i_div, w_in, w_in2, w_cnt, w_cnt2, z01, z01', il, li, lc_ge, lc_le, lc_gt, lc_lt, lc_eq, l_ofNat, l0, l_eq, l_lt, l_le]) <;> omega)) (h_neg (by first | omega | ((simp (disch := omega) only [i0, i1, i_lt, i_le, i_eq, i_add, i_sub, i_mul, i_neg, i_ofNat, i_rem, i_div, w_in, w_in2, w_cnt, w_cnt2, z01, z01', il, li, lc_ge, lc_le, lc_gt, lc_lt, lc_eq, l_ofNat, l0, l_eq, l_lt, l_le]) <;> omega)) (h_pos (by first | omega | ((simp (disch := omega) only [i0, i1, i_lt, i_le, i_eq, i_add, i_sub, i_mul, i_neg, i_ofNat, i_rem, i_div, w_in, w_in2, w_cnt, w_cnt2, z01, z01', il, li, lc_ge, lc_le, lc_gt, lc_lt, lc_eq, l_ofNat, l0, l_eq, l_lt, l_le]) <;> omega)) ?_)), h, Gp_refl S⟩
        unfold fX0_addBird
        rw [cb]
        exact h_bind (h_neg (by first | omega | ((simp (disch := omega) only [i0, i1, i_lt, i_le, i_eq, i_add, i_sub, i_mul, i_neg, i_ofNat, i_rem, i_div, w_in, w_in2, w_cnt, w_cnt2, z01, z01', il, li, lc_ge, lc_le, lc_gt, lc_lt, lc_eq, l_ofNat, l0, l_eq, l_lt, l_le]) <;> omega)) rfl) rfl
    · have hB : ¬ bdB A p d = true := fun q => hd (of_decide_eq_true q).2.1
      rw [if_neg hB]
      simp only [if_neg hB]
      exact ⟨S, h_neg (by first | omega | ((simp (disch := omega) only [i0, i1, i_lt, i_le, i_eq, i_add, i_sub, i_mul, i_neg, i_ofNat, i_rem, i_div, w_in, w_in2, w_cnt, w_cnt2, z01, z01', il, li, lc_ge, lc_le, lc_gt, lc_lt, lc_eq, l_ofNat, l0, l_eq, l_lt, l_le]) <;> omega)) (h_neg (by first | omega | ((simp (disch := omega) only [i0, i1, i_lt, i_le, i_eq, i_add, i_sub, i_mul, i_neg, i_ofNat, i_rem, i_div, w_in, w_in2, w_cnt, w_cnt2, z01, z01', il, li, lc_ge, lc_le, lc_gt, lc_lt, lc_eq, l_ofNat, l0, l_eq, l_lt, l_le]) <;> omega)) (h_neg (by first | omega | ((simp (disch := omega) only [i0, i1, i_lt, i_le, i_eq, i_add, i_sub, i_mul, i_neg, i_ofNat, i_rem, i_div, w_in, w_in2, w_cnt, w_cnt2, z01, z01', il, li, lc_ge, lc_le, lc_gt, lc_lt, lc_eq, l_ofNat, l0, l_eq, l_lt, l_le]) <;> omega)) rfl)), h, Gp_refl S⟩
  · have hB : ¬ bdB A p d = true := fun q => hp (of_decide_eq_true q).1
    rw [if_neg hB]
    simp only [if_neg hB]
    exact ⟨S, h_pos (by first | omega | ((simp (disch := omega) only [i0, i1, i_lt, i_le, i_eq, i_add, i_sub, i_mul, i_neg, i_ofNat, i_rem, i_div, w_in, w_in2, w_cnt, w_cnt2, z01, z01', il, li, lc_ge, lc_le, lc_gt, lc_lt, lc_eq, l_ofNat, l0, l_eq, l_lt, l_le]) <;> omega)) rfl, h, Gp_refl S⟩
theorem q_bird (h : RfR S W) (hA : rv S 266 = A) {p d : Int} (p1 : -2147483648 ≤ p) (p2 : p < 2147483648) (d1 : -2147483648 ≤ d) (d2 : d < 2147483648) : ∃ S1, fX12_bird (Int32.ofInt p) (Int32.ofInt 0) (Int32.ofInt d) S = some (Int32.ofInt (if bdB A p d = true then A 0 else -1), S1) ∧ RfR S1 W ∧ rv S1 266 = (if bdB A p d = true then bdA A p d else A) ∧ Hn S S1 := by
  have hr := h.1
  rw [hA] at hr
  have h0 := I_i0 hr
  have hE : rf (S.2.2.1 266) = A := hA
  have rb : S.2.2.1 266 0 = Int32.ofInt (A 0) := by rw [rv_eq, hA]
  unfold fX12_bird
  simp only [i_sub]
  by_cases hp : 1 ≤ p ∧ p ≤ 12
  · by_cases hd : 0 ≤ d ∧ d ≤ 10
    · by_cases h8 : A 0 < 8
      · have hB : bdB A p d = true := decide_eq_true ⟨hp, hd, h8⟩
        rw [if_pos hB]
        simp only [if_pos hB]
        obtain ⟨b, hbn⟩ := Int.eq_ofNat_of_zero_le h0.1
        have hbt : (A 0).toNat = b := by omega
        rw [hbn] at rb
        obtain ⟨u1, u2⟩ := RfR_told (f := upd (upd (upd (upd (S.2.2.1 266) (21 + b) (Int32.ofInt p)) (29 + b) (Int32.ofInt 0)) (37 + b) (Int32.ofInt d)) 0 (Int32.ofInt ((b : Int) + 1))) (A' := bdA A p d) h hA (by
          rw [rf_upd (by omega) (by omega), rf_upd (by omega) (by omega), rf_upd (by omega) (by omega), rf_upd (by omega) (by omega), hE]
          unfold bdA
          rw [hbt, hbn]) (bdA_o hr h8 1 (by unfold toldP; omega)) (bdA_rI hr hp hd h8)
        refine ⟨_, ?_, u1, u2, Hn_a⟩
        rw [rb]
        simp only [i_add]
        rw [show (21 : Int) + (b : Int) = ((21 + b : Nat) : Int) by omega, show (29 : Int) + (b : Int) = ((29 + b : Nat) : Int) by omega, show (37 : Int) + (b : Int) = ((37 + b : Nat) : Int) by omega]
        refine h_neg (by first | omega | ((simp (disch := omega) only [i0, i1, i_lt, i_le, i_eq, i_add, i_sub, i_mul, i_neg, i_ofNat, i_rem, i_div, w_in, w_in2, w_cnt, w_cnt2, z01, z01', il, li, lc_ge, lc_le, lc_gt, lc_lt, lc_eq, l_ofNat, l0, l_eq, l_lt, l_le]) <;> omega)) (h_neg (by first | omega | ((simp (disch := omega) only [i0, i1, i_lt, i_le, i_eq, i_add, i_sub, i_mul, i_neg, i_ofNat, i_rem, i_div, w_in, w_in2, w_cnt, w_cnt2, z01, z01', il, li, lc_ge, lc_le, lc_gt, lc_lt, lc_eq, l_ofNat, l0, l_eq, l_lt, l_le]) <;> omega)) (h_neg (by first | omega | ((simp (disch := omega) only [i0, i1, i_lt, i_le, i_eq, i_add, i_sub, i_mul, i_neg, i_ofNat, i_rem, i_div, w_in, w_in2, w_cnt, w_cnt2, z01, z01', il, li, lc_ge, lc_le, lc_gt, lc_lt, lc_eq, l_ofNat, l0, l_eq, l_lt, l_le]) <;> omega)) (h_pos (by first | omega | ((simp (disch := omega) only [i0, i1, i_lt, i_le, i_eq, i_add, i_sub, i_mul, i_neg, i_ofNat, i_rem, i_div, w_in, w_in2, w_cnt, w_cnt2, z01, z01', il, li, lc_ge, lc_le, lc_gt, lc_lt, lc_eq, l_ofNat, l0, l_eq, l_lt, l_le]) <;> omega)) ?_)))
        refine h_ainN (by omega) (by omega) (h_pst ?_)
        refine h_ainN (by omega) (by omega) (h_pst ?_)
        refine h_ainN (by omega) (by omega) (h_pst (h_pst ?_))
        simp (disch := omega) only [ySa_at, ySa_ySa, upd_ne]
        rw [rb, i_add, hbn]
      · have hB : ¬ bdB A p d = true := fun q => h8 (of_decide_eq_true q).2.2
        rw [if_neg hB]
        simp only [if_neg hB]
        refine ⟨S, ?_, h, hA, Hn_refl S⟩
        rw [rb]
        exact h_neg (by first | omega | ((simp (disch := omega) only [i0, i1, i_lt, i_le, i_eq, i_add, i_sub, i_mul, i_neg, i_ofNat, i_rem, i_div, w_in, w_in2, w_cnt, w_cnt2, z01, z01', il, li, lc_ge, lc_le, lc_gt, lc_lt, lc_eq, l_ofNat, l0, l_eq, l_lt, l_le]) <;> omega)) (h_neg (by first | omega | ((simp (disch := omega) only [i0, i1, i_lt, i_le, i_eq, i_add, i_sub, i_mul, i_neg, i_ofNat, i_rem, i_div, w_in, w_in2, w_cnt, w_cnt2, z01, z01', il, li, lc_ge, lc_le, lc_gt, lc_lt, lc_eq, l_ofNat, l0, l_eq, l_lt, l_le]) <;> omega)) (h_neg (by first | omega | ((simp (disch := omega) only [i0, i1, i_lt, i_le, i_eq, i_add, i_sub, i_mul, i_neg, i_ofNat, i_rem, i_div, w_in, w_in2, w_cnt, w_cnt2, z01, z01', il, li, lc_ge, lc_le, lc_gt, lc_lt, lc_eq, l_ofNat, l0, l_eq, l_lt, l_le]) <;> omega)) (h_neg (by first | omega | ((simp (disch := omega) only [i0, i1, i_lt, i_le, i_eq, i_add, i_sub, i_mul, i_neg, i_ofNat, i_rem, i_div, w_in, w_in2, w_cnt, w_cnt2, z01, z01', il, li, lc_ge, lc_le, lc_gt, lc_lt, lc_eq, l_ofNat, l0, l_eq, l_lt, l_le]) <;> omega)) rfl)))
    · have hB : ¬ bdB A p d = true := fun q => hd (of_decide_eq_true q).2.1
      rw [if_neg hB]
      simp only [if_neg hB]
      exact ⟨S, h_neg (by first | omega | ((simp (disch := omega) only [i0, i1, i_lt, i_le, i_eq, i_add, i_sub, i_mul, i_neg, i_ofNat, i_rem, i_div, w_in, w_in2, w_cnt, w_cnt2, z01, z01', il, li, lc_ge, lc_le, lc_gt, lc_lt, lc_eq, l_ofNat, l0, l_eq, l_lt, l_le]) <;> omega)) (h_neg (by first | omega | ((simp (disch := omega) only [i0, i1, i_lt, i_le, i_eq, i_add, i_sub, i_mul, i_neg, i_ofNat, i_rem, i_div, w_in, w_in2, w_cnt, w_cnt2, z01, z01', il, li, lc_ge, lc_le, lc_gt, lc_lt, lc_eq, l_ofNat, l0, l_eq, l_lt, l_le]) <;> omega)) (h_pos (by first | omega | ((simp (disch := omega) only [i0, i1, i_lt, i_le, i_eq, i_add, i_sub, i_mul, i_neg, i_ofNat, i_rem, i_div, w_in, w_in2, w_cnt, w_cnt2, z01, z01', il, li, lc_ge, lc_le, lc_gt, lc_lt, lc_eq, l_ofNat, l0, l_eq, l_lt, l_le]) <;> omega)) rfl)), h, hA, Hn_refl S⟩
  · have hB : ¬ bdB A p d = true := fun q => hp (of_decide_eq_true q).1
    rw [if_neg hB]
    simp only [if_neg hB]
    exact ⟨S, h_pos (by first | omega | ((simp (disch := omega) only [i0, i1, i_lt, i_le, i_eq, i_add, i_sub, i_mul, i_neg, i_ofNat, i_rem, i_div, w_in, w_in2, w_cnt, w_cnt2, z01, z01', il, li, lc_ge, lc_le, lc_gt, lc_lt, lc_eq, l_ofNat, l0, l_eq, l_lt, l_le]) <;> omega)) rfl, h, hA, Hn_refl S⟩
/-! a thing of the rhyme -/
def rhB (c x : Int) : Bool := decide ((0 ≤ c ∧ c ≤ 8) ∧ (0 ≤ x ∧ x ≤ 9))
def rhA (A : Nat → Int) (c x : Int) : Nat → Int := rU A (45 + c.toNat) x
theorem rhA_rI (hr : rI A) {c x : Int} (hc : 0 ≤ c ∧ c ≤ 8) (hx : 0 ≤ x ∧ x ≤ 9) : rI (rhA A c x) := by
  have z : ∀ k, k < 45 → rhA A c x k = A k := fun k y => rU_ne (by omega)
  have h0 := I_i0 hr
  refine rI_told hr (fun k hk => rU_ne (by unfold toldP at hk; omega)) (by rw [z 0 (by omega)]; exact Int.le_refl _) ?_ ?_ (fun k hk => ?_)
  · rw [z 0 (by omega), z 2 (by omega), z 4 (by omega), z 5 (by omega)]
    exact ⟨hr.1.1, hr.1.2.2.1, hr.1.2.2.2.2.1, hr.1.2.2.2.2.2⟩
  · exact rA_up hr.2.1 (show (117, 9, 45, 1, (0 : Int), (9 : Int)) ∈ cTab by decide) (show c.toNat < 9 by omega) hx (fun k _ _ => by rw [Nat.one_mul]; rfl)
  · rw [z 0 (by omega)] at hk
    rw [z _ (by omega), z _ (by omega)]
    exact hr.2.2.1 k hk
theorem k_rhyme (h : ClR T A S W) {c x : Int} (c1 : -2147483648 ≤ c) (c2 : c < 2147483648) (x1 : -2147483648 ≤ x) (x2 : x < 2147483648) : ∃ S1, fX11_rhyme (Int32.ofInt c) (Int32.ofInt x) S = some (Int32.ofInt (if rhB c x = true then 1 else 0), S1) ∧ ClR T (if rhB c x = true then rhA A c x else A) S1 W ∧ Gp S S1 := by
  have hr := h.2.1
  unfold fX11_rhyme
  by_cases hc : 0 ≤ c ∧ c ≤ 8
  · by_cases hx : 0 ≤ x ∧ x ≤ 9
    · have hB : rhB c x = true := decide_eq_true ⟨hc, hx⟩
      rw [if_pos hB]
      simp only [if_pos hB]
      obtain ⟨k, rfl⟩ := Int.eq_ofNat_of_zero_le hc.1
      refine ⟨ySa S 117 (upd (S.2.2.1 117) k (Int32.ofInt x)), h_neg (by first | omega | ((simp (disch := omega) only [i0, i1, i_lt, i_le, i_eq, i_add, i_sub, i_mul, i_neg, i_ofNat, i_rem, i_div, w_in, w_in2, w_cnt, w_cnt2, z01, z01', il, li, lc_ge, lc_le, lc_gt, lc_lt, lc_eq, l_ofNat, l0, l_eq, l_lt, l_le]) <;> omega)) (h_pos (by first | omega | ((simp (disch := omega) only [i0, i1, i_lt, i_le, i_eq, i_add, i_sub, i_mul, i_neg, i_ofNat, i_rem, i_div, w_in, w_in2, w_cnt, w_cnt2, z01, z01', il, li, lc_ge, lc_le, lc_gt, lc_lt, lc_eq, l_ofNat, l0, l_eq, l_lt, l_le]) <;> omega)) (h_ainN (by omega) (by omega) rfl)), ?_, fun _ _ _ _ => rfl, fun i a b c => ySa_ne _ _ (by omega), rfl, rfl⟩
      have e : rhA A (k : Int) x = rU A (45 + k) x := by unfold rhA; rw [Int.toNat_natCast]
      refine ClR_told h (fun i a => rfl) (fun i a => ySa_ne _ _ (by omega)) rfl (fun j hj => by rw [e]; exact rU_ne (by unfold toldP at hj; omega)) ?_ ?_ (rhA_rI hr hc hx)
      · rw [e]
        unfold cI
        rw [rU_ne (by omega), rU_ne (by omega), rU_ne (by omega), rU_ne (by omega), rU_ne (by omega)]
        exact h.1.1
      · rw [e]
        exact cA_up h.1.2.1 (show (117, 9, 45, 1, (0 : Int), (9 : Int)) ∈ cTab by decide) (show k < 9 by omega) (fun k _ _ => by rw [Nat.one_mul]) (ySa_at _ _ _) (fun i a b c => ySa_ne _ _ c)
    · have hB : ¬ rhB c x = true := fun q => hx (of_decide_eq_true q).2
      rw [if_neg hB]
      simp only [if_neg hB]
      exact ⟨S, h_neg (by first | omega | ((simp (disch := omega) only [i0, i1, i_lt, i_le, i_eq, i_add, i_sub, i_mul, i_neg, i_ofNat, i_rem, i_div, w_in, w_in2, w_cnt, w_cnt2, z01, z01', il, li, lc_ge, lc_le, lc_gt, lc_lt, lc_eq, l_ofNat, l0, l_eq, l_lt, l_le]) <;> omega)) (h_neg (by first | omega | ((simp (disch := omega) only [i0, i1, i_lt, i_le, i_eq, i_add, i_sub, i_mul, i_neg, i_ofNat, i_rem, i_div, w_in, w_in2, w_cnt, w_cnt2, z01, z01', il, li, lc_ge, lc_le, lc_gt, lc_lt, lc_eq, l_ofNat, l0, l_eq, l_lt, l_le]) <;> omega)) rfl), h, Gp_refl S⟩
  · have hB : ¬ rhB c x = true := fun q => hc (of_decide_eq_true q).1
    rw [if_neg hB]
    simp only [if_neg hB]
    exact ⟨S, h_pos (by first | omega | ((simp (disch := omega) only [i0, i1, i_lt, i_le, i_eq, i_add, i_sub, i_mul, i_neg, i_ofNat, i_rem, i_div, w_in, w_in2, w_cnt, w_cnt2, z01, z01', il, li, lc_ge, lc_le, lc_gt, lc_lt, lc_eq, l_ofNat, l0, l_eq, l_lt, l_le]) <;> omega)) rfl, h, Gp_refl S⟩
theorem q_rhyme (h : RfR S W) (hA : rv S 266 = A) {c x : Int} (c1 : -2147483648 ≤ c) (c2 : c < 2147483648) (x1 : -2147483648 ≤ x) (x2 : x < 2147483648) : ∃ S1, fX12_rhyme (Int32.ofInt c) (Int32.ofInt x) S = some (Int32.ofInt (if rhB c x = true then 1 else 0), S1) ∧ RfR S1 W ∧ rv S1 266 = (if rhB c x = true then rhA A c x else A) ∧ Hn S S1 := by
  have hr := h.1
  rw [hA] at hr
  have hE : rf (S.2.2.1 266) = A := hA
  unfold fX12_rhyme
  by_cases hc : 0 ≤ c ∧ c ≤ 8
  · by_cases hx : 0 ≤ x ∧ x ≤ 9
    · have hB : rhB c x = true := decide_eq_true ⟨hc, hx⟩
      rw [if_pos hB]
      simp only [if_pos hB]
      obtain ⟨k, rfl⟩ := Int.eq_ofNat_of_zero_le hc.1
      have e : rhA A (k : Int) x = rU A (45 + k) x := by unfold rhA; rw [Int.toNat_natCast]
      obtain ⟨u1, u2⟩ := RfR_told (f := upd (S.2.2.1 266) (45 + k) (Int32.ofInt x)) (A' := rhA A (k : Int) x) h hA (by rw [rf_upd (by omega) (by omega), hE, e]) (by rw [e]; exact rU_ne (by omega)) (rhA_rI hr hc hx)
      refine ⟨_, ?_, u1, u2, Hn_a⟩
      rw [i_add, show (45 : Int) + (k : Int) = ((45 + k : Nat) : Int) by omega]
      exact h_neg (by first | omega | ((simp (disch := omega) only [i0, i1, i_lt, i_le, i_eq, i_add, i_sub, i_mul, i_neg, i_ofNat, i_rem, i_div, w_in, w_in2, w_cnt, w_cnt2, z01, z01', il, li, lc_ge, lc_le, lc_gt, lc_lt, lc_eq, l_ofNat, l0, l_eq, l_lt, l_le]) <;> omega)) (h_pos (by first | omega | ((simp (disch := omega) only [i0, i1, i_lt, i_le, i_eq, i_add, i_sub, i_mul, i_neg, i_ofNat, i_rem, i_div, w_in, w_in2, w_cnt, w_cnt2, z01, z01', il, li, lc_ge, lc_le, lc_gt, lc_lt, lc_eq, l_ofNat, l0, l_eq, l_lt, l_le]) <;> omega)) (h_ainN (by omega) (by omega) rfl))
    · have hB : ¬ rhB c x = true := fun q => hx (of_decide_eq_true q).2
      rw [if_neg hB]
      simp only [if_neg hB]
      exact ⟨S, h_neg (by first | omega | ((simp (disch := omega) only [i0, i1, i_lt, i_le, i_eq, i_add, i_sub, i_mul, i_neg, i_ofNat, i_rem, i_div, w_in, w_in2, w_cnt, w_cnt2, z01, z01', il, li, lc_ge, lc_le, lc_gt, lc_lt, lc_eq, l_ofNat, l0, l_eq, l_lt, l_le]) <;> omega)) (h_neg (by first | omega | ((simp (disch := omega) only [i0, i1, i_lt, i_le, i_eq, i_add, i_sub, i_mul, i_neg, i_ofNat, i_rem, i_div, w_in, w_in2, w_cnt, w_cnt2, z01, z01', il, li, lc_ge, lc_le, lc_gt, lc_lt, lc_eq, l_ofNat, l0, l_eq, l_lt, l_le]) <;> omega)) rfl), h, hA, Hn_refl S⟩
  · have hB : ¬ rhB c x = true := fun q => hc (of_decide_eq_true q).1
    rw [if_neg hB]
    simp only [if_neg hB]
    exact ⟨S, h_pos (by first | omega | ((simp (disch := omega) only [i0, i1, i_lt, i_le, i_eq, i_add, i_sub, i_mul, i_neg, i_ofNat, i_rem, i_div, w_in, w_in2, w_cnt, w_cnt2, z01, z01', il, li, lc_ge, lc_le, lc_gt, lc_lt, lc_eq, l_ofNat, l0, l_eq, l_lt, l_le]) <;> omega)) rfl, h, hA, Hn_refl S⟩
end PMS
