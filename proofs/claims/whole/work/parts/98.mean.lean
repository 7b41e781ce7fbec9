/-! ===== mean, comes ===== -/
def smL (p : Nat → Bool) (q : Nat → Int) : Nat → Nat → Int → Int
  | 0, _, x => x
  | r + 1, b, x => smL p q r (b + 1) (if p b = true then x + q b else x)
theorem smL_no {p : Nat → Bool} {q : Nat → Int} : ∀ (r b : Nat) (x : Int), (∀ k, b ≤ k → k < b + r → p k = false) → smL p q r b x = x
  | 0, _, _, _ => rfl
  | r + 1, b, x, h => by
    unfold smL
    rw [h b (Nat.le_refl _) (by omega), if_neg (by decide)]
    exact smL_no r (b + 1) x (fun k a c => h k (by omega) (by omega))
theorem smL_add {p : Nat → Bool} {q : Nat → Int} : ∀ (r s b : Nat) (x : Int), smL p q (r + s) b x = smL p q s (b + r) (smL p q r b x)
  | 0, s, b, x => by rw [Nat.zero_add]; rfl
  | r + 1, s, b, x => by
    rw [show r + 1 + s = (r + s) + 1 by omega]
    show smL p q (r + s) (b + 1) _ = smL p q s (b + (r + 1)) (smL p q r (b + 1) _)
    rw [smL_add r s (b + 1), show b + 1 + r = b + (r + 1) by omega]
theorem smL_rng {p : Nat → Bool} {q : Nat → Int} (hq : ∀ b, b < 8 → 0 ≤ q b ∧ q b ≤ 10) : ∀ (r b : Nat) (x : Int), b + r ≤ 8 → 0 ≤ x ∧ x ≤ 10 * b → 0 ≤ smL p q r b x ∧ smL p q r b x ≤ 80
  | 0, b, x, hb, hx => by
    show 0 ≤ x ∧ x ≤ 80
    omega
  | r + 1, b, x, hb, hx => by
    have := hq b (by omega)
    unfold smL
    split
    · exact smL_rng hq r (b + 1) _ (by omega) (by omega)
    · exact smL_rng hq r (b + 1) _ (by omega) (by omega)
section PMS
variable {T : yK} {S S' S1 S2 : yS} {A A' : Nat → Int} {W : Nat → wP}
theorem c_meanL {N : Nat} (hN : 2000000 ≤ N) {X : yS} {D : Int32} {q : Nat → Int} (hq : ∀ b, b < 8 → 0 ≤ q b ∧ q b ≤ 10) (hx : ∀ b, b < 8 → tb D b = true → X.2.2.1 263 b = Int32.ofInt (q b)) {z : Int} (hz : z = 0 ∨ z = 1) : ∀ (r n b : Nat) (x : Int), b + r = 8 → r < n → 0 ≤ x ∧ x ≤ 10 * b → lX11_mean N T n (Int32.ofInt z) D (Int32.ofInt x) (Int32.ofInt (b : Int)) X = some (Int64.ofInt (lwS (smL (tb D) q r b x) 10 z), X)
  | 0, n + 1, b, x, hb, hn, hx0 => by
    rw [lX11_mean, il (by omega) (by omega)]
    refine h_pos (by first | omega | ((simp (disch := omega) only [i0, i1, i_lt, i_le, i_eq, i_add, i_sub, i_mul, i_neg, i_ofNat, i_rem, i_div, w_in, w_in2, w_cnt, w_cnt2, z01, z01', il, li, lc_ge, lc_le, lc_gt, lc_lt, lc_eq, l_ofNat, l0, l_eq, l_lt, l_le]) <;> omega)) (h_bind (c_low hN (by omega) (by omega) hz) rfl)
  | r + 1, n + 1, b, x, hb, hn, hx0 => by
    have hqb := hq b (by omega)
    rw [lX11_mean, in_tb D (by omega), i_add, show (b : Int) + 1 = ((b + 1 : Nat) : Int) by omega]
    unfold smL
    refine h_neg (by first | omega | ((simp (disch := omega) only [i0, i1, i_lt, i_le, i_eq, i_add, i_sub, i_mul, i_neg, i_ofNat, i_rem, i_div, w_in, w_in2, w_cnt, w_cnt2, z01, z01', il, li, lc_ge, lc_le, lc_gt, lc_lt, lc_eq, l_ofNat, l0, l_eq, l_lt, l_le]) <;> omega)) ?_
    cases hD : tb D b with
    | false =>
      rw [if_neg (show ¬ false = true by decide)]
      exact h_pos (by decide) (c_meanL hN hq hx hz r n (b + 1) x (by omega) (by omega) (by omega))
    | true =>
      rw [if_pos (show true = true from rfl)]
      refine h_neg (by decide) (h_ainN (by omega) (by omega) ?_)
      rw [hx b (by omega) hD, i_add]
      exact c_meanL hN hq hx hz r n (b + 1) (x + q b) (by omega) (by omega) (by omega)
theorem q_meanL {N : Nat} (hN : 2000000 ≤ N) {z : Int} (hz : z = 0 ∨ z = 1) : ∀ (r n b : Nat) (S : yS) (x : Int), RfR S W → rv S 266 = A → (b + r : Nat) = A 0 → r < n → 0 ≤ x ∧ x ≤ 10 * b → ∃ S', lX12_mean N n (Int32.ofInt z) (Int64.ofInt x) (Int32.ofInt (b : Int)) S = some (Int64.ofInt (lwS (smL (dueB A (A 6)) (chS W A) r b x) 10 z), S') ∧ Fq S S'
  | 0, n + 1, b, S, x, h, hA, hb, hn, hx => by
    have h0 := I_i0 h.1
    rw [hA] at h0
    rw [lX12_mean, rv_eq S 266 0, hA]
    exact ⟨S, h_pos (by first | omega | ((simp (disch := omega) only [i0, i1, i_lt, i_le, i_eq, i_add, i_sub, i_mul, i_neg, i_ofNat, i_rem, i_div, w_in, w_in2, w_cnt, w_cnt2, z01, z01', il, li, lc_ge, lc_le, lc_gt, lc_lt, lc_eq, l_ofNat, l0, l_eq, l_lt, l_le]) <;> omega)) (h_bind (r_low hN (by omega) (by omega) hz) rfl), Fq_refl S⟩
  | r + 1, n + 1, b, S, x, h, hA, hb, hn, hx => by
    have hr := h.1
    rw [hA] at hr
    have h0 := I_i0 hr
    have hq := chS_rng (W := W) hr (show b < 8 by omega)
    have du := q_due (b := b) h.1 (by rw [hA]; omega) (d := 0) (by omega)
    rw [hA, Int.add_zero] at du
    rw [lX12_mean, rv_eq S 266 0, hA, i_add, show (b : Int) + 1 = ((b + 1 : Nat) : Int) by omega]
    unfold smL
    cases hD : dueB A (A 6) b with
    | false =>
      rw [hD] at du
      rw [if_neg (show ¬ false = true by decide)]
      obtain ⟨S', e1, e2⟩ := q_meanL hN hz r n (b + 1) S x h hA (by omega) (by omega) (by omega)
      refine ⟨S', h_neg (by first | omega | ((simp (disch := omega) only [i0, i1, i_lt, i_le, i_eq, i_add, i_sub, i_mul, i_neg, i_ofNat, i_rem, i_div, w_in, w_in2, w_cnt, w_cnt2, z01, z01', il, li, lc_ge, lc_le, lc_gt, lc_lt, lc_eq, l_ofNat, l0, l_eq, l_lt, l_le]) <;> omega)) (h_bind du (h_pos (by decide) ?_)), e2⟩
      rw [show Int64.ofNat 0 = Int64.ofInt 0 from rfl, l_add, Int.add_zero]
      exact e1
    | true =>
      rw [hD] at du
      rw [if_pos (show true = true from rfl)]
      obtain ⟨S1, c1, c2⟩ := q_chance h hN (b := b) (by rw [hA]; omega)
      rw [hA] at c1
      obtain ⟨S', e1, e2⟩ := q_meanL hN hz r n (b + 1) S1 (x + chS W A b) (RfR_Fq h c2) ((Fq_rv c2 (by unfold kA; omega)).trans hA) (by omega) (by omega) (by omega)
      refine ⟨S', h_neg (by first | omega | ((simp (disch := omega) only [i0, i1, i_lt, i_le, i_eq, i_add, i_sub, i_mul, i_neg, i_ofNat, i_rem, i_div, w_in, w_in2, w_cnt, w_cnt2, z01, z01', il, li, lc_ge, lc_le, lc_gt, lc_lt, lc_eq, l_ofNat, l0, l_eq, l_lt, l_le]) <;> omega)) (h_bind du (h_neg (by decide) (h_bind c1 ?_))), Fq_trans c2 e2⟩
      dsimp only
      rw [il (by omega) (by omega), l_add]
      exact e1
theorem smL_ext {p p' : Nat → Bool} {q : Nat → Int} : ∀ (r b : Nat) (x : Int), (∀ k, b ≤ k → k < b + r → p k = p' k) → smL p q r b x = smL p' q r b x
  | 0, _, _, _ => rfl
  | r + 1, b, x, h => by
    unfold smL
    rw [h b (Nat.le_refl _) (by omega)]
    exact smL_ext r (b + 1) _ (fun k a c => h k (by omega) (by omega))
theorem pm_mean (h : Rel T S) {N : Nat} (hN : 2000000 ≤ N) {z : Int} (hz : z = 0 ∨ z = 1) : PMl T S (fX11_mean N T (Int32.ofInt z)) (fX12_mean N (Int32.ofInt z)) := by
  obtain ⟨W, hc, hf⟩ := Rel_W h
  have h6 := R_day h
  have h0 := R_i0 h
  have hr := hc.2.1
  obtain ⟨S1, n1, n2, n3⟩ := k_note hc hN
  generalize hA : rv S 266 = A at *
  have cm := c_meanL (T := T) hN (X := S1) (D := dueS A (A 6)) (q := chS W A) (fun b hb => chS_rng hr hb) (fun b b8 hb => by
    rw [dueS_tb hr (by omega)] at hb
    have := of_decide_eq_true (Bool.and_eq_true_iff.mp hb).1
    exact n2 b (by omega)) hz 8 N 0 0 (by omega) (by omega) (by omega)
  obtain ⟨S2, q1, q2⟩ := q_meanL (W := W) (A := A) hN hz (A 0).toNat N 0 S1 0 (RfR_Fq hf n3) ((Fq_rv n3 (by unfold kA; omega)).trans hA) (by omega) (by omega) (by omega)
  have es : smL (tb (dueS A (A 6))) (chS W A) 8 0 0 = smL (dueB A (A 6)) (chS W A) (A 0).toNat 0 0 := by
    have e1 := smL_add (p := tb (dueS A (A 6))) (q := chS W A) (A 0).toNat (8 - (A 0).toNat) 0 0
    rw [show (A 0).toNat + (8 - (A 0).toNat) = 8 by omega, smL_no (8 - (A 0).toNat) _ _ (fun k a b => by
      rw [dueS_tb hr (by omega), decide_eq_false (show ¬ (k : Int) < A 0 by omega), Bool.false_and])] at e1
    rw [e1]
    refine smL_ext _ _ _ (fun k a b => ?_)
    rw [dueS_tb hr (by omega), decide_eq_true (show (k : Int) < A 0 by omega), Bool.true_and]
  rw [es] at cm
  refine ⟨_, S1, S2, ?_, q1, Rel_Fq h (Fq_trans n3 q2)⟩
  unfold fX11_mean
  rw [K_day hc.1]
  exact h_bind (k_dueS hc.1 hr hN (by omega)) (h_bind n1 cm)
/-! comes -/
def ceP (p : Nat → Bool) (q : Nat → Int) (b : Nat) : Bool := p b && decide (q b = 10)
def opP (p : Nat → Bool) (q : Nat → Int) (b : Nat) : Bool := p b && decide (0 < q b)
theorem c_canL {N : Nat} {X : yS} {D : Int32} {q : Nat → Int} (hq : ∀ b, b < 8 → 0 ≤ q b ∧ q b ≤ 10) (hx : ∀ b, b < 8 → tb D b = true → X.2.2.1 263 b = Int32.ofInt (q b)) {v : Int} (hv : 0 ≤ v ∧ v ≤ 8) : ∀ (r n b l m : Nat), b + r = 8 → r < n → l ≤ m → m ≤ b → lX11_canCome N n D (Int32.ofInt v) (Int32.ofInt (l : Int)) (Int32.ofInt ((m - l : Nat) : Int)) (Int32.ofInt (b : Int)) X = some (Int32.ofInt (if ((l + cnL (ceP (tb D) q) r b : Nat) : Int) ≤ v ∧ v ≤ ((m + cnL (opP (tb D) q) r b : Nat) : Int) then 1 else 0))
  | 0, n + 1, b, l, m, hb, hn, hl, hm => by
    rw [lX11_canCome, i_add, show (l : Int) + ((m - l : Nat) : Int) = (m : Int) by omega, w_in (by omega) (by omega) (by omega) (by omega) (by omega) (by omega)]
    refine h_pos (by first | omega | ((simp (disch := omega) only [i0, i1, i_lt, i_le, i_eq, i_add, i_sub, i_mul, i_neg, i_ofNat, i_rem, i_div, w_in, w_in2, w_cnt, w_cnt2, z01, z01', il, li, lc_ge, lc_le, lc_gt, lc_lt, lc_eq, l_ofNat, l0, l_eq, l_lt, l_le]) <;> omega)) (h_pos ?_ ?_)
    · rw [i0, i1, z01']; trivial
    · rfl
  | r + 1, n + 1, b, l, m, hb, hn, hl, hm => by
    have hqb := hq b (by omega)
    rw [lX11_canCome, in_tb D (by omega)]
    simp only [i_add]
    rw [show (b : Int) + 1 = ((b + 1 : Nat) : Int) by omega]
    refine h_neg (by first | omega | ((simp (disch := omega) only [i0, i1, i_lt, i_le, i_eq, i_add, i_sub, i_mul, i_neg, i_ofNat, i_rem, i_div, w_in, w_in2, w_cnt, w_cnt2, z01, z01', il, li, lc_ge, lc_le, lc_gt, lc_lt, lc_eq, l_ofNat, l0, l_eq, l_lt, l_le]) <;> omega)) ?_
    unfold cnL ceP opP
    cases hD : tb D b with
    | false =>
      refine h_pos (by decide) (h_pos (by decide) ?_)
      have e := c_canL (N := N) hq hx hv r n (b + 1) l m (by omega) (by omega) hl (by omega)
      rw [e]
      simp only [Bool.false_and, Bool.false_eq_true, if_false, Nat.zero_add]
      rfl
    | true =>
      refine h_neg (by decide) (h_ainN (by omega) (by omega) ?_)
      rw [hx b (by omega) hD]
      by_cases q10 : q b = 10
      · refine h_neg (by first | omega | ((simp (disch := omega) only [i0, i1, i_lt, i_le, i_eq, i_add, i_sub, i_mul, i_neg, i_ofNat, i_rem, i_div, w_in, w_in2, w_cnt, w_cnt2, z01, z01', il, li, lc_ge, lc_le, lc_gt, lc_lt, lc_eq, l_ofNat, l0, l_eq, l_lt, l_le]) <;> omega)) ?_
        have e := c_canL (N := N) hq hx hv r n (b + 1) (l + 1) (m + 1) (by omega) (by omega) (by omega) (by omega)
        rw [show m + 1 - (l + 1) = m - l by omega] at e
        rw [show (l : Int) + 1 = ((l + 1 : Nat) : Int) by omega, e]
        simp only [decide_eq_true q10, decide_eq_true (show 0 < q b by omega), Bool.true_and, if_true, Nat.add_assoc]
        rfl
      · refine h_pos (by first | omega | ((simp (disch := omega) only [i0, i1, i_lt, i_le, i_eq, i_add, i_sub, i_mul, i_neg, i_ofNat, i_rem, i_div, w_in, w_in2, w_cnt, w_cnt2, z01, z01', il, li, lc_ge, lc_le, lc_gt, lc_lt, lc_eq, l_ofNat, l0, l_eq, l_lt, l_le]) <;> omega)) (h_neg (by decide) (h_ainN (by omega) (by omega) ?_))
        rw [hx b (by omega) hD]
        by_cases q0 : 0 < q b
        · refine h_neg (by first | omega | ((simp (disch := omega) only [i0, i1, i_lt, i_le, i_eq, i_add, i_sub, i_mul, i_neg, i_ofNat, i_rem, i_div, w_in, w_in2, w_cnt, w_cnt2, z01, z01', il, li, lc_ge, lc_le, lc_gt, lc_lt, lc_eq, l_ofNat, l0, l_eq, l_lt, l_le]) <;> omega)) ?_
          have e := c_canL (N := N) hq hx hv r n (b + 1) l (m + 1) (by omega) (by omega) (by omega) (by omega)
          rw [show ((m + 1 - l : Nat) : Int) = ((m - l : Nat) : Int) + 1 by omega] at e
          rw [e]
          simp only [decide_eq_false q10, decide_eq_true q0, Bool.true_and, Bool.false_eq_true, if_true, if_false, Nat.add_assoc, Nat.zero_add]
          rfl
        · refine h_pos (by first | omega | ((simp (disch := omega) only [i0, i1, i_lt, i_le, i_eq, i_add, i_sub, i_mul, i_neg, i_ofNat, i_rem, i_div, w_in, w_in2, w_cnt, w_cnt2, z01, z01', il, li, lc_ge, lc_le, lc_gt, lc_lt, lc_eq, l_ofNat, l0, l_eq, l_lt, l_le]) <;> omega)) ?_
          have e := c_canL (N := N) hq hx hv r n (b + 1) l m (by omega) (by omega) hl (by omega)
          rw [e]
          simp only [decide_eq_false q10, decide_eq_false q0, Bool.true_and, Bool.false_eq_true, if_false, Nat.zero_add]
          rfl
def cmL (p : Nat → Bool) : Nat → Nat → Int
  | 0, _ => -1
  | r + 1, i => if p i = true then (i : Int) else cmL p r (i + 1)
def cmB (W : Nat → wP) (A : Nat → Int) (v : Int) (i : Nat) : Bool := decide (((cnL (ceP (tb (dueS A (A 6 + i))) (chS W A)) 8 0 : Nat) : Int) ≤ v ∧ v ≤ ((cnL (opP (tb (dueS A (A 6 + i))) (chS W A)) 8 0 : Nat) : Int))
theorem k_comesL (h : ClR T A S W) (hn2 : chN W A S (A 0).toNat) {N : Nat} (hN : 2000000 ≤ N) {v : Int} (hv : 0 ≤ v ∧ v ≤ 8) : ∀ (r n i : Nat), i + r = 61 → r < n → lX11_comes N T n (Int32.ofInt v) (Int32.ofInt (i : Int)) S = some (Int32.ofInt (cmL (cmB W A v) r i), S)
  | 0, n + 1, i, hi, hn => by
    rw [lX11_comes]
    exact h_pos (by first | omega | ((simp (disch := omega) only [i0, i1, i_lt, i_le, i_eq, i_add, i_sub, i_mul, i_neg, i_ofNat, i_rem, i_div, w_in, w_in2, w_cnt, w_cnt2, z01, z01', il, li, lc_ge, lc_le, lc_gt, lc_lt, lc_eq, l_ofNat, l0, l_eq, l_lt, l_le]) <;> omega)) rfl
  | r + 1, n + 1, i, hi, hn => by
    have hr := h.2.1
    have h6 := I_day hr
    have h0 := I_i0 hr
    have d := k_dueS h.1 hr hN (d := A 6 + i) (by omega)
    have c := c_canL (N := N) (X := S) (D := dueS A (A 6 + i)) (q := chS W A) (fun b hb => chS_rng hr hb) (fun b b8 hb => by
      rw [dueS_tb hr (by omega)] at hb
      have := of_decide_eq_true (Bool.and_eq_true_iff.mp hb).1
      exact hn2 b (by omega)) hv 8 N 0 0 0 (by omega) (by omega) (by omega) (by omega)
    rw [Nat.zero_add, Nat.zero_add] at c
    rw [lX11_comes, K_day h.1, i_add, i_add, show (i : Int) + 1 = ((i + 1 : Nat) : Int) by omega]
    refine h_neg (by first | omega | ((simp (disch := omega) only [i0, i1, i_lt, i_le, i_eq, i_add, i_sub, i_mul, i_neg, i_ofNat, i_rem, i_div, w_in, w_in2, w_cnt, w_cnt2, z01, z01', il, li, lc_ge, lc_le, lc_gt, lc_lt, lc_eq, l_ofNat, l0, l_eq, l_lt, l_le]) <;> omega)) (h_bind d (h_bind c ?_))
    unfold cmL cmB
    by_cases q : ((cnL (ceP (tb (dueS A (A 6 + i))) (chS W A)) 8 0 : Nat) : Int) ≤ v ∧ v ≤ ((cnL (opP (tb (dueS A (A 6 + i))) (chS W A)) 8 0 : Nat) : Int)
    · rw [if_pos q, decide_eq_true q, if_pos rfl]
      exact h_neg (by decide) rfl
    · rw [if_neg q, decide_eq_false q]
      refine h_pos (by decide) (Eq.trans (k_comesL h hn2 hN hv r n (i + 1) (by omega) (by omega)) ?_)
      rfl
theorem q_comI {N : Nat} (hN : 2000000 ≤ N) {v : Int32} {i : Nat} (hi : i ≤ 60) : ∀ (r n b l m : Nat) (S : yS), RfR S W → rv S 266 = A → (b + r : Nat) = A 0 → l ≤ b → m ≤ b → ∃ S', lX12_comes N (n + r) 1 v (Int32.ofInt (i : Int)) (Int32.ofInt (l : Int)) (Int32.ofInt (m : Int)) (Int32.ofInt (b : Int)) S = lX12_comes N n 1 v (Int32.ofInt (i : Int)) (Int32.ofInt ((l + cnL (ceP (dueB A (A 6 + i)) (chS W A)) r b : Nat) : Int)) (Int32.ofInt ((m + cnL (opP (dueB A (A 6 + i)) (chS W A)) r b : Nat) : Int)) (Int32.ofInt ((b + r : Nat) : Int)) S' ∧ Fq S S'
  | 0, n, b, l, m, S, h, hA, hb, hl, hm => ⟨S, rfl, Fq_refl S⟩
  | r + 1, n, b, l, m, S, h, hA, hb, hl, hm => by
    have hr := h.1
    rw [hA] at hr
    have h0 := I_i0 hr
    have hq := chS_rng (W := W) hr (show b < 8 by omega)
    have du := q_due (b := b) h.1 (by rw [hA]; omega) (d := (i : Int)) (by omega)
    rw [hA] at du
    rw [show n + (r + 1) = (n + r) + 1 by omega, lX12_comes, rv_eq S 266 0, hA]
    simp only [i_add, Int.add_zero]
    rw [show (b : Int) + 1 = ((b + 1 : Nat) : Int) by omega, show b + (r + 1) = b + 1 + r by omega, show (l : Int) + 1 = ((l + 1 : Nat) : Int) by omega, show (m : Int) + 1 = ((m + 1 : Nat) : Int) by omega]
    unfold cnL ceP opP
    cases hD : dueB A (A 6 + i) b with
    | false =>
      rw [hD] at du
      obtain ⟨S', e1, e2⟩ := q_comI (v := v) hN hi r n (b + 1) l m S h hA (by omega) (by omega) (by omega)
      refine ⟨S', h_neg (by decide) (h_neg (by first | omega | ((simp (disch := omega) only [i0, i1, i_lt, i_le, i_eq, i_add, i_sub, i_mul, i_neg, i_ofNat, i_rem, i_div, w_in, w_in2, w_cnt, w_cnt2, z01, z01', il, li, lc_ge, lc_le, lc_gt, lc_lt, lc_eq, l_ofNat, l0, l_eq, l_lt, l_le]) <;> omega)) (h_bind du (h_neg (by decide) (Eq.trans e1 ?_)))), e2⟩
      simp only [Bool.false_and, Bool.false_eq_true, if_false, Nat.zero_add]
      rfl
    | true =>
      rw [hD] at du
      obtain ⟨S1, c1, c2⟩ := q_chance h hN (b := b) (by rw [hA]; omega)
      rw [hA] at c1
      have a1 := (Fq_rv c2 (show kA 266 by unfold kA; omega)).trans hA
      obtain ⟨S2, c3, c4⟩ := q_chance (RfR_Fq h c2) hN (b := b) (by rw [a1]; omega)
      rw [a1] at c3
      have a2 := (Fq_rv c4 (show kA 266 by unfold kA; omega)).trans a1
      have r2 := RfR_Fq (RfR_Fq h c2) c4
      by_cases q10 : chS W A b = 10
      · obtain ⟨S', e1, e2⟩ := q_comI (v := v) hN hi r n (b + 1) (l + 1) (m + 1) S2 r2 a2 (by omega) (by omega) (by omega)
        refine ⟨S', h_neg (by decide) (h_neg (by first | omega | ((simp (disch := omega) only [i0, i1, i_lt, i_le, i_eq, i_add, i_sub, i_mul, i_neg, i_ofNat, i_rem, i_div, w_in, w_in2, w_cnt, w_cnt2, z01, z01', il, li, lc_ge, lc_le, lc_gt, lc_lt, lc_eq, l_ofNat, l0, l_eq, l_lt, l_le]) <;> omega)) (h_bind du (h_pos (by decide) (h_bind c1 ?_)))), Fq_trans c2 (Fq_trans c4 e2)⟩
        dsimp only
        refine h_neg (by first | omega | ((simp (disch := omega) only [i0, i1, i_lt, i_le, i_eq, i_add, i_sub, i_mul, i_neg, i_ofNat, i_rem, i_div, w_in, w_in2, w_cnt, w_cnt2, z01, z01', il, li, lc_ge, lc_le, lc_gt, lc_lt, lc_eq, l_ofNat, l0, l_eq, l_lt, l_le]) <;> omega)) (h_bind c3 ?_)
        dsimp only
        refine h_neg (by first | omega | ((simp (disch := omega) only [i0, i1, i_lt, i_le, i_eq, i_add, i_sub, i_mul, i_neg, i_ofNat, i_rem, i_div, w_in, w_in2, w_cnt, w_cnt2, z01, z01', il, li, lc_ge, lc_le, lc_gt, lc_lt, lc_eq, l_ofNat, l0, l_eq, l_lt, l_le]) <;> omega)) (Eq.trans e1 ?_)
        simp only [decide_eq_true q10, decide_eq_true (show 0 < chS W A b by omega), Bool.true_and, if_true, Nat.add_assoc]
        rfl
      · by_cases q0 : 0 < chS W A b
        · obtain ⟨S', e1, e2⟩ := q_comI (v := v) hN hi r n (b + 1) l (m + 1) S2 r2 a2 (by omega) (by omega) (by omega)
          refine ⟨S', h_neg (by decide) (h_neg (by first | omega | ((simp (disch := omega) only [i0, i1, i_lt, i_le, i_eq, i_add, i_sub, i_mul, i_neg, i_ofNat, i_rem, i_div, w_in, w_in2, w_cnt, w_cnt2, z01, z01', il, li, lc_ge, lc_le, lc_gt, lc_lt, lc_eq, l_ofNat, l0, l_eq, l_lt, l_le]) <;> omega)) (h_bind du (h_pos (by decide) (h_bind c1 ?_)))), Fq_trans c2 (Fq_trans c4 e2)⟩
          dsimp only
          refine h_pos (by first | omega | ((simp (disch := omega) only [i0, i1, i_lt, i_le, i_eq, i_add, i_sub, i_mul, i_neg, i_ofNat, i_rem, i_div, w_in, w_in2, w_cnt, w_cnt2, z01, z01', il, li, lc_ge, lc_le, lc_gt, lc_lt, lc_eq, l_ofNat, l0, l_eq, l_lt, l_le]) <;> omega)) (h_bind c3 ?_)
          dsimp only
          refine h_neg (by first | omega | ((simp (disch := omega) only [i0, i1, i_lt, i_le, i_eq, i_add, i_sub, i_mul, i_neg, i_ofNat, i_rem, i_div, w_in, w_in2, w_cnt, w_cnt2, z01, z01', il, li, lc_ge, lc_le, lc_gt, lc_lt, lc_eq, l_ofNat, l0, l_eq, l_lt, l_le]) <;> omega)) (Eq.trans e1 ?_)
          simp only [decide_eq_false q10, decide_eq_true q0, Bool.true_and, Bool.false_eq_true, if_true, if_false, Nat.add_assoc, Nat.zero_add]
          rfl
        · obtain ⟨S', e1, e2⟩ := q_comI (v := v) hN hi r n (b + 1) l m S2 r2 a2 (by omega) (by omega) (by omega)
          refine ⟨S', h_neg (by decide) (h_neg (by first | omega | ((simp (disch := omega) only [i0, i1, i_lt, i_le, i_eq, i_add, i_sub, i_mul, i_neg, i_ofNat, i_rem, i_div, w_in, w_in2, w_cnt, w_cnt2, z01, z01', il, li, lc_ge, lc_le, lc_gt, lc_lt, lc_eq, l_ofNat, l0, l_eq, l_lt, l_le]) <;> omega)) (h_bind du (h_pos (by decide) (h_bind c1 ?_)))), Fq_trans c2 (Fq_trans c4 e2)⟩
          dsimp only
          refine h_pos (by first | omega | ((simp (disch := omega) only [i0, i1, i_lt, i_le, i_eq, i_add, i_sub, i_mul, i_neg, i_ofNat, i_rem, i_div, w_in, w_in2, w_cnt, w_cnt2, z01, z01', il, li, lc_ge, lc_le, lc_gt, lc_lt, lc_eq, l_ofNat, l0, l_eq, l_lt, l_le]) <;> omega)) (h_bind c3 ?_)
          dsimp only
          refine h_pos (by first | omega | ((simp (disch := omega) only [i0, i1, i_lt, i_le, i_eq, i_add, i_sub, i_mul, i_neg, i_ofNat, i_rem, i_div, w_in, w_in2, w_cnt, w_cnt2, z01, z01', il, li, lc_ge, lc_le, lc_gt, lc_lt, lc_eq, l_ofNat, l0, l_eq, l_lt, l_le]) <;> omega)) (Eq.trans e1 ?_)
          simp only [decide_eq_false q10, decide_eq_false q0, Bool.true_and, Bool.false_eq_true, if_false, Nat.zero_add]
          rfl
theorem cn_due {hr : rI A} {q : Nat → Int} {d : Int} {f : (Nat → Bool) → (Nat → Int) → Nat → Bool} (hf : ∀ p p' k, p k = p' k → f p q k = f p' q k) (hf0 : ∀ p k, p k = false → f p q k = false) : cnL (f (tb (dueS A d)) q) 8 0 = cnL (f (dueB A d) q) (A 0).toNat 0 := by
  have h0 := I_i0 hr
  have e1 := cnL_add (p := f (tb (dueS A d)) q) (A 0).toNat (8 - (A 0).toNat) 0
  rw [show (A 0).toNat + (8 - (A 0).toNat) = 8 by omega, cnL_no (8 - (A 0).toNat) _ (fun k a b => hf0 _ _ (by
    rw [dueS_tb hr (by omega), decide_eq_false (show ¬ (k : Int) < A 0 by omega), Bool.false_and])), Nat.add_zero] at e1
  rw [e1]
  refine cnL_ext _ _ (fun k a b => hf _ _ _ ?_)
  rw [dueS_tb hr (by omega), decide_eq_true (show (k : Int) < A 0 by omega), Bool.true_and]
theorem q_comesL {N : Nat} (hN : 2000000 ≤ N) {v : Int} (hv : 0 ≤ v ∧ v ≤ 8) : ∀ (r n i : Nat) (S : yS), RfR S W → rv S 266 = A → i + r = 61 → 10 * r < n → ∃ S', lX12_comes N n 0 (Int32.ofInt v) (Int32.ofInt (i : Int)) 0 0 0 S = some (Int32.ofInt (cmL (cmB W A v) r i), S') ∧ Fq S S'
  | 0, n + 1, i, S, h, hA, hi, hn => by
    rw [lX12_comes]
    exact ⟨S, h_pos rfl (h_pos (by first | omega | ((simp (disch := omega) only [i0, i1, i_lt, i_le, i_eq, i_add, i_sub, i_mul, i_neg, i_ofNat, i_rem, i_div, w_in, w_in2, w_cnt, w_cnt2, z01, z01', il, li, lc_ge, lc_le, lc_gt, lc_lt, lc_eq, l_ofNat, l0, l_eq, l_lt, l_le]) <;> omega)) rfl), Fq_refl S⟩
  | r + 1, n + 1, i, S, h, hA, hi, hn => by
    have hr := h.1
    rw [hA] at hr
    have h0 := I_i0 hr
    obtain ⟨S1, e1, e2⟩ := q_comI (W := W) (A := A) (v := Int32.ofInt v) hN (i := i) (by omega) (A 0).toNat (n - (A 0).toNat - 1 + 1) 0 0 0 S h hA (by omega) (by omega) (by omega)
    rw [show n - (A 0).toNat - 1 + 1 + (A 0).toNat = n by omega, Nat.zero_add, Nat.zero_add, Nat.zero_add, ← cn_due (hr := hr) (f := ceP) (fun p p' k e => by unfold ceP; rw [e]) (fun p k e => by unfold ceP; rw [e, Bool.false_and]), ← cn_due (hr := hr) (f := opP) (fun p p' k e => by unfold opP; rw [e]) (fun p k e => by unfold opP; rw [e, Bool.false_and])] at e1
    have a1 := (Fq_rv e2 (show kA 266 by unfold kA; omega)).trans hA
    obtain ⟨S2, g1, g2⟩ := q_comesL hN hv r (n - (A 0).toNat - 1) (i + 1) S1 (RfR_Fq h e2) a1 (by omega) (by omega)
    have c1 := cnL_le (ceP (tb (dueS A (A 6 + i))) (chS W A)) 8 0
    have c2 := cnL_le (opP (tb (dueS A (A 6 + i))) (chS W A)) 8 0
    have st : ∀ {X : Option (Int32 × yS)}, (if (fX12_isIn (Int32.ofInt v) (Int32.ofInt ((cnL (ceP (tb (dueS A (A 6 + i))) (chS W A)) 8 0 : Nat) : Int)) (Int32.ofInt ((cnL (opP (tb (dueS A (A 6 + i))) (chS W A)) 8 0 : Nat) : Int))) = 0 then lX12_comes N (n - (A 0).toNat - 1) 0 (Int32.ofInt v) (Int32.ofInt ((i + 1 : Nat) : Int)) 0 0 0 S1 else some (Int32.ofInt (i : Int), S1)) = X → lX12_comes N (n + 1) 0 (Int32.ofInt v) (Int32.ofInt (i : Int)) 0 0 0 S = X := by
      intro X hX
      rw [lX12_comes]
      refine h_pos rfl (h_neg (by first | omega | ((simp (disch := omega) only [i0, i1, i_lt, i_le, i_eq, i_add, i_sub, i_mul, i_neg, i_ofNat, i_rem, i_div, w_in, w_in2, w_cnt, w_cnt2, z01, z01', il, li, lc_ge, lc_le, lc_gt, lc_lt, lc_eq, l_ofNat, l0, l_eq, l_lt, l_le]) <;> omega)) (Eq.trans e1 ?_))
      rw [lX12_comes, rv_eq S1 266 0, a1, i_add (i : Int) 1, show (i : Int) + 1 = ((i + 1 : Nat) : Int) by omega]
      exact h_neg (by decide) (h_pos (by first | omega | ((simp (disch := omega) only [i0, i1, i_lt, i_le, i_eq, i_add, i_sub, i_mul, i_neg, i_ofNat, i_rem, i_div, w_in, w_in2, w_cnt, w_cnt2, z01, z01', il, li, lc_ge, lc_le, lc_gt, lc_lt, lc_eq, l_ofNat, l0, l_eq, l_lt, l_le]) <;> omega)) hX)
    rw [w_in2 (by omega) (by omega) (by omega) (by omega) (by omega) (by omega)] at st
    unfold cmL cmB
    by_cases q : ((cnL (ceP (tb (dueS A (A 6 + i))) (chS W A)) 8 0 : Nat) : Int) ≤ v ∧ v ≤ ((cnL (opP (tb (dueS A (A 6 + i))) (chS W A)) 8 0 : Nat) : Int)
    · rw [if_pos q] at st
      rw [decide_eq_true q, if_pos rfl]
      exact ⟨S1, st (h_neg (by decide) rfl), e2⟩
    · rw [if_neg q] at st
      rw [decide_eq_false q]
      exact ⟨S2, st (h_pos (by decide) g1), Fq_trans e2 g2⟩
theorem pm_comes (h : Rel T S) {N : Nat} (hN : 2000000 ≤ N) (v0 : Int32) : PM T S (fX11_comes N T v0) (fX12_comes N v0) := by
  obtain ⟨v, v1, v2, rfl⟩ := i_ex v0
  obtain ⟨W, hc, hf⟩ := Rel_W h
  unfold PM fX11_comes fX12_comes
  by_cases hv : 0 ≤ v ∧ v ≤ 8
  · obtain ⟨S1, n1, n2, n3⟩ := k_note hc hN
    have k := k_comesL (ClR_Fq hc n3) n2 hN hv 61 N 0 (by omega) (by omega)
    obtain ⟨S2, q1, q2⟩ := q_comesL (W := W) hN hv 61 N 0 S1 (RfR_Fq hf n3) (Fq_rv n3 (by unfold kA; omega)) (by omega) (by omega)
    exact ⟨_, S1, S2, h_pos (by first | omega | ((simp (disch := omega) only [i0, i1, i_lt, i_le, i_eq, i_add, i_sub, i_mul, i_neg, i_ofNat, i_rem, i_div, w_in, w_in2, w_cnt, w_cnt2, z01, z01', il, li, lc_ge, lc_le, lc_gt, lc_lt, lc_eq, l_ofNat, l0, l_eq, l_lt, l_le]) <;> omega)) (h_bind n1 k), h_pos (by first | omega | ((simp (disch := omega) only [i0, i1, i_lt, i_le, i_eq, i_add, i_sub, i_mul, i_neg, i_ofNat, i_rem, i_div, w_in, w_in2, w_cnt, w_cnt2, z01, z01', il, li, lc_ge, lc_le, lc_gt, lc_lt, lc_eq, l_ofNat, l0, l_eq, l_lt, l_le]) <;> omega)) q1, Rel_Fq h (Fq_trans n3 q2)⟩
  · exact ⟨Int32.ofInt (-1), S, S, h_neg (by first | omega | ((simp (disch := omega) only [i0, i1, i_lt, i_le, i_eq, i_add, i_sub, i_mul, i_neg, i_ofNat, i_rem, i_div, w_in, w_in2, w_cnt, w_cnt2, z01, z01', il, li, lc_ge, lc_le, lc_gt, lc_lt, lc_eq, l_ofNat, l0, l_eq, l_lt, l_le]) <;> omega)) rfl, h_neg (by first | omega | ((simp (disch := omega) only [i0, i1, i_lt, i_le, i_eq, i_add, i_sub, i_mul, i_neg, i_ofNat, i_rem, i_div, w_in, w_in2, w_cnt, w_cnt2, z01, z01', il, li, lc_ge, lc_le, lc_gt, lc_lt, lc_eq, l_ofNat, l0, l_eq, l_lt, l_le]) <;> omega)) rfl, h⟩
end PMS
