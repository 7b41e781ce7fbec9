/-! ===== chances noted; how likely a count is ===== -/
section PMS
variable {T : yK} {S S' S1 S2 : yS} {A A' : Nat → Int} {W : Nat → wP}
def chN (W : Nat → wP) (A : Nat → Int) (S : yS) (m : Nat) : Prop := ∀ b, b < m → S.2.2.1 263 b = Int32.ofInt (chS W A b)
theorem k_noteL {N : Nat} (hN : 2000000 ≤ N) : ∀ (r n b : Nat) (S : yS), ClR T A S W → (b + r : Nat) = A 0 → r < n → chN W A S b → ∃ S', lX11_noteChances N T n (Int32.ofInt (b : Int)) S = some S' ∧ chN W A S' (b + r) ∧ Fq S S'
  | 0, n + 1, b, S, h, hb, hn, hc => by
    have h0 := I_i0 h.2.1
    rw [lX11_noteChances, K_birds h.1]
    exact ⟨S, h_pos (by first | omega | ((simp (disch := omega) only [i0, i1, i_lt, i_le, i_eq, i_add, i_sub, i_mul, i_neg, i_ofNat, i_rem, i_div, w_in, w_in2, w_cnt, w_cnt2, z01, z01', il, li, lc_ge, lc_le, lc_gt, lc_lt, lc_eq, l_ofNat, l0, l_eq, l_lt, l_le]) <;> omega)) rfl, hc, Fq_refl S⟩
  | r + 1, n + 1, b, S, h, hb, hn, hc => by
    have h0 := I_i0 h.2.1
    obtain ⟨S1, e1, e2, e3⟩ := k_chanceX h hN (b := b) (by omega)
    have f2 : Fq S1 (ySa S1 263 (upd (S1.2.2.1 263) b (Int32.ofInt (chS W A b)))) := Fq_a (by unfold kA; omega)
    obtain ⟨S2, g1, g2, g3⟩ := k_noteL hN r n (b + 1) _ (ClR_Fq (ClR_Fq h e2) f2) (by omega) (by omega) (fun j hj => by
      rw [ySa_at]
      unfold upd
      by_cases q : j = b
      · rw [if_pos q, q]
      · rw [if_neg q, e3]; exact hc j (by omega))
    refine ⟨S2, ?_, by rw [show b + (r + 1) = b + 1 + r by omega]; exact g2, Fq_trans e2 (Fq_trans f2 g3)⟩
    rw [lX11_noteChances, K_birds h.1, i_add, show (b : Int) + 1 = ((b + 1 : Nat) : Int) by omega]
    refine h_neg (by first | omega | ((simp (disch := omega) only [i0, i1, i_lt, i_le, i_eq, i_add, i_sub, i_mul, i_neg, i_ofNat, i_rem, i_div, w_in, w_in2, w_cnt, w_cnt2, z01, z01', il, li, lc_ge, lc_le, lc_gt, lc_lt, lc_eq, l_ofNat, l0, l_eq, l_lt, l_le]) <;> omega)) (h_bind e1 ?_)
    dsimp only
    exact h_ainN (by omega) (by omega) (h_pst g1)
theorem k_note (h : ClR T A S W) {N : Nat} (hN : 2000000 ≤ N) : ∃ S', fX11_noteChances N T S = some S' ∧ chN W A S' (A 0).toNat ∧ Fq S S' := by
  have h0 := I_i0 h.2.1
  obtain ⟨S', a, b, c⟩ := k_noteL (W := W) hN (A 0).toNat N 0 S h (by omega) (by omega) (fun j hj => absurd hj (by omega))
  rw [Nat.zero_add] at b
  exact ⟨S', a, b, c⟩
end PMS
/-! ways over a set -/
def spL (p : Nat → Bool) (q : Nat → Int) : Nat → Nat → (Nat → Int) → (Nat → Int)
  | 0, _, w => w
  | r + 1, b, w => spL p q r (b + 1) (if p b = true then spS w (q b) else w)
def cnL (p : Nat → Bool) : Nat → Nat → Nat
  | 0, _ => 0
  | r + 1, b => (if p b = true then 1 else 0) + cnL p r (b + 1)
theorem cnL_le (p : Nat → Bool) : ∀ r b, cnL p r b ≤ r
  | 0, _ => Nat.le_refl _
  | r + 1, b => by
    have := cnL_le p r (b + 1)
    unfold cnL
    split <;> omega
theorem spL_I {p : Nat → Bool} {q : Nat → Int} (hq : ∀ b, 0 ≤ q b ∧ q b ≤ 10) : ∀ (r b n : Nat) (w : Nat → Int), wI w n → n + r ≤ 12 → wI (spL p q r b w) (n + cnL p r b)
  | 0, b, n, w, h, _ => h
  | r + 1, b, n, w, h, hn => by
    unfold spL cnL
    by_cases hp : p b = true
    · simp only [if_pos hp]
      rw [show n + (1 + cnL p r (b + 1)) = n + 1 + cnL p r (b + 1) by omega]
      exact spL_I hq r (b + 1) (n + 1) _ (wI_s h (by omega) (hq b)) (by omega)
    · simp only [if_neg hp]
      rw [Nat.zero_add]
      exact spL_I hq r (b + 1) n _ h (by omega)
theorem spL_ext {p p' : Nat → Bool} {q q' : Nat → Int} : ∀ (r b : Nat) (w : Nat → Int), (∀ k, b ≤ k → k < b + r → p k = p' k ∧ (p' k = true → q k = q' k)) → spL p q r b w = spL p' q' r b w
  | 0, _, _, _ => rfl
  | r + 1, b, w, h => by
    unfold spL
    obtain ⟨h1, h2⟩ := h b (Nat.le_refl _) (by omega)
    rw [h1]
    by_cases hp : p' b = true
    · rw [if_pos hp, if_pos hp, h2 hp]
      exact spL_ext r (b + 1) _ (fun k a c => h k (by omega) (by omega))
    · rw [if_neg hp, if_neg hp]
      exact spL_ext r (b + 1) _ (fun k a c => h k (by omega) (by omega))
theorem cnL_ext {p p' : Nat → Bool} : ∀ (r b : Nat), (∀ k, b ≤ k → k < b + r → p k = p' k) → cnL p r b = cnL p' r b
  | 0, _, _ => rfl
  | r + 1, b, h => by
    unfold cnL
    rw [h b (Nat.le_refl _) (by omega), cnL_ext r (b + 1) (fun k a c => h k (by omega) (by omega))]
theorem spL_no {p : Nat → Bool} {q : Nat → Int} : ∀ (r b : Nat) (w : Nat → Int), (∀ k, b ≤ k → k < b + r → p k = false) → spL p q r b w = w
  | 0, _, _, _ => rfl
  | r + 1, b, w, h => by
    unfold spL
    rw [h b (Nat.le_refl _) (by omega), if_neg (by decide)]
    exact spL_no r (b + 1) w (fun k a c => h k (by omega) (by omega))
theorem cnL_no {p : Nat → Bool} : ∀ (r b : Nat), (∀ k, b ≤ k → k < b + r → p k = false) → cnL p r b = 0
  | 0, _, _ => rfl
  | r + 1, b, h => by
    unfold cnL
    rw [h b (Nat.le_refl _) (by omega), if_neg (by decide), cnL_no r (b + 1) (fun k a c => h k (by omega) (by omega))]
theorem spL_add {p : Nat → Bool} {q : Nat → Int} : ∀ (r s b : Nat) (w : Nat → Int), spL p q (r + s) b w = spL p q s (b + r) (spL p q r b w)
  | 0, s, b, w => by rw [Nat.zero_add]; rfl
  | r + 1, s, b, w => by
    rw [show r + 1 + s = (r + s) + 1 by omega]
    show spL p q (r + s) (b + 1) _ = spL p q s (b + (r + 1)) (spL p q r (b + 1) _)
    rw [spL_add r s (b + 1), show b + 1 + r = b + (r + 1) by omega]
theorem cnL_add {p : Nat → Bool} : ∀ (r s b : Nat), cnL p (r + s) b = cnL p r b + cnL p s (b + r)
  | 0, s, b => by rw [Nat.zero_add, show cnL p 0 b = 0 from rfl, Nat.zero_add]; rfl
  | r + 1, s, b => by
    rw [show r + 1 + s = (r + s) + 1 by omega]
    show (if p b = true then 1 else 0) + cnL p (r + s) (b + 1) = ((if p b = true then 1 else 0) + cnL p r (b + 1)) + cnL p s (b + (r + 1))
    rw [cnL_add r s (b + 1), show b + 1 + r = b + (r + 1) by omega, Nat.add_assoc]
section PMS
variable {T : yK} {S S' S1 S2 : yS} {A A' : Nat → Int} {W : Nat → wP}
theorem c_sprL {N : Nat} (hN : 2000000 ≤ N) {X : yS} {D t : Int32} {q : Nat → Int} (hq : ∀ b, 0 ≤ q b ∧ q b ≤ 10) (hx : ∀ b, b < 8 → tb D b = true → tb t b = false → X.2.2.1 263 b = Int32.ofInt (q b)) (h0 : ∀ b, b < 8 → tb D b = true → tb t b = true → q b = 0) : ∀ (r n b i : Nat) (f : Nat → Int64) (w : Nat → Int), b + r = 8 → r < n → i + r ≤ 12 → wI w i → rp f w → ∃ f', rp f' (spL (tb D) q r b w) ∧ lX11_spreadOver N n D t (Int32.ofInt (b : Int)) (sQ X f i (10 ^ i)) = some (sQ X f' (i + cnL (tb D) r b) (10 ^ (i + cnL (tb D) r b)))
  | 0, n + 1, b, i, f, w, hb, hn, hi, hw, hf => by
    refine ⟨f, hf, ?_⟩
    rw [lX11_spreadOver]
    exact h_pos (by first | omega | ((simp (disch := omega) only [i0, i1, i_lt, i_le, i_eq, i_add, i_sub, i_mul, i_neg, i_ofNat, i_rem, i_div, w_in, w_in2, w_cnt, w_cnt2, z01, z01', il, li, lc_ge, lc_le, lc_gt, lc_lt, lc_eq, l_ofNat, l0, l_eq, l_lt, l_le]) <;> omega)) rfl
  | r + 1, n + 1, b, i, f, w, hb, hn, hi, hw, hf => by
    unfold spL cnL
    cases hD : tb D b with
    | false =>
      obtain ⟨f', e1, e2⟩ := c_sprL hN hq hx h0 r n (b + 1) i f w (by omega) (by omega) (by omega) hw hf
      rw [if_neg (by decide), if_neg (by decide), Nat.zero_add]
      refine ⟨f', e1, ?_⟩
      rw [lX11_spreadOver, in_tb D (by omega), hD, i_add, show (b : Int) + 1 = ((b + 1 : Nat) : Int) by omega]
      exact h_neg (by first | omega | ((simp (disch := omega) only [i0, i1, i_lt, i_le, i_eq, i_add, i_sub, i_mul, i_neg, i_ofNat, i_rem, i_div, w_in, w_in2, w_cnt, w_cnt2, z01, z01', il, li, lc_ge, lc_le, lc_gt, lc_lt, lc_eq, l_ofNat, l0, l_eq, l_lt, l_le]) <;> omega)) (h_pos (by decide) e2)
    | true =>
      rw [if_pos rfl, if_pos rfl, show i + (1 + cnL (tb D) r (b + 1)) = i + 1 + cnL (tb D) r (b + 1) by omega]
      obtain ⟨f1, g1, g2⟩ := c_oneF hN (S := X) hw (by omega) (hq b) hf
      obtain ⟨f', e1, e2⟩ := c_sprL hN hq hx h0 r n (b + 1) (i + 1) f1 _ (by omega) (by omega) (by omega) (wI_s hw (by omega) (hq b)) g1
      refine ⟨f', e1, ?_⟩
      rw [lX11_spreadOver, in_tb D (by omega), in_tb t (by omega), hD, i_add, show (b : Int) + 1 = ((b + 1 : Nat) : Int) by omega]
      refine h_neg (by first | omega | ((simp (disch := omega) only [i0, i1, i_lt, i_le, i_eq, i_add, i_sub, i_mul, i_neg, i_ofNat, i_rem, i_div, w_in, w_in2, w_cnt, w_cnt2, z01, z01', il, li, lc_ge, lc_le, lc_gt, lc_lt, lc_eq, l_ofNat, l0, l_eq, l_lt, l_le]) <;> omega)) (h_neg (by decide) ?_)
      cases ht : tb t b with
      | false =>
        refine h_pos (by decide) (h_ainN (by omega) (by omega) ?_)
        rw [show (sQ X f i (10 ^ i)).2.2.1 263 b = X.2.2.1 263 b from rfl, hx b (by omega) hD ht]
        exact h_bind g2 e2
      | true =>
        have z := h0 b (by omega) hD ht
        rw [z] at g2
        exact h_neg (by decide) (h_bind g2 e2)
theorem c_spr {N : Nat} (hN : 2000000 ≤ N) {X : yS} {D t : Int32} {q : Nat → Int} (hq : ∀ b, 0 ≤ q b ∧ q b ≤ 10) (hx : ∀ b, b < 8 → tb D b = true → tb t b = false → X.2.2.1 263 b = Int32.ofInt (q b)) (h0 : ∀ b, b < 8 → tb D b = true → tb t b = true → q b = 0) : ∃ f', rp f' (spL (tb D) q 8 0 sp0) ∧ fX11_spreadOver N D t X = some (sQ X f' (cnL (tb D) 8 0) (10 ^ (cnL (tb D) 8 0))) := by
  obtain ⟨f, e1, e2⟩ := c_begin hN X
  obtain ⟨f', e3, e4⟩ := c_sprL hN hq hx h0 8 N 0 0 f sp0 (by omega) (by omega) (by omega) wI_0 e1
  rw [Nat.zero_add] at e4
  exact ⟨f', e3, h_bind e2 e4⟩
/-! the reference -/
theorem oQ_oQ (S : yS) (f g : Nat → Int64) : oQ (oQ S f) g = oQ S g := ySl_ySl S 275 f g
theorem Fq_o {f : Nat → Int64} : Fq S (oQ S f) := Fq_l
theorem oQ_self {f : Nat → Int64} (h : S.2.2.2.1 275 = f) : oQ S f = S := by rw [← h]; exact ySl_self S 275
theorem q_layL {N : Nat} (hN : 2000000 ≤ N) {D : Int32} : ∀ (r n b i : Nat) (S : yS) (f : Nat → Int64) (w : Nat → Int), RfR S W → rv S 266 = A → S.2.2.2.1 275 = f → (b + r : Nat) = A 0 → r < n → i + r ≤ 12 → wI w i → rp f w → ∃ f' S', rp f' (spL (tb D) (chS W A) r b w) ∧ S'.2.2.2.1 275 = f' ∧ lX12_layRows N n D (Int64.ofInt (10 ^ i)) (Int32.ofInt (b : Int)) S = some (Int64.ofInt (10 ^ (i + cnL (tb D) r b)), S') ∧ Fq S S'
  | 0, n + 1, b, i, S, f, w, h, hA, h5, hb, hn, hi, hw, hf => by
    have h0 := I_i0 h.1
    rw [hA] at h0
    refine ⟨f, S, hf, h5, ?_, Fq_refl S⟩
    rw [lX12_layRows, rv_eq S 266 0, hA]
    exact h_pos (by first | omega | ((simp (disch := omega) only [i0, i1, i_lt, i_le, i_eq, i_add, i_sub, i_mul, i_neg, i_ofNat, i_rem, i_div, w_in, w_in2, w_cnt, w_cnt2, z01, z01', il, li, lc_ge, lc_le, lc_gt, lc_lt, lc_eq, l_ofNat, l0, l_eq, l_lt, l_le]) <;> omega)) rfl
  | r + 1, n + 1, b, i, S, f, w, h, hA, h5, hb, hn, hi, hw, hf => by
    have hr := h.1
    rw [hA] at hr
    have h0 := I_i0 hr
    have hq := chS_rng (W := W) hr (show b < 8 by omega)
    unfold spL cnL
    cases hD : tb D b with
    | false =>
      obtain ⟨f', S', e1, e2, e3, e4⟩ := q_layL hN (D := D) r n (b + 1) i S f w h hA h5 (by omega) (by omega) (by omega) hw hf
      rw [if_neg (by decide), if_neg (by decide), Nat.zero_add]
      refine ⟨f', S', e1, e2, ?_, e4⟩
      rw [lX12_layRows, rv_eq S 266 0, hA, has_tb D (by omega), hD, i_add, show (b : Int) + 1 = ((b + 1 : Nat) : Int) by omega]
      exact h_neg (by first | omega | ((simp (disch := omega) only [i0, i1, i_lt, i_le, i_eq, i_add, i_sub, i_mul, i_neg, i_ofNat, i_rem, i_div, w_in, w_in2, w_cnt, w_cnt2, z01, z01', il, li, lc_ge, lc_le, lc_gt, lc_lt, lc_eq, l_ofNat, l0, l_eq, l_lt, l_le]) <;> omega)) (h_neg (by decide) e3)
    | true =>
      rw [if_pos rfl, if_pos rfl, show i + (1 + cnL (tb D) r (b + 1)) = i + 1 + cnL (tb D) r (b + 1) by omega]
      obtain ⟨S1, c1, c2, c3⟩ := q_chanceX h hN (b := b) (by rw [hA]; omega)
      rw [hA] at c1
      obtain ⟨f1, g1, g2⟩ := r_oneF hN (S := S1) hw (by omega) hq hf
      rw [oQ_self (c3.trans h5)] at g2
      have r1 := RfR_Fq (RfR_Fq h c2) (Fq_o (f := f1))
      have a1 : rv (oQ S1 f1) 266 = A := (Fq_rv c2 (by unfold kA; omega)).trans hA
      obtain ⟨f', S', e1, e2, e3, e4⟩ := q_layL hN (D := D) r n (b + 1) (i + 1) (oQ S1 f1) f1 _ r1 a1 (ySl_at _ _ _) (by omega) (by omega) (by omega) (wI_s hw (by omega) hq) g1
      refine ⟨f', S', e1, e2, ?_, Fq_trans c2 (Fq_trans Fq_o e4)⟩
      rw [lX12_layRows, rv_eq S 266 0, hA, has_tb D (by omega), hD, i_add, show (b : Int) + 1 = ((b + 1 : Nat) : Int) by omega, l_mul, ← Int.pow_succ]
      refine h_neg (by first | omega | ((simp (disch := omega) only [i0, i1, i_lt, i_le, i_eq, i_add, i_sub, i_mul, i_neg, i_ofNat, i_rem, i_div, w_in, w_in2, w_cnt, w_cnt2, z01, z01', il, li, lc_ge, lc_le, lc_gt, lc_lt, lc_eq, l_ofNat, l0, l_eq, l_lt, l_le]) <;> omega)) (h_pos (by decide) (h_bind c1 ?_))
      exact h_bind g2 e3
theorem q_lay (h : RfR S W) (hA : rv S 266 = A) {N : Nat} (hN : 2000000 ≤ N) {D : Int32} : ∃ f' S', rp f' (spL (tb D) (chS W A) (A 0).toNat 0 sp0) ∧ S'.2.2.2.1 275 = f' ∧ fX12_layRows N D S = some (Int64.ofInt (10 ^ (cnL (tb D) (A 0).toNat 0)), S') ∧ Fq S S' := by
  have h0 := I_i0 h.1
  rw [hA] at h0
  obtain ⟨f, e1, e2⟩ := r_begin hN S
  obtain ⟨f', S', g1, g2, g3, g4⟩ := q_layL (W := W) hN (D := D) (A 0).toNat N 0 0 (oQ S f) f sp0 (RfR_Fq h Fq_o) hA (ySl_at _ _ _) (by omega) (by omega) (by omega) wI_0 e1
  rw [Nat.zero_add] at g3
  exact ⟨f', S', g1, g2, h_bind e2 g3, Fq_trans Fq_o g4⟩
/-! who is due as a set -/
theorem dueS_tb (hr : rI A) {d : Int} {b : Nat} (hb : b < 32) : tb (dueS A d) b = (decide ((b : Int) < A 0) && dueB A d b) := by
  have h0 := I_i0 hr
  unfold dueS
  rw [tb_orB _ _ _ _ (by omega) (by omega), tb_0, Bool.false_or]
  by_cases q : (b : Int) < A 0
  · rw [decide_eq_true q, decide_eq_true (show 0 ≤ b ∧ b < 0 + (A 0).toNat by omega)]
  · rw [decide_eq_false q, decide_eq_false (show ¬ (0 ≤ b ∧ b < 0 + (A 0).toNat) by omega)]
theorem k_dueL (h : cR 0 A S) (hI : rI A) {N : Nat} {d : Int} (hd : 0 ≤ d ∧ d < 1000000) : ∀ (m n b : Nat) (x : Int32), (b : Int) + m = A 0 → m < n → lX0_dueOn N n (Int32.ofInt d) x (Int32.ofInt (b : Int)) S = some (orB (dueB A d) b m x)
  | 0, n + 1, b, x, hm, _ => by
    have h8 := I_i0 hI
    rw [lX0_dueOn, K_birds h]
    exact h_pos (by first | omega | ((simp (disch := omega) only [i0, i1, i_lt, i_le, i_eq, i_add, i_sub, i_mul, i_neg, i_ofNat, i_rem, i_div, w_in, w_in2, w_cnt, w_cnt2, z01, z01', il, li, lc_ge, lc_le, lc_gt, lc_lt, lc_eq, l_ofNat, l0, l_eq, l_lt, l_le]) <;> omega)) rfl
  | m + 1, n + 1, b, x, hm, hn => by
    have h8 := I_i0 hI
    rw [lX0_dueOn, K_birds h]
    refine h_neg (by first | omega | ((simp (disch := omega) only [i0, i1, i_lt, i_le, i_eq, i_add, i_sub, i_mul, i_neg, i_ofNat, i_rem, i_div, w_in, w_in2, w_cnt, w_cnt2, z01, z01', il, li, lc_ge, lc_le, lc_gt, lc_lt, lc_eq, l_ofNat, l0, l_eq, l_lt, l_le]) <;> omega)) ?_
    refine h_bind (k_due h hI (by omega) hd) ?_
    rw [i_add, show (b : Int) + 1 = ((b + 1 : Nat) : Int) by omega]
    unfold orB
    cases dueB A d b with
    | false => exact h_pos (by decide) (k_dueL h hI hd m n (b + 1) x (by omega) (by omega))
    | true => exact h_neg (by decide) (k_dueL h hI hd m n (b + 1) _ (by omega) (by omega))
theorem k_dueS (h : cR 0 A S) (hI : rI A) {N : Nat} (hN : 2000000 ≤ N) {d : Int} (hd : 0 ≤ d ∧ d < 1000000) : fX0_dueOn N (Int32.ofInt d) S = some (dueS A d) := by
  have h8 := I_i0 hI
  exact k_dueL h hI hd (A 0).toNat N 0 _ (by omega) (by omega)
theorem pm_likely (h : Rel T S) {N : Nat} (hN : 2000000 ≤ N) (v0 : Int32) {z : Int} (hz : z = 0 ∨ z = 1) : PMl T S (fX11_likely N T v0 (Int32.ofInt z)) (fX12_likely N v0 (Int32.ofInt z)) := by
  obtain ⟨v, v1, v2, rfl⟩ := i_ex v0
  obtain ⟨W, hc, hf⟩ := Rel_W h
  have h6 := R_day h
  have h0 := R_i0 h
  have hr := hc.2.1
  unfold PMl fX11_likely fX12_likely
  by_cases hv : 0 ≤ v ∧ v ≤ 8
  · obtain ⟨c, rfl⟩ := Int.eq_ofNat_of_zero_le hv.1
    obtain ⟨S1, n1, n2, n3⟩ := k_note hc hN
    generalize hA : rv S 266 = A at *
    have hqq : ∀ b, 0 ≤ (if b < 8 then chS W A b else 0) ∧ (if b < 8 then chS W A b else 0) ≤ 10 := fun b => by
      by_cases q : b < 8
      · rw [if_pos q]; exact chS_rng hr q
      · rw [if_neg q]; omega
    obtain ⟨f, s1, s2⟩ := c_spr hN (X := S1) (D := dueS A (A 6)) (t := Int32.ofInt 0) hqq (fun b b8 hb _ => by
      rw [dueS_tb hr (by omega)] at hb
      have := of_decide_eq_true (Bool.and_eq_true_iff.mp hb).1
      rw [if_pos b8]
      exact n2 b (by omega)) (fun b _ _ ht => by rw [tb_0] at ht; cases ht)
    have hI := spL_I (p := tb (dueS A (A 6))) hqq 8 0 0 sp0 wI_0 (by omega)
    rw [Nat.zero_add] at hI
    have hcl := cnL_le (tb (dueS A (A 6))) 8 0
    have p10 := p12 (n := cnL (tb (dueS A (A 6))) 8 0) (by omega)
    have hwc := wI_le hI (show c < 13 by omega)
    have hwn := hI.1 c
    have f1 : Fq S (sQ S1 f (cnL (tb (dueS A (A 6))) 8 0) (10 ^ (cnL (tb (dueS A (A 6))) 8 0))) := Fq_trans n3 (sQ_Fq _ _ _ _)
    obtain ⟨f', S2, t1, t2, t3, t4⟩ := q_lay (A := A) (RfR_Fq hf f1) ((Fq_rv f1 (by unfold kA; omega)).trans hA) hN (D := dueS A (A 6))
    have es : spL (tb (dueS A (A 6))) (fun b => if b < 8 then chS W A b else 0) 8 0 sp0 = spL (tb (dueS A (A 6))) (chS W A) (A 0).toNat 0 sp0 := by
      rw [show 8 = (A 0).toNat + (8 - (A 0).toNat) by omega, spL_add, spL_no _ _ _ (fun k a b => by
        rw [dueS_tb hr (by omega), decide_eq_false (show ¬ (k : Int) < A 0 by omega), Bool.false_and])]
      exact spL_ext _ _ _ (fun k a b => ⟨rfl, fun _ => if_pos (by omega)⟩)
    have en : cnL (tb (dueS A (A 6))) 8 0 = cnL (tb (dueS A (A 6))) (A 0).toNat 0 := by
      have e0 : cnL (tb (dueS A (A 6))) (8 - (A 0).toNat) (0 + (A 0).toNat) = 0 := cnL_no _ _ (fun k a b => by
        rw [dueS_tb hr (by omega), decide_eq_false (show ¬ (k : Int) < A 0 by omega), Bool.false_and])
      have e1 := cnL_add (p := tb (dueS A (A 6))) (A 0).toNat (8 - (A 0).toNat) 0
      rw [show (A 0).toNat + (8 - (A 0).toNat) = 8 by omega, e0, Nat.add_zero] at e1
      exact e1
    rw [es] at s1 hI hwc hwn
    refine ⟨Int64.ofInt (lwS (spL (tb (dueS A (A 6))) (chS W A) (A 0).toNat 0 sp0 c) (10 ^ (cnL (tb (dueS A (A 6))) 8 0)) z), sQ S1 f (cnL (tb (dueS A (A 6))) 8 0) (10 ^ (cnL (tb (dueS A (A 6))) 8 0)), S2, ?_, ?_, Rel_Fq h (Fq_trans f1 t4)⟩
    · refine h_pos (by first | omega | ((simp (disch := omega) only [i0, i1, i_lt, i_le, i_eq, i_add, i_sub, i_mul, i_neg, i_ofNat, i_rem, i_div, w_in, w_in2, w_cnt, w_cnt2, z01, z01', il, li, lc_ge, lc_le, lc_gt, lc_lt, lc_eq, l_ofNat, l0, l_eq, l_lt, l_le]) <;> omega)) ?_
      rw [K_day hc.1]
      refine h_bind (k_dueS hc.1 hr hN (by omega)) (h_bind n1 (h_bind s2 ?_))
      refine h_bind (v := Int64.ofInt (spL (tb (dueS A (A 6))) (chS W A) (A 0).toNat 0 sp0 c)) ?_ ?_
      · unfold fX7_just
        refine h_neg (by first | omega | ((simp (disch := omega) only [i0, i1, i_lt, i_le, i_eq, i_add, i_sub, i_mul, i_neg, i_ofNat, i_rem, i_div, w_in, w_in2, w_cnt, w_cnt2, z01, z01', il, li, lc_ge, lc_le, lc_gt, lc_lt, lc_eq, l_ofNat, l0, l_eq, l_lt, l_le]) <;> omega)) (h_ainN (by omega) (by omega) ?_)
        rw [sQ_f, s1 c (by omega)]
      · rw [sQ_x]
        exact h_bind (c_low hN (by omega) (by omega) hz) rfl
    · refine h_pos (by first | omega | ((simp (disch := omega) only [i0, i1, i_lt, i_le, i_eq, i_add, i_sub, i_mul, i_neg, i_ofNat, i_rem, i_div, w_in, w_in2, w_cnt, w_cnt2, z01, z01', il, li, lc_ge, lc_le, lc_gt, lc_lt, lc_eq, l_ofNat, l0, l_eq, l_lt, l_le]) <;> omega)) ?_
      have dn := q_dueN (RfR_Fq hf f1).1 hN
      rw [(Fq_rv f1 (show kA 266 by unfold kA; omega)).trans hA] at dn
      refine h_bind dn (h_bind t3 ?_)
      dsimp only
      refine h_ainN (by omega) (by omega) ?_
      rw [t2, t1 c (by omega), ← en]
      exact h_bind (r_low hN (by omega) (by omega) hz) rfl
  · exact ⟨Int64.ofInt (-1), S, S, h_neg (by first | omega | ((simp (disch := omega) only [i0, i1, i_lt, i_le, i_eq, i_add, i_sub, i_mul, i_neg, i_ofNat, i_rem, i_div, w_in, w_in2, w_cnt, w_cnt2, z01, z01', il, li, lc_ge, lc_le, lc_gt, lc_lt, lc_eq, l_ofNat, l0, l_eq, l_lt, l_le]) <;> omega)) rfl, h_neg (by first | omega | ((simp (disch := omega) only [i0, i1, i_lt, i_le, i_eq, i_add, i_sub, i_mul, i_neg, i_ofNat, i_rem, i_div, w_in, w_in2, w_cnt, w_cnt2, z01, z01', il, li, lc_ge, lc_le, lc_gt, lc_lt, lc_eq, l_ofNat, l0, l_eq, l_lt, l_le]) <;> omega)) rfl, h⟩
end PMS
