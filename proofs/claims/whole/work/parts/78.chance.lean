/-! ===== chance and brings ===== -/
def eL (A : Nat → Int) (b c : Nat) : eV := fun k => if k = 0 then A 6 else if k = 1 then A 8 else if k = 2 then A 9 else if k = 3 then (pc8 (A 12).toNat : Nat) else if k = 4 then (b : Int) else if k = 5 then A (37 + b) else if k = 6 then A (21 + b) else if k = 7 then (c : Int) else if k = 8 then A (45 + c) else if 10 ≤ k ∧ k < 19 then A (35 + k) else if 20 ≤ k ∧ k < 28 then A (k - 7) else if k = 30 then A 0 else 0
theorem eL_10 {A : Nat → Int} {b c k : Nat} (h : k < 9) : eL A b c (10 + k) = A (45 + k) := by
  unfold eL
  rw [if_neg (by omega), if_neg (by omega), if_neg (by omega), if_neg (by omega), if_neg (by omega), if_neg (by omega), if_neg (by omega), if_neg (by omega), if_neg (by omega), if_pos (by omega), show 35 + (10 + k) = 45 + k by omega]
theorem eL_20 {A : Nat → Int} {b c k : Nat} (h : k < 8) : eL A b c (20 + k) = A (13 + k) := by
  unfold eL
  rw [if_neg (by omega), if_neg (by omega), if_neg (by omega), if_neg (by omega), if_neg (by omega), if_neg (by omega), if_neg (by omega), if_neg (by omega), if_neg (by omega), if_neg (by omega), if_pos (by omega), show 20 + k - 7 = 13 + k by omega]
theorem eL_30 {A : Nat → Int} {b c : Nat} : eL A b c 30 = A 0 := rfl
theorem eL_G {A : Nat → Int} {b c : Nat} (h : rI A) (hb : b < 8) (hc : c < 9) : eG (eL A b c) := by
  have a0 := I_day h
  have a1 := I_fund h
  have a2 := I_cnt h
  have a3 := I_gone8 h
  have a4 := pc8_le (A 12).toNat (by omega)
  have a5 := I_odd h hb
  have a6 := I_per h hb
  have a7 := I_rhy h hc
  have a8 := I_i0 h
  refine ⟨fun k => ?_, by rw [eL_30]; omega, by rw [eL_30]; omega⟩
  by_cases h1 : 10 ≤ k ∧ k < 19
  · have := I_rhy h (show k - 10 < 9 by omega)
    rw [show k = 10 + (k - 10) by omega, eL_10 (by omega)]
    omega
  · by_cases h2 : 20 ≤ k ∧ k < 28
    · have := I_came h (show k - 20 < 8 by omega)
      rw [show k = 20 + (k - 20) by omega, eL_20 (by omega)]
      omega
    · unfold eL
      rw [if_neg h1, if_neg h2]
      repeat' split
      all_goals omega
def chS (W : Nat → wP) (A : Nat → Int) (b : Nat) : Int := if A 2 < 0 then A (37 + b) else match (W (A 2).toNat).1 with
  | none => A (37 + b)
  | some w => max 0 (min (w (eL A b 0)) 10)
def brS (W : Nat → wP) (A : Nat → Int) (t : Int) (c : Nat) : Int := if t < 0 then A (45 + c) - 2 else match (W t.toNat).2 with
  | none => A (45 + c) - 2
  | some w => max (-99) (min (w (eL A 0 c)) 99)
theorem chS_rng {W : Nat → wP} {A : Nat → Int} {b : Nat} (h : rI A) (hb : b < 8) : 0 ≤ chS W A b ∧ chS W A b ≤ 10 := by
  have := I_odd h hb
  unfold chS
  split
  · omega
  · split <;> omega
theorem brS_rng {W : Nat → wP} {A : Nat → Int} {c : Nat} {t : Int} (h : rI A) (hc : c < 9) : -99 ≤ brS W A t c ∧ brS W A t c ≤ 99 := by
  have := I_rhy h hc
  unfold brS
  split
  · omega
  · split <;> omega
section PMS
variable {T : yK} {S : yS} {A : Nat → Int} {W : Nat → wP}
/-- the class's text that rules -/
theorem k_text (h : ClR T A S W) {t : Int} (ht : -1 ≤ t ∧ t < A 1) : (t < 0 ∧ fX0_textAt T (Int32.ofInt t) S = some none) ∨ ∃ k o : Nat, t = k ∧ txC T S o (W k) ∧ fX0_textAt T (Int32.ofInt t) S = some (some o) := by
  obtain ⟨hc, hr, hx⟩ := h
  have h1 := I_i1 hr
  unfold fX0_textAt fX0_hasText
  rw [K_texts hc]
  by_cases h0 : t < 0
  · left
    refine ⟨h0, h_bind (v := Int32.ofInt 0) (h_pos (by first | omega | ((simp (disch := omega) only [i0, i1, i_lt, i_le, i_eq, i_add, i_sub, i_mul, i_neg, i_ofNat, i_rem, i_div, w_in, w_in2, w_cnt, w_cnt2, z01, z01', il, li, lc_ge, lc_le, lc_gt, lc_lt, lc_eq, l_ofNat, l0, l_eq, l_lt, l_le]) <;> omega)) rfl) (h_pos (by decide) rfl)⟩
  · right
    obtain ⟨k, rfl⟩ := Int.eq_ofNat_of_zero_le (show 0 ≤ t by omega)
    obtain ⟨o, o1, o2⟩ := hx k ht.2
    refine ⟨k, o, rfl, o2, h_bind (v := Int32.ofInt 1) (h_neg (by first | omega | ((simp (disch := omega) only [i0, i1, i_lt, i_le, i_eq, i_add, i_sub, i_mul, i_neg, i_ofNat, i_rem, i_div, w_in, w_in2, w_cnt, w_cnt2, z01, z01', il, li, lc_ge, lc_le, lc_gt, lc_lt, lc_eq, l_ofNat, l0, l_eq, l_lt, l_le]) <;> omega)) (h_neg (by first | omega | ((simp (disch := omega) only [i0, i1, i_lt, i_le, i_eq, i_add, i_sub, i_mul, i_neg, i_ofNat, i_rem, i_div, w_in, w_in2, w_cnt, w_cnt2, z01, z01', il, li, lc_ge, lc_le, lc_gt, lc_lt, lc_eq, l_ofNat, l0, l_eq, l_lt, l_le]) <;> omega)) rfl)) (h_neg (by decide) (h_ainN (by omega) (by omega) ?_))⟩
    rw [o1]
    exact h_pos o2.1 rfl
theorem k_rule (h : ClR T A S W) : (A 2 < 0 ∧ fX0_rulingText T S = some none) ∨ ∃ k o : Nat, A 2 = k ∧ txC T S o (W k) ∧ fX0_rulingText T S = some (some o) := by
  have h2 := I_i2 h.2.1
  unfold fX0_rulingText
  rw [K_ruling h.1]
  rcases k_text h h2 with ⟨a, b⟩ | ⟨k, o, a, b, c⟩
  · exact Or.inl ⟨a, h_bind b rfl⟩
  · exact Or.inr ⟨k, o, a, b, h_bind c (h_pos b.1 rfl)⟩
theorem k_eCl0 (hc : cR 0 A S) (hr : rI A) {b : Nat} (hb : b < 8) : eCl 0 (ySi S 17 2 (Int32.ofInt (b : Int))) (eL A b 0) := by
  have hg := I_gone8 hr
  refine ⟨⟨(show S.1 19 4 = _ from K_day hc), (show S.1 19 1 = _ from K_fund hc), (show S.1 19 2 = _ from K_cnt hc), ?_⟩, fun _ => ⟨fld_at, ?_, ?_, ?_, ?_⟩, fun q => by omega, fun c hc' => ?_, (show S.1 18 5 = _ from K_birds hc), fun k hk => ?_⟩
  · show fJ6_bitCount_0f7a4 (S.1 19 0) = _
    rw [K_gone hc, show A 12 = ((A 12).toNat : Int) by omega]
    exact pc8_a _ (by omega)
  · show (0 : Int) ≤ (b : Int); omega
  · show (b : Int) < 8; omega
  · show S.2.2.1 116 ((b : Int)).toNat = _
    rw [Int.toNat_natCast]; exact K_odd hc hb
  · show S.2.2.1 114 ((b : Int)).toNat = _
    rw [Int.toNat_natCast]; exact K_per hc hb
  · rw [eL_10 hc']; exact K_rhy hc hc'
  · rw [eL_20 hk]; exact K_came hc hk
theorem k_eCl1 (hc : cR 0 A S) (hr : rI A) {c : Nat} (hb : c < 9) : eCl 1 (ySi S 17 3 (Int32.ofInt (c : Int))) (eL A 0 c) := by
  have hg := I_gone8 hr
  refine ⟨⟨(show S.1 19 4 = _ from K_day hc), (show S.1 19 1 = _ from K_fund hc), (show S.1 19 2 = _ from K_cnt hc), ?_⟩, fun q => by omega, fun _ => ⟨fld_at, ?_, ?_, ?_⟩, fun c hc' => ?_, (show S.1 18 5 = _ from K_birds hc), fun k hk => ?_⟩
  · show fJ6_bitCount_0f7a4 (S.1 19 0) = _
    rw [K_gone hc, show A 12 = ((A 12).toNat : Int) by omega]
    exact pc8_a _ (by omega)
  · show (0 : Int) ≤ (c : Int); omega
  · show (c : Int) < 9; omega
  · show S.2.2.1 117 ((c : Int)).toNat = _
    rw [Int.toNat_natCast]; exact K_rhy hc hb
  · rw [eL_10 hc']; exact K_rhy hc hc'
  · rw [eL_20 hk]; exact K_came hc hk
theorem k_chanceX (h : ClR T A S W) {N : Nat} (hN : 2000000 ≤ N) {b : Nat} (hb : (b : Int) < A 0) : ∃ S', fX1_chanceOf N T (Int32.ofInt (b : Int)) S = some (Int32.ofInt (chS W A b), S') ∧ Fq S S' ∧ S'.2.2.1 263 = S.2.2.1 263 := by
  have h8 := I_i0 h.2.1
  have hh : fX0_hasBird (Int32.ofInt (b : Int)) S = some (Int32.ofInt 1) := by
    unfold fX0_hasBird
    rw [K_birds h.1]
    exact h_neg (by first | omega | ((simp (disch := omega) only [i0, i1, i_lt, i_le, i_eq, i_add, i_sub, i_mul, i_neg, i_ofNat, i_rem, i_div, w_in, w_in2, w_cnt, w_cnt2, z01, z01', il, li, lc_ge, lc_le, lc_gt, lc_lt, lc_eq, l_ofNat, l0, l_eq, l_lt, l_le]) <;> omega)) (h_neg (by first | omega | ((simp (disch := omega) only [i0, i1, i_lt, i_le, i_eq, i_add, i_sub, i_mul, i_neg, i_ofNat, i_rem, i_div, w_in, w_in2, w_cnt, w_cnt2, z01, z01', il, li, lc_ge, lc_le, lc_gt, lc_lt, lc_eq, l_ofNat, l0, l_eq, l_lt, l_le]) <;> omega)) rfl)
  unfold fX1_chanceOf chS
  rcases k_rule h with ⟨a, e⟩ | ⟨k, o, a, ⟨t1, L, hL, l1, l2, c0, -⟩, e⟩
  · refine ⟨S, ?_, Fq_refl S, rfl⟩
    rw [if_pos a]
    refine h_bind hh (h_pos (by decide) (h_bind e (h_ainN (by omega) (by omega) ?_)))
    rw [K_odd h.1 (by omega)]
  · rw [if_neg (by omega), a, Int.toNat_natCast]
    have ho : 281 ≤ o := (yTx_K t1).2.2.2.2.2.2
    cases hw : (W k).1 with
    | none =>
      rw [hw] at c0
      refine ⟨S, h_bind hh (h_pos (by decide) (h_bind e (h_pos t1 (h_neg (fun q => q c0) (h_ainN (by omega) (by omega) ?_))))), Fq_refl S, rfl⟩
      rw [K_odd h.1 (by omega)]
    | some w =>
      rw [hw] at c0
      obtain ⟨i, j, e1, e2, hj, fr⟩ := c0
      have hfr : frC 0 (fun q => (rv (ySi S 17 2 (Int32.ofInt (b : Int))) (o + 1) q, rv (ySi S 17 2 (Int32.ofInt (b : Int))) (o + 2) q)) i j w := fr
      have hij := fr.1
      obtain ⟨f', r1, r2⟩ := cRun_val (N := N) (T := T) (eL_G (b := b) (c := 0) h.2.1 (by omega) (by omega)) (k_eCl0 h.1 h.2.1 (show b < 8 by omega)) l1 l2 ho hL hj hfr (by omega)
      have hne : ¬ S.1 o 2 = Int32.ofInt (-1) := by
        rw [e1]
        first | omega | ((simp (disch := omega) only [i0, i1, i_lt, i_le, i_eq, i_add, i_sub, i_mul, i_neg, i_ofNat, i_rem, i_div, w_in, w_in2, w_cnt, w_cnt2, z01, z01', il, li, lc_ge, lc_le, lc_gt, lc_lt, lc_eq, l_ofNat, l0, l_eq, l_lt, l_le]) <;> omega)
      refine ⟨ySa (ySi S 17 2 (Int32.ofInt (b : Int))) 132 f', h_bind hh (h_pos (by decide) (h_bind e (h_pos t1 (h_pos hne (h_pst ?_))))), Fq_trans (Fq_i (i := 17) (k := 2) (by omega)) (Fq_a (a := 132) (f := f') (by unfold kA; omega)), ySa_ne _ _ (by omega)⟩
      have g1 : (ySi S 17 2 (Int32.ofInt (b : Int))).1 o = S.1 o := fld_o (by omega)
      rw [g1, e1, e2]
      refine h_bind r1 ?_
      dsimp only
      rw [hd_i (by omega) (by omega) (by omega) (by omega) (by omega) (by omega) (by omega)]
theorem k_chance (h : ClR T A S W) {N : Nat} (hN : 2000000 ≤ N) {b : Nat} (hb : (b : Int) < A 0) : ∃ S', fX1_chanceOf N T (Int32.ofInt (b : Int)) S = some (Int32.ofInt (chS W A b), S') ∧ Fq S S' := by
  obtain ⟨S', e1, e2, -⟩ := k_chanceX h hN hb
  exact ⟨S', e1, e2⟩
theorem k_brings (h : ClR T A S W) {N : Nat} (hN : 2000000 ≤ N) {o : Nat} {w : wP} (hx : txC T S o w) {c : Nat} (hc : c < 9) : ∃ S', fX1_broughtBy_T N T o (Int32.ofInt (c : Int)) S = some (Int32.ofInt (match w.2 with | none => A (45 + c) - 2 | some u => max (-99) (min (u (eL A 0 c)) 99)), S') ∧ Fq S S' := by
  obtain ⟨t1, L, hL, l1, l2, -, c0⟩ := hx
  have ho : 281 ≤ o := (yTx_K t1).2.2.2.2.2.2
  unfold fX1_broughtBy_T
  cases hw : w.2 with
  | none =>
    rw [hw] at c0
    refine ⟨S, h_pos (by first | omega | ((simp (disch := omega) only [i0, i1, i_lt, i_le, i_eq, i_add, i_sub, i_mul, i_neg, i_ofNat, i_rem, i_div, w_in, w_in2, w_cnt, w_cnt2, z01, z01', il, li, lc_ge, lc_le, lc_gt, lc_lt, lc_eq, l_ofNat, l0, l_eq, l_lt, l_le]) <;> omega)) (h_neg (fun q => q c0) (h_ainN (by omega) (by omega) ?_)), Fq_refl S⟩
    rw [K_rhy h.1 hc, i_sub]
  | some u =>
    rw [hw] at c0
    obtain ⟨i, j, e1, e2, hj, fr⟩ := c0
    have hfr : frC 1 (fun q => (rv (ySi S 17 3 (Int32.ofInt (c : Int))) (o + 1) q, rv (ySi S 17 3 (Int32.ofInt (c : Int))) (o + 2) q)) i j u := fr
    have hij := fr.1
    obtain ⟨f', r1, r2⟩ := cRun_val (N := N) (T := T) (eL_G (b := 0) (c := c) h.2.1 (by omega) (by omega)) (k_eCl1 h.1 h.2.1 hc) l1 l2 ho hL hj hfr (by omega)
    have hne : ¬ S.1 o 4 = Int32.ofInt (-1) := by
      rw [e1]
      first | omega | ((simp (disch := omega) only [i0, i1, i_lt, i_le, i_eq, i_add, i_sub, i_mul, i_neg, i_ofNat, i_rem, i_div, w_in, w_in2, w_cnt, w_cnt2, z01, z01', il, li, lc_ge, lc_le, lc_gt, lc_lt, lc_eq, l_ofNat, l0, l_eq, l_lt, l_le]) <;> omega)
    refine ⟨ySa (ySi S 17 3 (Int32.ofInt (c : Int))) 132 f', h_pos (by first | omega | ((simp (disch := omega) only [i0, i1, i_lt, i_le, i_eq, i_add, i_sub, i_mul, i_neg, i_ofNat, i_rem, i_div, w_in, w_in2, w_cnt, w_cnt2, z01, z01', il, li, lc_ge, lc_le, lc_gt, lc_lt, lc_eq, l_ofNat, l0, l_eq, l_lt, l_le]) <;> omega)) (h_pos hne (h_pst ?_)), Fq_trans (Fq_i (i := 17) (k := 3) (by omega)) (Fq_a (a := 132) (f := f') (by unfold kA; omega))⟩
    have g1 : (ySi S 17 3 (Int32.ofInt (c : Int))).1 o = S.1 o := fld_o (by omega)
    rw [g1, e1, e2]
    refine h_bind r1 ?_
    dsimp only
    rw [hd_i (by omega) (by omega) (by omega) (by omega) (by omega) (by omega) (by omega)]
theorem k_bringsN (h : ClR T A S W) {N : Nat} {c : Nat} (hc : c < 9) : fX1_broughtBy_N N T (Int32.ofInt (c : Int)) S = some (Int32.ofInt (A (45 + c) - 2), S) := by
  unfold fX1_broughtBy_N
  refine h_pos (by first | omega | ((simp (disch := omega) only [i0, i1, i_lt, i_le, i_eq, i_add, i_sub, i_mul, i_neg, i_ofNat, i_rem, i_div, w_in, w_in2, w_cnt, w_cnt2, z01, z01', il, li, lc_ge, lc_le, lc_gt, lc_lt, lc_eq, l_ofNat, l0, l_eq, l_lt, l_le]) <;> omega)) (h_ainN (by omega) (by omega) ?_)
  rw [K_rhy h.1 hc, i_sub]
/-! the reference -/
theorem q_sayL {N : Nat} (hN : 2000000 ≤ N) {t m s : Nat} (ht : t < 4) (hm : m ≤ 24) (hs : s ≤ 1) (hn : rv S 268 (681 * t) = m) {u : Option (eV → Int)} (hF : lwF S t m s u) {E : eV} (hE : eG E) (hC : eRf s S E) {x lo hi : Int} (hlo : -1000 ≤ lo ∧ lo ≤ hi ∧ hi ≤ 1000) : ∀ (r n k : Nat), k + r = m → r < n → (∀ w k0 : Nat, True) → (∀ j, j < k → rv S 268 (681 * t + 1 + 3 * j) ≠ s) → ∃ S', lX12_says N n (Int32.ofInt (t : Int)) (Int32.ofInt (s : Int)) (Int32.ofInt x) (Int32.ofInt lo) (Int32.ofInt hi) (Int32.ofInt (k : Int)) S = some (Int32.ofInt (match u with | none => x | some w => max lo (min (w E) hi)), S') ∧ Fq S S' ∧ S'.2.2.2.1 275 = S.2.2.2.1 275
  | 0, n + 1, k, hk, _, _, hb => by
    rw [lX12_says, i_mul, show (681 : Int) * (t : Int) = ((681 * t : Nat) : Int) by omega]
    cases u with
    | none =>
      refine ⟨S, h_neg (by first | omega | ((simp (disch := omega) only [i0, i1, i_lt, i_le, i_eq, i_add, i_sub, i_mul, i_neg, i_ofNat, i_rem, i_div, w_in, w_in2, w_cnt, w_cnt2, z01, z01', il, li, lc_ge, lc_le, lc_gt, lc_lt, lc_eq, l_ofNat, l0, l_eq, l_lt, l_le]) <;> omega)) (h_ainN (by omega) (by omega) ?_), Fq_refl S, rfl⟩
      rw [rv_eq S 268 (681 * t), hn]
      exact h_pos (by first | omega | ((simp (disch := omega) only [i0, i1, i_lt, i_le, i_eq, i_add, i_sub, i_mul, i_neg, i_ofNat, i_rem, i_div, w_in, w_in2, w_cnt, w_cnt2, z01, z01', il, li, lc_ge, lc_le, lc_gt, lc_lt, lc_eq, l_ofNat, l0, l_eq, l_lt, l_le]) <;> omega)) rfl
    | some w =>
      obtain ⟨k0, i', j', q0, q1, -⟩ := hF
      exact absurd q1 (hb k0 (by omega))
  | r + 1, n + 1, k, hk, hn2, hz, hb => by
    have p1 := rv_ge S 268 (681 * t + 1 + 3 * k)
    have p2 := rv_lt S 268 (681 * t + 1 + 3 * k)
    rw [lX12_says]
    simp only [i_mul, i_add]
    rw [show (681 : Int) * (t : Int) + 1 + 3 * (k : Int) = ((681 * t + 1 + 3 * k : Nat) : Int) by omega, show (681 : Int) * (t : Int) = ((681 * t : Nat) : Int) by omega, show (k : Int) + 1 = ((k + 1 : Nat) : Int) by omega]
    by_cases hq : rv S 268 (681 * t + 1 + 3 * k) = s
    · cases u with
      | none => exact absurd hq (hF k (by omega))
      | some w =>
        obtain ⟨k0, i', j', q0, q1, q2, q3, q4, q5, q6⟩ := hF
        have hk0 : k0 = k := by
          by_cases h1 : k0 < k
          · exact absurd q1 (hb k0 h1)
          · by_cases h2 : k < k0
            · exact absurd hq (q2 k h2)
            · omega
        subst hk0
        have e3 : S.2.2.1 268 (681 * t + 1 + 3 * k0 + 1) = Int32.ofInt (i' : Int) := by rw [rv_eq, q3]
        have e4 : S.2.2.1 268 (681 * t + 1 + 3 * k0 + 2) = Int32.ofInt (j' : Int) := by rw [rv_eq, q4]
        obtain ⟨f', g', r1⟩ := rRun_val (N := N) hE hC ht (show k0 < 24 by omega) e3 e4 (by omega) q6 (by omega)
        have hbd : -1000000 ≤ w E ∧ w E ≤ 1000000 := by
          have hh := q6.2 E hE [] []
          have hb2 := (rst_itr hE (j' - i') i' j' [] [] [w E] [] hh (fun v hv => by cases hv) (fun v hv => by cases hv)).2
          exact (bd6_cons.mp hb2).1
        refine ⟨_, h_neg (by first | omega | ((simp (disch := omega) only [i0, i1, i_lt, i_le, i_eq, i_add, i_sub, i_mul, i_neg, i_ofNat, i_rem, i_div, w_in, w_in2, w_cnt, w_cnt2, z01, z01', il, li, lc_ge, lc_le, lc_gt, lc_lt, lc_eq, l_ofNat, l0, l_eq, l_lt, l_le]) <;> omega)) (h_ainN (by omega) (by omega) ?_), Fq_trans (Fq_l (a := 272) (f := f')) (Fq_a (a := 273) (f := g') (by unfold kA; omega)), ySl_ne S f' (show 275 ≠ 272 by omega)⟩
        rw [rv_eq S 268 (681 * t), hn]
        refine h_neg (by first | omega | ((simp (disch := omega) only [i0, i1, i_lt, i_le, i_eq, i_add, i_sub, i_mul, i_neg, i_ofNat, i_rem, i_div, w_in, w_in2, w_cnt, w_cnt2, z01, z01', il, li, lc_ge, lc_le, lc_gt, lc_lt, lc_eq, l_ofNat, l0, l_eq, l_lt, l_le]) <;> omega)) (h_ainN (by omega) (by omega) ?_)
        rw [rv_eq S 268 (681 * t + 1 + 3 * k0), hq]
        refine h_neg (fun q => q rfl) (h_bind r1 ?_)
        dsimp only
        rw [hd_l (by omega) (by omega) (by omega) (by omega) (by omega) (by omega) (by omega)]
        rfl
    · obtain ⟨S', e1, e2⟩ := q_sayL hN ht hm hs hn hF hE hC (x := x) hlo r n (k + 1) (by omega) (by omega) hz (fun j hj => by
        by_cases e : j = k
        · rw [e]; exact hq
        · exact hb j (by omega))
      refine ⟨S', h_neg (by first | omega | ((simp (disch := omega) only [i0, i1, i_lt, i_le, i_eq, i_add, i_sub, i_mul, i_neg, i_ofNat, i_rem, i_div, w_in, w_in2, w_cnt, w_cnt2, z01, z01', il, li, lc_ge, lc_le, lc_gt, lc_lt, lc_eq, l_ofNat, l0, l_eq, l_lt, l_le]) <;> omega)) (h_ainN (by omega) (by omega) ?_), e2⟩
      rw [rv_eq S 268 (681 * t), hn]
      refine h_neg (by first | omega | ((simp (disch := omega) only [i0, i1, i_lt, i_le, i_eq, i_add, i_sub, i_mul, i_neg, i_ofNat, i_rem, i_div, w_in, w_in2, w_cnt, w_cnt2, z01, z01', il, li, lc_ge, lc_le, lc_gt, lc_lt, lc_eq, l_ofNat, l0, l_eq, l_lt, l_le]) <;> omega)) (h_ainN (by omega) (by omega) ?_)
      rw [rv_eq S 268 (681 * t + 1 + 3 * k)]
      exact h_pos (by first | omega | ((simp (disch := omega) only [i0, i1, i_lt, i_le, i_eq, i_add, i_sub, i_mul, i_neg, i_ofNat, i_rem, i_div, w_in, w_in2, w_cnt, w_cnt2, z01, z01', il, li, lc_ge, lc_le, lc_gt, lc_lt, lc_eq, l_ofNat, l0, l_eq, l_lt, l_le]) <;> omega)) e1
/-- the names laid down -/
def nmF (A : Nat → Int) (f : Nat → Int32) : Nat → Int32 := upd (upd (upd (upd f 0 (Int32.ofInt (A 6))) 1 (Int32.ofInt (A 8))) 2 (Int32.ofInt (A 9))) 3 (Int32.ofInt (pc8 (A 12).toNat : Nat))
theorem q_name {N : Nat} (hN : 2000000 ≤ N) (h : rI (rv S 266)) : fX12_name N S = some (ySa S 271 (nmF (rv S 266) (S.2.2.1 271))) := by
  have hg := I_gone8 h
  unfold fX12_name
  refine h_pst (h_pst (h_pst ?_))
  have e : ∀ f k, (ySa S 271 f).2.2.1 266 k = Int32.ofInt (rv S 266 k) := fun f k => rv_eq S 266 k
  simp only [ySa_at, ySa_ySa, e]
  rw [rv_eq S 266 6]
  have e2 := pc8_b (N := N) (S := ySa S 271 (upd (upd (upd (S.2.2.1 271) 0 (Int32.ofInt (rv S 266 6))) 1 (Int32.ofInt (rv S 266 8))) 2 (Int32.ofInt (rv S 266 9)))) (by omega) (show (rv S 266 12).toNat < 256 by omega)
  rw [show (((rv S 266 12).toNat : Nat) : Int) = rv S 266 12 by omega] at e2
  refine h_bind e2 (h_pst ?_)
  rfl
end PMS
