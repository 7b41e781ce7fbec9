/-! ===== laws: what they mean to each side ===== -/
abbrev wP : Type := Option (eV → Int) × Option (eV → Int)
def lwC (S : yS) (o L s cf ct : Nat) (w : Option (eV → Int)) : Prop := match w with
  | none => S.1 o cf = Int32.ofInt (-1)
  | some w => ∃ i j : Nat, S.1 o cf = Int32.ofInt i ∧ S.1 o ct = Int32.ofInt j ∧ j ≤ L ∧ frC s (cdC S o) i j w
def lwF (S : yS) (t m s : Nat) (w : Option (eV → Int)) : Prop := match w with
  | none => ∀ k, k < m → rv S 268 (681 * t + 1 + 3 * k) ≠ s
  | some w => ∃ k0 i' j' : Nat, k0 < m ∧ rv S 268 (681 * t + 1 + 3 * k0) = s ∧ (∀ k, k < k0 → rv S 268 (681 * t + 1 + 3 * k) ≠ s) ∧ rv S 268 (681 * t + 1 + 3 * k0 + 1) = i' ∧ rv S 268 (681 * t + 1 + 3 * k0 + 2) = j' ∧ j' ≤ 300 ∧ frV s (cdR S t) i' j' w
theorem lwR_split {S : yS} {o t m L s cf ct : Nat} (h : lwR S o t m L s cf ct) : ∃ w, lwC S o L s cf ct w ∧ lwF S t m s w := by
  rcases h with ⟨a, b⟩ | ⟨k0, i, j, i', j', w, q0, q1, q2, q3, q4, q5, q6, q7, q8, q9, q10⟩
  · exact ⟨none, a, b⟩
  · exact ⟨some w, ⟨i, j, q3, q4, q5, q6⟩, ⟨k0, i', j', q0, q1, q2, q7, q8, q9, q10⟩⟩
theorem lwR_join {S : yS} {o t m L s cf ct : Nat} {w : Option (eV → Int)} (h1 : lwC S o L s cf ct w) (h2 : lwF S t m s w) : lwR S o t m L s cf ct := by
  cases w with
  | none => exact Or.inl ⟨h1, h2⟩
  | some w =>
    obtain ⟨i, j, q3, q4, q5, q6⟩ := h1
    obtain ⟨k0, i', j', q0, q1, q2, q7, q8, q9, q10⟩ := h2
    exact Or.inr ⟨k0, i, j, i', j', w, q0, q1, q2, q3, q4, q5, q6, q7, q8, q9, q10⟩
def txC (T : yK) (S : yS) (o : Nat) (w : wP) : Prop := yTx T o = true ∧ ∃ L, L ≤ 300 ∧ tLn T (o + 1) = L ∧ tLn T (o + 2) = L ∧ lwC S o L 0 2 3 w.1 ∧ lwC S o L 1 4 5 w.2
def txF (S : yS) (t : Nat) (w : wP) : Prop := ∃ m : Nat, m ≤ 24 ∧ rv S 268 (681 * t) = m ∧ lwF S t m 0 w.1 ∧ lwF S t m 1 w.2
/-- the class's cells hold the row A, its texts mean W -/
def ClR (T : yK) (A : Nat → Int) (S : yS) (W : Nat → wP) : Prop := cR 0 A S ∧ rI A ∧ ∀ t : Nat, (t : Int) < A 1 → ∃ o, S.2.2.2.2 118 t = some o ∧ txC T S o (W t)
/-- the reference's texts mean W -/
def RfR (S : yS) (W : Nat → wP) : Prop := rI (rv S 266) ∧ ∀ t : Nat, (t : Int) < rv S 266 1 → txF S t (W t)
theorem Rel_W {T : yK} {S : yS} (h : Rel T S) : ∃ W, ClR T (rv S 266) S W ∧ RfR S W := by
  obtain ⟨-, ⟨o, ho, -⟩, -, -⟩ := h.2.2.2.2.2.2
  have hw : ∀ t : Nat, ∃ w : wP, (t : Int) < rv S 266 1 → txC T S (o t) w ∧ txF S t w := by
    intro t
    by_cases ht : (t : Int) < rv S 266 1
    · obtain ⟨b1, b2, m, L, hm, hL, hl, hn, hc, l0, l1⟩ := ho t ht
      obtain ⟨w0, c0, f0⟩ := lwR_split l0
      obtain ⟨w1, c1, f1⟩ := lwR_split l1
      exact ⟨(w0, w1), fun _ => ⟨⟨b2, L, hL, hl.1, hl.2.1, c0, c1⟩, ⟨m, hm, hn, f0, f1⟩⟩⟩
    · exact ⟨(none, none), fun q => absurd q ht⟩
  refine ⟨fun t => (hw t).choose, ⟨h.1, h.2.2.1, fun t ht => ⟨o t, (ho t ht).1, ((hw t).choose_spec ht).1⟩⟩, h.2.2.1, fun t ht => ((hw t).choose_spec ht).2⟩
theorem lwC_congr {S S' : yS} {o L s cf ct : Nat} {w : Option (eV → Int)} (h : lwC S o L s cf ct w) (h1 : S'.1 o = S.1 o) (h2 : S'.2.2.1 (o + 1) = S.2.2.1 (o + 1)) (h3 : S'.2.2.1 (o + 2) = S.2.2.1 (o + 2)) : lwC S' o L s cf ct w := by
  have e : cdC S' o = cdC S o := by funext k; unfold cdC; rw [rv_congr h2, rv_congr h3]
  unfold lwC at h ⊢
  cases w with
  | none => dsimp only at h ⊢; rw [h1]; exact h
  | some w => dsimp only at h ⊢; rw [h1, e]; exact h
theorem txC_congr {T : yK} {S S' : yS} {o : Nat} {w : wP} (h : txC T S o w) (h1 : S'.1 o = S.1 o) (h2 : S'.2.2.1 (o + 1) = S.2.2.1 (o + 1)) (h3 : S'.2.2.1 (o + 2) = S.2.2.1 (o + 2)) : txC T S' o w := by
  obtain ⟨a, L, b, c, d, e, f⟩ := h
  exact ⟨a, L, b, c, d, lwC_congr e h1 h2 h3, lwC_congr f h1 h2 h3⟩
theorem txF_congr {S S' : yS} {t : Nat} {w : wP} (h : txF S t w) (h1 : S'.2.2.1 268 = S.2.2.1 268) : txF S' t w := by
  have e := rv_congr h1
  have e2 : cdR S' t = cdR S t := by funext k; unfold cdR; rw [e]
  unfold txF lwF at h ⊢
  rw [e, e2]
  exact h
theorem ClR_Fq {T : yK} {A : Nat → Int} {S S' : yS} {W : Nat → wP} (h : ClR T A S W) (hF : Fq S S') : ClR T A S' W := by
  obtain ⟨c, r, x⟩ := h
  refine ⟨cR_frame c r (fun i a b => hF.1 i (by unfold kO; omega)) (fun i a b c => hF.2.1 i (by unfold kA; omega)) (by rw [hF.2.2]), r, fun t ht => ?_⟩
  obtain ⟨o, h1, h2⟩ := x t ht
  have ho : 281 ≤ o := (yTx_K h2.1).2.2.2.2.2.2
  exact ⟨o, by rw [hF.2.2]; exact h1, txC_congr h2 (hF.1 o (by unfold kO; omega)) (hF.2.1 _ (by unfold kA; omega)) (hF.2.1 _ (by unfold kA; omega))⟩
theorem RfR_Fq {S S' : yS} {W : Nat → wP} (h : RfR S W) (hF : Fq S S') : RfR S' W := by
  have e6 : rv S' 266 = rv S 266 := Fq_rv hF (by unfold kA; omega)
  unfold RfR
  rw [e6]
  exact ⟨h.1, fun t ht => txF_congr (h.2 t ht) (hF.2.1 268 (by unfold kA; omega))⟩
/-! bounds of a row -/
section IA
variable {A : Nat → Int}
theorem I_i0 (h : rI A) : 0 ≤ A 0 ∧ A 0 ≤ 8 := h.1.1
theorem I_i1 (h : rI A) : 0 ≤ A 1 ∧ A 1 ≤ 4 := h.1.2.1
theorem I_i2 (h : rI A) : -1 ≤ A 2 ∧ A 2 < A 1 := h.1.2.2.1
theorem I_i3 (h : rI A) : 0 ≤ A 3 ∧ A 3 ≤ 30 := h.1.2.2.2.1
theorem I_i5 (h : rI A) : 0 ≤ A 5 ∧ A 5 ≤ 8 := h.1.2.2.2.2.2
theorem I_m (h : rI A) : mI (A 0) (nowF A) := h.2.2.2.1
theorem I_day (h : rI A) : 0 ≤ A 6 ∧ A 6 ≤ 9999 := (I_m h).1
theorem I_x (h : rI A) : 0 ≤ A 7 ∧ A 7 < 30949 := (I_m h).2.1
theorem I_fund (h : rI A) : -9999 ≤ A 8 ∧ A 8 ≤ 9999 := (I_m h).2.2.1
theorem I_cnt (h : rI A) : 0 ≤ A 9 ∧ A 9 ≤ 8 := (I_m h).2.2.2.1
theorem I_thg (h : rI A) : 0 ≤ A 10 ∧ A 10 ≤ 9 := (I_m h).2.2.2.2.1
theorem I_pgs (h : rI A) : 0 ≤ A 11 ∧ A 11 ≤ 25 := (I_m h).2.2.2.2.2.1
theorem I_gone (h : rI A) : 0 ≤ A 12 ∧ A 12 < 2 ^ (A 0).toNat := (I_m h).2.2.2.2.2.2.1
theorem I_gone8 (h : rI A) : 0 ≤ A 12 ∧ A 12 < 256 := by
  have h0 := I_i0 h
  have hg := I_gone h
  have hp : 2 ^ (A 0).toNat ≤ 2 ^ 8 := Nat.pow_le_pow_right (by omega) (by omega)
  have hp2 : (2 : Int) ^ (A 0).toNat ≤ 2 ^ 8 := by exact_mod_cast hp
  have : (2 : Int) ^ 8 = 256 := rfl
  omega
theorem I_came (h : rI A) {k : Nat} (hk : k < 8) : 0 ≤ A (13 + k) ∧ A (13 + k) ≤ 9999 := by
  have := (I_m h).2.2.2.2.2.2.2.1 k hk
  unfold nowF at this
  rw [if_pos (by omega), show 6 + (7 + k) = 13 + k by omega] at this
  exact this
theorem I_bird (h : rI A) {k : Nat} (hk : (k : Int) < A 0) : 1 ≤ A (21 + k) ∧ A (29 + k) < A (21 + k) := h.2.2.1 k hk
theorem I_per (h : rI A) {k : Nat} (hk : k < 8) : 0 ≤ A (21 + k) ∧ A (21 + k) ≤ 12 := by
  have := h.2.1 _ (show (114, 8, 21, 1, (0 : Int), (12 : Int)) ∈ cTab by decide) k hk
  dsimp only at this
  rw [Nat.one_mul] at this
  exact this
theorem K_per {S : yS} (h : cR 0 A S) {k : Nat} (hk : k < 8) : S.2.2.1 114 k = Int32.ofInt (A (21 + k)) := by
  have := h.2.1 _ (show (114, 8, 21, 1, (0 : Int), (12 : Int)) ∈ cTab by decide) k hk
  dsimp only at this
  rw [Nat.one_mul] at this
  exact this
theorem I_pha (h : rI A) {k : Nat} (hk : k < 8) : 0 ≤ A (29 + k) ∧ A (29 + k) ≤ 11 := by
  have := h.2.1 _ (show (115, 8, 29, 1, (0 : Int), (11 : Int)) ∈ cTab by decide) k hk
  dsimp only at this
  rw [Nat.one_mul] at this
  exact this
theorem K_pha {S : yS} (h : cR 0 A S) {k : Nat} (hk : k < 8) : S.2.2.1 115 k = Int32.ofInt (A (29 + k)) := by
  have := h.2.1 _ (show (115, 8, 29, 1, (0 : Int), (11 : Int)) ∈ cTab by decide) k hk
  dsimp only at this
  rw [Nat.one_mul] at this
  exact this
theorem I_odd (h : rI A) {k : Nat} (hk : k < 8) : 0 ≤ A (37 + k) ∧ A (37 + k) ≤ 10 := by
  have := h.2.1 _ (show (116, 8, 37, 1, (0 : Int), (10 : Int)) ∈ cTab by decide) k hk
  dsimp only at this
  rw [Nat.one_mul] at this
  exact this
theorem K_odd {S : yS} (h : cR 0 A S) {k : Nat} (hk : k < 8) : S.2.2.1 116 k = Int32.ofInt (A (37 + k)) := by
  have := h.2.1 _ (show (116, 8, 37, 1, (0 : Int), (10 : Int)) ∈ cTab by decide) k hk
  dsimp only at this
  rw [Nat.one_mul] at this
  exact this
theorem I_rhy (h : rI A) {k : Nat} (hk : k < 9) : 0 ≤ A (45 + k) ∧ A (45 + k) ≤ 9 := by
  have := h.2.1 _ (show (117, 9, 45, 1, (0 : Int), (9 : Int)) ∈ cTab by decide) k hk
  dsimp only at this
  rw [Nat.one_mul] at this
  exact this
theorem K_rhy {S : yS} (h : cR 0 A S) {k : Nat} (hk : k < 9) : S.2.2.1 117 k = Int32.ofInt (A (45 + k)) := by
  have := h.2.1 _ (show (117, 9, 45, 1, (0 : Int), (9 : Int)) ∈ cTab by decide) k hk
  dsimp only at this
  rw [Nat.one_mul] at this
  exact this
theorem I_tcn (h : rI A) {k : Nat} (hk : k < 8) : 0 ≤ A (92 + 2 * k) ∧ A (92 + 2 * k) ≤ 8 := by
  have := h.2.1 _ (show (130, 8, 92, 2, (0 : Int), (8 : Int)) ∈ cTab by decide) k hk
  dsimp only at this
  exact this
theorem K_tcn {S : yS} (h : cR 0 A S) {k : Nat} (hk : k < 8) : S.2.2.1 130 k = Int32.ofInt (A (92 + 2 * k)) := by
  have := h.2.1 _ (show (130, 8, 92, 2, (0 : Int), (8 : Int)) ∈ cTab by decide) k hk
  dsimp only at this
  exact this
theorem I_tbr (h : rI A) {k : Nat} (hk : k < 8) : -99 ≤ A (93 + 2 * k) ∧ A (93 + 2 * k) ≤ 99 := by
  have := h.2.1 _ (show (131, 8, 93, 2, (-99 : Int), (99 : Int)) ∈ cTab by decide) k hk
  dsimp only at this
  exact this
theorem K_tbr {S : yS} (h : cR 0 A S) {k : Nat} (hk : k < 8) : S.2.2.1 131 k = Int32.ofInt (A (93 + 2 * k)) := by
  have := h.2.1 _ (show (131, 8, 93, 2, (-99 : Int), (99 : Int)) ∈ cTab by decide) k hk
  dsimp only at this
  exact this
theorem K_birds {S : yS} (h : cR 0 A S) : S.1 18 5 = Int32.ofInt (A 0) := h.1.1
theorem K_texts {S : yS} (h : cR 0 A S) : S.1 18 8 = Int32.ofInt (A 1) := h.1.2.1
theorem K_ruling {S : yS} (h : cR 0 A S) : S.1 18 9 = Int32.ofInt (A 2) := h.1.2.2.1
theorem K_tolds {S : yS} (h : cR 0 A S) : S.1 18 15 = Int32.ofInt (A 5) := h.1.2.2.2.1
theorem K_steps {S : yS} (h : cR 0 A S) : S.1 22 2 = Int32.ofInt (A 3) := h.2.2.2.2.1
theorem K_gone {S : yS} (h : cR 0 A S) : S.1 19 0 = Int32.ofInt (A 12) := h.2.2.1.1.1
theorem K_fund {S : yS} (h : cR 0 A S) : S.1 19 1 = Int32.ofInt (A 8) := h.2.2.1.1.2.1
theorem K_cnt {S : yS} (h : cR 0 A S) : S.1 19 2 = Int32.ofInt (A 9) := h.2.2.1.1.2.2.1
theorem K_thg {S : yS} (h : cR 0 A S) : S.1 19 3 = Int32.ofInt (A 10) := h.2.2.1.1.2.2.2.1
theorem K_day {S : yS} (h : cR 0 A S) : S.1 19 4 = Int32.ofInt (A 6) := h.2.2.1.1.2.2.2.2.1
theorem K_x {S : yS} (h : cR 0 A S) : S.1 19 5 = Int32.ofInt (A 7) := h.2.2.1.1.2.2.2.2.2.1
theorem K_pgs {S : yS} (h : cR 0 A S) : S.1 19 8 = Int32.ofInt (A 11) := h.2.2.1.1.2.2.2.2.2.2
theorem K_came {S : yS} (h : cR 0 A S) {k : Nat} (hk : k < 8) : S.2.2.1 20 k = Int32.ofInt (A (13 + k)) := by
  have := h.2.2.1.2.1 k hk
  unfold nowF at this
  rw [if_pos (by omega), show 6 + (7 + k) = 13 + k by omega] at this
  exact this
end IA
/-! who is due, on each side alone -/
section PMS
variable {T : yK} {S : yS} {A : Nat → Int}
theorem k_gone (h : cR 0 A S) {b : Nat} (hb : b < 32) : fX2_isGone (Int32.ofInt (b : Int)) S = some (Int32.ofInt (if tb (Int32.ofInt (A 12)) b = true then 1 else 0)) := by
  unfold fX2_isGone
  rw [K_gone h, in_tb _ hb, i0, i1]
  refine h_pos (by rw [z01']; trivial) rfl
theorem k_due (h : cR 0 A S) (hI : rI A) {b : Nat} (hb : (b : Int) < A 0) {d : Int} (hd : 0 ≤ d ∧ d < 1000000) : fX0_isDue (Int32.ofInt (b : Int)) (Int32.ofInt d) S = some (Int32.ofInt (if dueB A d b = true then 1 else 0)) := by
  have h8 := I_i0 hI
  have hp := I_bird hI hb
  have hp2 := I_per hI (show b < 8 by omega)
  have hf2 := I_pha hI (show b < 8 by omega)
  unfold fX0_isDue dueB
  refine h_bind (k_gone h (by omega)) ?_
  cases hg : tb (Int32.ofInt (A 12)) b with
  | true => exact h_pos (by decide) rfl
  | false =>
    refine h_neg (by decide) ?_
    refine h_ainN (by omega) (by omega) ?_
    rw [K_per h (by omega)]
    refine h_neg (by first | omega | ((simp (disch := omega) only [i0, i1, i_lt, i_le, i_eq, i_add, i_sub, i_mul, i_neg, i_ofNat, i_rem, i_div, w_in, w_in2, w_cnt, w_cnt2, z01, z01', il, li, lc_ge, lc_le, lc_gt, lc_lt, lc_eq, l_ofNat, l0, l_eq, l_lt, l_le]) <;> omega)) ?_
    refine h_ainN (by omega) (by omega) ?_
    rw [K_per h (by omega)]
    refine h_neg (by first | omega | ((simp (disch := omega) only [i0, i1, i_lt, i_le, i_eq, i_add, i_sub, i_mul, i_neg, i_ofNat, i_rem, i_div, w_in, w_in2, w_cnt, w_cnt2, z01, z01', il, li, lc_ge, lc_le, lc_gt, lc_lt, lc_eq, l_ofNat, l0, l_eq, l_lt, l_le]) <;> omega)) ?_
    refine h_ainN (by omega) (by omega) ?_
    rw [K_pha h (by omega), i_rem (by omega) (by omega) (by omega) (by omega)]
    have hm : 0 ≤ d % A (21 + b) ∧ d % A (21 + b) < A (21 + b) := ⟨Int.emod_nonneg _ (by omega), Int.emod_lt_of_pos _ (by omega)⟩
    by_cases hq : d % A (21 + b) = A (29 + b)
    · rw [decide_eq_true hq]
      exact h_neg (by first | omega | ((simp (disch := omega) only [i0, i1, i_lt, i_le, i_eq, i_add, i_sub, i_mul, i_neg, i_ofNat, i_rem, i_div, w_in, w_in2, w_cnt, w_cnt2, z01, z01', il, li, lc_ge, lc_le, lc_gt, lc_lt, lc_eq, l_ofNat, l0, l_eq, l_lt, l_le]) <;> omega)) rfl
    · rw [decide_eq_false hq]
      exact h_pos (by first | omega | ((simp (disch := omega) only [i0, i1, i_lt, i_le, i_eq, i_add, i_sub, i_mul, i_neg, i_ofNat, i_rem, i_div, w_in, w_in2, w_cnt, w_cnt2, z01, z01', il, li, lc_ge, lc_le, lc_gt, lc_lt, lc_eq, l_ofNat, l0, l_eq, l_lt, l_le]) <;> omega)) rfl
theorem q_gone (h : rI (rv S 266)) {b : Nat} (hb : b < 32) : fX12_isGone (Int32.ofInt (b : Int)) S = some (Int32.ofInt (if tb (Int32.ofInt (rv S 266 12)) b = true then 1 else 0)) := by
  unfold fX12_isGone
  rw [rv_eq S 266 12, has_tb _ hb, i0, i1]
  refine h_pos (by rw [z01']; trivial) rfl
theorem q_due (h : rI (rv S 266)) {b : Nat} (hb : (b : Int) < rv S 266 0) {d : Int} (hd : 0 ≤ d ∧ d < 900000) : fX12_isDue (Int32.ofInt (b : Int)) (Int32.ofInt d) S = some (Int32.ofInt (if dueB (rv S 266) (rv S 266 6 + d) b = true then 1 else 0)) := by
  have h8 := I_i0 h
  have h6 := I_day h
  have hp := I_bird h hb
  have hp2 := I_per h (show b < 8 by omega)
  have hf2 := I_pha h (show b < 8 by omega)
  unfold fX12_isDue dueB
  refine h_bind (q_gone h (by omega)) ?_
  cases hg : tb (Int32.ofInt (rv S 266 12)) b with
  | true => exact h_pos (by decide) rfl
  | false =>
    refine h_neg (by decide) ?_
    rw [rv_eq S 266 6, i_add, i_add, i_add, show (21 : Int) + (b : Int) = ((21 + b : Nat) : Int) by omega, show (29 : Int) + (b : Int) = ((29 + b : Nat) : Int) by omega]
    refine h_ainN (by omega) (by omega) ?_
    rw [rv_eq S 266 (21 + b)]
    refine h_neg (by first | omega | ((simp (disch := omega) only [i0, i1, i_lt, i_le, i_eq, i_add, i_sub, i_mul, i_neg, i_ofNat, i_rem, i_div, w_in, w_in2, w_cnt, w_cnt2, z01, z01', il, li, lc_ge, lc_le, lc_gt, lc_lt, lc_eq, l_ofNat, l0, l_eq, l_lt, l_le]) <;> omega)) ?_
    refine h_ainN (by omega) (by omega) ?_
    rw [rv_eq S 266 (29 + b), i_rem (by omega) (by omega) (by omega) (by omega)]
    have hm : 0 ≤ (rv S 266 6 + d) % rv S 266 (21 + b) ∧ (rv S 266 6 + d) % rv S 266 (21 + b) < rv S 266 (21 + b) := ⟨Int.emod_nonneg _ (by omega), Int.emod_lt_of_pos _ (by omega)⟩
    by_cases hq : (rv S 266 6 + d) % rv S 266 (21 + b) = rv S 266 (29 + b)
    · rw [decide_eq_true hq]
      exact h_neg (by first | omega | ((simp (disch := omega) only [i0, i1, i_lt, i_le, i_eq, i_add, i_sub, i_mul, i_neg, i_ofNat, i_rem, i_div, w_in, w_in2, w_cnt, w_cnt2, z01, z01', il, li, lc_ge, lc_le, lc_gt, lc_lt, lc_eq, l_ofNat, l0, l_eq, l_lt, l_le]) <;> omega)) rfl
    · rw [decide_eq_false hq]
      exact h_pos (by first | omega | ((simp (disch := omega) only [i0, i1, i_lt, i_le, i_eq, i_add, i_sub, i_mul, i_neg, i_ofNat, i_rem, i_div, w_in, w_in2, w_cnt, w_cnt2, z01, z01', il, li, lc_ge, lc_le, lc_gt, lc_lt, lc_eq, l_ofNat, l0, l_eq, l_lt, l_le]) <;> omega)) rfl
theorem q_dueL (h : rI (rv S 266)) {N : Nat} {d : Int} (hd : 0 ≤ d ∧ d < 900000) : ∀ (m n b : Nat) (x : Int32), (b : Int) + m = rv S 266 0 → m < n → lX12_dueBy N n (Int32.ofInt d) x (Int32.ofInt (b : Int)) S = some (orB (dueB (rv S 266) (rv S 266 6 + d)) b m x)
  | 0, n + 1, b, x, hm, _ => by
    have h8 := I_i0 h
    rw [lX12_dueBy, rv_eq S 266 0]
    exact h_pos (by first | omega | ((simp (disch := omega) only [i0, i1, i_lt, i_le, i_eq, i_add, i_sub, i_mul, i_neg, i_ofNat, i_rem, i_div, w_in, w_in2, w_cnt, w_cnt2, z01, z01', il, li, lc_ge, lc_le, lc_gt, lc_lt, lc_eq, l_ofNat, l0, l_eq, l_lt, l_le]) <;> omega)) rfl
  | m + 1, n + 1, b, x, hm, hn => by
    have h8 := I_i0 h
    rw [lX12_dueBy, rv_eq S 266 0]
    refine h_neg (by first | omega | ((simp (disch := omega) only [i0, i1, i_lt, i_le, i_eq, i_add, i_sub, i_mul, i_neg, i_ofNat, i_rem, i_div, w_in, w_in2, w_cnt, w_cnt2, z01, z01', il, li, lc_ge, lc_le, lc_gt, lc_lt, lc_eq, l_ofNat, l0, l_eq, l_lt, l_le]) <;> omega)) ?_
    refine h_bind (q_due h (by omega) hd) ?_
    rw [i_add, show (b : Int) + 1 = ((b + 1 : Nat) : Int) by omega, show x ||| Int32.ofInt 0 = x from Int32.or_zero]
    unfold orB
    cases dueB (rv S 266) (rv S 266 6 + d) b with
    | false => exact h_pos (by decide) (q_dueL h hd m n (b + 1) x (by omega) (by omega))
    | true => exact h_neg (by decide) (q_dueL h hd m n (b + 1) _ (by omega) (by omega))
theorem q_dueS (h : rI (rv S 266)) {N : Nat} (hN : 2000000 ≤ N) {d : Int} (hd : 0 ≤ d ∧ d < 900000) : fX12_dueBy N (Int32.ofInt d) S = some (dueS (rv S 266) (rv S 266 6 + d)) := by
  have h8 := I_i0 h
  exact q_dueL h hd (rv S 266 0).toNat N 0 _ (by omega) (by omega)
theorem q_dueN (h : rI (rv S 266)) {N : Nat} (hN : 2000000 ≤ N) : fX12_dueNow N S = some (dueS (rv S 266) (rv S 266 6)) := by
  unfold fX12_dueNow
  refine h_bind (q_dueS h hN (by omega)) ?_
  rw [Int.add_zero]
end PMS
