/-! ===== chance and brings of the reference; of, brings ===== -/
section PMS
variable {T : yK} {S : yS} {A : Nat → Int} {W : Nat → wP}
theorem q_says {N : Nat} (hN : 2000000 ≤ N) {t : Int} {s : Nat} (ht : -1 ≤ t ∧ t < 4) (hs : s ≤ 1) {u : Option (eV → Int)} (hF : 0 ≤ t → ∃ m : Nat, m ≤ 24 ∧ rv S 268 (681 * t.toNat) = m ∧ lwF S t.toNat m s u) {E : eV} (hE : eG E) (hC : eRf s S E) {x lo hi : Int} (hlo : -1000 ≤ lo ∧ lo ≤ hi ∧ hi ≤ 1000) : ∃ S', fX12_says N (Int32.ofInt t) (Int32.ofInt (s : Int)) (Int32.ofInt x) (Int32.ofInt lo) (Int32.ofInt hi) S = some (Int32.ofInt (if t < 0 then x else match u with | none => x | some w => max lo (min (w E) hi)), S') ∧ Fq S S' ∧ S'.2.2.2.1 275 = S.2.2.2.1 275 := by
  unfold fX12_says
  by_cases h0 : t < 0
  · rw [if_pos h0]
    obtain ⟨n, rfl⟩ : ∃ n, N = n + 1 := ⟨N - 1, by omega⟩
    refine ⟨S, ?_, Fq_refl S, rfl⟩
    rw [lX12_says]
    exact h_pos (by first | omega | ((simp (disch := omega) only [i0, i1, i_lt, i_le, i_eq, i_add, i_sub, i_mul, i_neg, i_ofNat, i_rem, i_div, w_in, w_in2, w_cnt, w_cnt2, z01, z01', il, li, lc_ge, lc_le, lc_gt, lc_lt, lc_eq, l_ofNat, l0, l_eq, l_lt, l_le]) <;> omega)) rfl
  · rw [if_neg h0]
    obtain ⟨k, rfl⟩ := Int.eq_ofNat_of_zero_le (show 0 ≤ t by omega)
    obtain ⟨m, m1, m2, m3⟩ := hF (by omega)
    rw [Int.toNat_natCast] at m2 m3
    exact q_sayL hN (by omega) m1 hs m2 m3 hE hC hlo m N 0 (by omega) (by omega) (fun _ _ => trivial) (fun j hj => absurd hj (by omega))
theorem q_eRf0 (hr : rI (rv S 266)) {b : Nat} (hb : b < 8) {f : Nat → Int32} : eRf 0 (ySa S 271 (upd (upd (upd (nmF (rv S 266) f) 4 (Int32.ofInt (b : Int))) 5 (Int32.ofInt (rv S 266 (37 + b)))) 6 (Int32.ofInt (rv S 266 (21 + b))))) (eL (rv S 266) b 0) := by
  refine ⟨fun k hk => ?_, fun c hc => ?_, rv_eq S 266 0, fun k hk => ?_⟩
  · rw [ySa_at]
    have hk := of_decide_eq_true hk
    obtain ⟨n, rfl⟩ := Int.eq_ofNat_of_zero_le hk.1
    rw [Int.toNat_natCast]
    have : n = 0 ∨ n = 1 ∨ n = 2 ∨ n = 3 ∨ n = 4 ∨ n = 5 ∨ n = 6 := by omega
    rcases this with rfl | rfl | rfl | rfl | rfl | rfl | rfl <;> rfl
  · rw [eL_10 hc]
    exact rv_eq S 266 (45 + c)
  · rw [eL_20 hk]
    exact rv_eq S 266 (13 + k)
theorem q_eRf1 (hr : rI (rv S 266)) {c : Nat} (hb : c < 9) {f : Nat → Int32} : eRf 1 (ySa S 271 (upd (upd (nmF (rv S 266) f) 7 (Int32.ofInt (c : Int))) 8 (Int32.ofInt (rv S 266 (45 + c))))) (eL (rv S 266) 0 c) := by
  refine ⟨fun k hk => ?_, fun c hc => ?_, rv_eq S 266 0, fun k hk => ?_⟩
  · rw [ySa_at]
    have hk := of_decide_eq_true hk
    obtain ⟨n, rfl⟩ := Int.eq_ofNat_of_zero_le hk.1
    rw [Int.toNat_natCast]
    have : n = 0 ∨ n = 1 ∨ n = 2 ∨ n = 3 ∨ n = 7 ∨ n = 8 := by omega
    rcases this with rfl | rfl | rfl | rfl | rfl | rfl <;> rfl
  · rw [eL_10 hc]
    exact rv_eq S 266 (45 + c)
  · rw [eL_20 hk]
    exact rv_eq S 266 (13 + k)
theorem q_chanceX (h : RfR S W) {N : Nat} (hN : 2000000 ≤ N) {b : Nat} (hb : (b : Int) < rv S 266 0) : ∃ S', fX12_chanceOf N (Int32.ofInt (b : Int)) S = some (Int32.ofInt (chS W (rv S 266) b), S') ∧ Fq S S' ∧ S'.2.2.2.1 275 = S.2.2.2.1 275 := by
  obtain ⟨hr, hx⟩ := h
  have h8 := I_i0 hr
  have h1 := I_i1 hr
  have h2 := I_i2 hr
  have b8 : b < 8 := by omega
  have hF : 0 ≤ rv S 266 2 → ∃ m : Nat, m ≤ 24 ∧ rv S 268 (681 * (rv S 266 2).toNat) = m ∧ lwF S (rv S 266 2).toNat m 0 (W (rv S 266 2).toNat).1 := by
    intro h0
    obtain ⟨m, m1, m2, m3, m4⟩ := hx (rv S 266 2).toNat (by omega)
    exact ⟨m, m1, m2, m3⟩
  obtain ⟨S', e1, e2, e275⟩ := q_says (S := ySa S 271 (upd (upd (upd (nmF (rv S 266) (S.2.2.1 271)) 4 (Int32.ofInt (b : Int))) 5 (Int32.ofInt (rv S 266 (37 + b)))) 6 (Int32.ofInt (rv S 266 (21 + b))))) hN (t := rv S 266 2) (s := 0) (by omega) (by omega) hF (eL_G hr b8 (by omega)) (q_eRf0 hr b8) (x := rv S 266 (37 + b)) (lo := 0) (hi := 10) (by omega)
  refine ⟨S', ?_, Fq_trans (Fq_a (a := 271) (by unfold kA; omega)) e2, e275⟩
  unfold fX12_chanceOf
  have e : ∀ f k, (ySa S 271 f).2.2.1 266 k = Int32.ofInt (rv S 266 k) := fun f k => rv_eq S 266 k
  refine h_bind (q_name hN hr) (h_pst ?_)
  rw [i_add, show (37 : Int) + (b : Int) = ((37 + b : Nat) : Int) by omega, i_add, show (21 : Int) + (b : Int) = ((21 + b : Nat) : Int) by omega]
  simp only [ySa_at, ySa_ySa, e]
  refine h_ainN (by omega) (by omega) (h_pst ?_)
  simp only [ySa_at, ySa_ySa, e]
  refine h_ainN (by omega) (by omega) (h_pst ?_)
  simp only [ySa_at, ySa_ySa, e]
  exact h_ainN (by omega) (by omega) (h_bind e1 rfl)
theorem q_chance (h : RfR S W) {N : Nat} (hN : 2000000 ≤ N) {b : Nat} (hb : (b : Int) < rv S 266 0) : ∃ S', fX12_chanceOf N (Int32.ofInt (b : Int)) S = some (Int32.ofInt (chS W (rv S 266) b), S') ∧ Fq S S' := by
  obtain ⟨S', e1, e2, -⟩ := q_chanceX h hN hb
  exact ⟨S', e1, e2⟩
theorem q_brings (h : RfR S W) {N : Nat} (hN : 2000000 ≤ N) {t : Int} (ht : -1 ≤ t ∧ t < rv S 266 1) {c : Nat} (hc : c < 9) : ∃ S', fX12_bringsOf N (Int32.ofInt t) (Int32.ofInt (c : Int)) S = some (Int32.ofInt (brS W (rv S 266) t c), S') ∧ Fq S S' := by
  obtain ⟨hr, hx⟩ := h
  have h1 := I_i1 hr
  have hF : 0 ≤ t → ∃ m : Nat, m ≤ 24 ∧ rv S 268 (681 * t.toNat) = m ∧ lwF S t.toNat m 1 (W t.toNat).2 := by
    intro h0
    obtain ⟨m, m1, m2, m3, m4⟩ := hx t.toNat (by omega)
    exact ⟨m, m1, m2, m4⟩
  obtain ⟨S', e1, e2, -⟩ := q_says (S := ySa S 271 (upd (upd (nmF (rv S 266) (S.2.2.1 271)) 7 (Int32.ofInt (c : Int))) 8 (Int32.ofInt (rv S 266 (45 + c))))) hN (t := t) (s := 1) (by omega) (by omega) hF (eL_G hr (by omega) hc) (q_eRf1 hr hc) (x := rv S 266 (45 + c) - 2) (lo := -99) (hi := 99) (by omega)
  refine ⟨S', ?_, Fq_trans (Fq_a (a := 271) (by unfold kA; omega)) e2⟩
  unfold fX12_bringsOf
  have e : ∀ f k, (ySa S 271 f).2.2.1 266 k = Int32.ofInt (rv S 266 k) := fun f k => rv_eq S 266 k
  refine h_bind (q_name hN hr) (h_pst ?_)
  rw [i_add, show (45 : Int) + (c : Int) = ((45 + c : Nat) : Int) by omega]
  simp only [ySa_at, ySa_ySa, e]
  refine h_ainN (by omega) (by omega) (h_pst ?_)
  simp only [ySa_at, ySa_ySa, e]
  refine h_ainN (by omega) (by omega) ?_
  rw [i_sub]
  exact h_bind e1 rfl
end PMS
