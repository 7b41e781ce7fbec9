/-! ===== rows copied by a loop ===== -/
def cpF (f g : Nat → Int32) (src dst k : Nat) : Nat → Int32 := fun j => if dst ≤ j ∧ j < dst + k then g (src + (j - dst)) else f j
theorem cpF_0 (f g : Nat → Int32) (src dst : Nat) : cpF f g src dst 0 = f := by
  funext j
  unfold cpF
  rw [if_neg (by omega)]
theorem cpF_s (f g : Nat → Int32) (src dst k : Nat) : upd (cpF f g src dst k) (dst + k) (g (src + k)) = cpF f g src dst (k + 1) := by
  funext j
  unfold upd cpF
  by_cases h : j = dst + k
  · rw [if_pos h, if_pos (by omega), show src + (j - dst) = src + k by omega]
  · rw [if_neg h]
    by_cases h2 : dst ≤ j ∧ j < dst + k
    · rw [if_pos h2, if_pos (by omega)]
    · rw [if_neg h2, if_neg (by omega)]
theorem cpL {α : Type} {F : Nat → Int32 → yS → Option α} {r q src dst K c0 : Nat} (step : ∀ n k S, k < K → F (n + 1) (Int32.ofInt ((c0 + k : Nat) : Int)) S = F n (Int32.ofInt ((c0 + k + 1 : Nat) : Int)) (ySa S q (upd (S.2.2.1 q) (dst + k) (S.2.2.1 r (src + k))))) (S : yS) (hni : r ≠ q ∨ dst ≤ src ∨ src + K ≤ dst) : ∀ rr n k, k + rr = K → F (n + rr) (Int32.ofInt ((c0 + k : Nat) : Int)) (ySa S q (cpF (S.2.2.1 q) (S.2.2.1 r) src dst k)) = F n (Int32.ofInt ((c0 + K : Nat) : Int)) (ySa S q (cpF (S.2.2.1 q) (S.2.2.1 r) src dst K))
  | 0, n, k, h => by
    rw [show k = K by omega]; rfl
  | rr + 1, n, k, h => by
    rw [show n + (rr + 1) = (n + rr) + 1 by omega, step _ _ _ (by omega), ySa_ySa, ySa_at]
    have e : (ySa S q (cpF (S.2.2.1 q) (S.2.2.1 r) src dst k)).2.2.1 r (src + k) = S.2.2.1 r (src + k) := by
      by_cases hr : r = q
      · subst hr
        rw [ySa_at]
        unfold cpF
        rw [if_neg (by omega)]
      · rw [ySa_ne _ _ hr]
    rw [e, cpF_s, show c0 + k + 1 = c0 + (k + 1) by omega]
    exact cpL step S hni rr n (k + 1) (by omega)
theorem cpL0 {α : Type} {F : Nat → Int32 → yS → Option α} {r q src dst K c0 n : Nat} (step : ∀ n k S, k < K → F (n + 1) (Int32.ofInt ((c0 + k : Nat) : Int)) S = F n (Int32.ofInt ((c0 + k + 1 : Nat) : Int)) (ySa S q (upd (S.2.2.1 q) (dst + k) (S.2.2.1 r (src + k))))) (S : yS) (hni : r ≠ q ∨ dst ≤ src ∨ src + K ≤ dst) : F (n + K) (Int32.ofInt (c0 : Int)) S = F n (Int32.ofInt ((c0 + K : Nat) : Int)) (ySa S q (cpF (S.2.2.1 q) (S.2.2.1 r) src dst K)) := by
  have h := cpL step S hni K n 0 (by omega)
  rw [cpF_0, ySa_self] at h
  exact h
/-! ===== the end of a day ===== -/
theorem rU_comm {A : Nat → Int} {i j : Nat} {x y : Int} (h : i ≠ j) : rU (rU A i x) j y = rU (rU A j y) i x := by
  funext k
  unfold rU
  by_cases h1 : k = i
  · rw [if_neg (by omega), if_pos h1, if_pos h1]
  · rw [if_neg h1]
    by_cases h2 : k = j
    · rw [if_pos h2, if_neg h1]
    · rw [if_neg h2, if_neg h1]
def cl9 (x : Int) : Int := max (-9999) (min x 9999)
/-- fund, count, thing -/
def enA (A : Nat → Int) (c : Nat) (x : Int) : Nat → Int := rU (rU (rU A 8 (cl9 (A 8 + x))) 9 c) 10 (A (45 + c))
/-- the page, if it is written; the day -/
def edA (wf : Bool) (A : Nat → Int) (c : Nat) (x : Int) : Nat → Int := rU (if wf then wrA (enA A c x) (((A 6 * 9 + c) * 10 + A (45 + c)) * 200 + x + 100) else enA A c x) 6 (A 6 + 1)
def psA (W : Nat → wP) (wf : Bool) (A : Nat → Int) : Nat → Int := edA wf (psL W (A 0).toNat 0 0 A).2 (psL W (A 0).toNat 0 0 A).1 (brS W (psL W (A 0).toNat 0 0 A).2 ((psL W (A 0).toNat 0 0 A).2 2) (psL W (A 0).toNat 0 0 A).1)
theorem psL_o {W : Nat → wP} : ∀ (r b c : Nat) (A : Nat → Int) (k : Nat), k < 7 ∨ 8 ≤ k ∧ k < 13 ∨ 21 ≤ k → b + r ≤ 8 → (psL W r b c A).2 k = A k
  | 0, b, c, A, k, _, _ => rfl
  | r + 1, b, c, A, k, h, hb => by
    have e1 : dwA A k = A k := rU_ne (by omega)
    have e2 : cmA (dwA A) b k = dwA A k := rU_ne (by omega)
    unfold psL
    split
    · split
      · rw [psL_o r (b + 1) _ _ k h (by omega), e2, e1]
      · rw [psL_o r (b + 1) _ _ k h (by omega), e1]
    · exact psL_o r (b + 1) _ _ k h (by omega)
theorem psL_c {W : Nat → wP} : ∀ (r b c : Nat) (A : Nat → Int), (psL W r b c A).1 ≤ c + r
  | 0, b, c, A => Nat.le_refl _
  | r + 1, b, c, A => by
    unfold psL
    split
    · split
      · have := psL_c (W := W) r (b + 1) (c + 1) (cmA (dwA A) b); omega
      · have := psL_c (W := W) r (b + 1) c (dwA A); omega
    · have := psL_c (W := W) r (b + 1) c A; omega
section PMS
variable {T : yK} {S S' : yS} {A A' : Nat → Int} {W : Nat → wP}
theorem en_rI1 (h : rI A) {x : Int} : rI (rU A 8 (cl9 x)) := rI_now h (rU_now (by omega) (by omega)) (up_mI h (by omega) (by omega) (by omega) (by omega) (fun _ => by unfold cl9; omega) (by omega) (by omega) (by omega) (by omega))
theorem up9_mI (h : rI A) {c : Nat} (hc : c < 9) : mI (A 0) (nowF (rU A 9 (c : Int))) := up_mI h (by omega) (by omega) (by omega) (by omega) (by omega) (fun _ => by omega) (by omega) (by omega) (by omega)
theorem up10_mI (h : rI A) {x : Int} (hx : 0 ≤ x ∧ x ≤ 9) : mI (A 0) (nowF (rU A 10 x)) := up_mI h (by omega) (by omega) (by omega) (by omega) (by omega) (by omega) (fun _ => by omega) (by omega) (by omega)
theorem up8_mI (h : rI A) {x : Int} (hx : -9999 ≤ x ∧ x ≤ 9999) : mI (A 0) (nowF (rU A 8 x)) := up_mI h (by omega) (by omega) (by omega) (by omega) (fun _ => by omega) (by omega) (by omega) (by omega) (by omega)
theorem up6_mI (h : rI A) {x : Int} (hx : 0 ≤ x ∧ x ≤ 9999) : mI (A 0) (nowF (rU A 6 x)) := up_mI h (by omega) (by omega) (fun _ => by omega) (by omega) (by omega) (by omega) (by omega) (by omega) (by omega)
theorem up7_mI (h : rI A) {x : Int} (hx : 0 ≤ x ∧ x < 30949) : mI (A 0) (nowF (rU A 7 x)) := up_mI h (by omega) (by omega) (by omega) (fun _ => by omega) (by omega) (by omega) (by omega) (by omega) (by omega)
theorem up12_mI (h : rI A) {x : Int} (hx : 0 ≤ x ∧ x < 2 ^ (A 0).toNat) : mI (A 0) (nowF (rU A 12 x)) := up_mI h (by omega) (by omega) (by omega) (by omega) (by omega) (by omega) (by omega) (fun _ => hx) (by omega)
/-- the class's end of a day -/
theorem k_end (h : ClR T A S W) {c : Nat} (hc : c < 9) {x : Int} (hx : -99 ≤ x ∧ x ≤ 99) (hd : A 6 ≤ 9998) : ∃ S1, (fX2_write (Int32.ofInt x) (ySi (ySi (ySi S 19 2 (Int32.ofInt (c : Int))) 19 3 (Int32.ofInt (A (45 + c)))) 19 1 (Int32.ofInt (cl9 (A 8 + x))))) = some S1 ∧ S1.1 19 4 = Int32.ofInt (A 6) ∧ ClR T (edA true A c x) (ySi S1 19 4 (Int32.ofInt (A 6 + 1))) W ∧ Gn S S1 := by
  have hr := h.2.1
  have h6 := I_day hr
  have h8 := I_fund hr
  have h11 := I_pgs hr
  have h45 := I_rhy hr hc
  have u1 := up_ClR (j := 9) (x := (c : Int)) h (by omega) (by omega) (by omega) (up9_mI hr hc)
  have u2 := up_ClR (j := 10) (x := A (45 + c)) u1 (by omega) (by omega) (by omega) (up10_mI u1.2.1 h45)
  have u3 := up_ClR (j := 8) (x := cl9 (A 8 + x)) u2 (by omega) (by omega) (by omega) (up8_mI u2.2.1 (by unfold cl9; omega))
  have eE : rU (rU (rU A 9 (c : Int)) 10 (A (45 + c))) 8 (cl9 (A 8 + x)) = enA A c x := by
    unfold enA
    rw [rU_comm (i := 10) (j := 8) (by omega), rU_comm (i := 9) (j := 8) (by omega)]
  rw [eE] at u3
  have e6 : enA A c x 6 = A 6 := by unfold enA; rw [rU_ne (by omega), rU_ne (by omega), rU_ne (by omega)]
  have e9 : enA A c x 9 = c := by unfold enA; rw [rU_ne (by omega), rU_eq]
  have e10 : enA A c x 10 = A (45 + c) := by unfold enA; rw [rU_eq]
  have e11 : enA A c x 11 = A 11 := by unfold enA; rw [rU_ne (by omega), rU_ne (by omega), rU_ne (by omega)]
  have key : ∃ S1, fX2_write (Int32.ofInt x) (ySi (ySi (ySi S 19 2 (Int32.ofInt (c : Int))) 19 3 (Int32.ofInt (A (45 + c)))) 19 1 (Int32.ofInt (cl9 (A 8 + x)))) = some S1 ∧ ClR T (wrA (enA A c x) (((enA A c x 6 * 9 + enA A c x 9) * 10 + enA A c x 10) * 200 + x + 100)) S1 W ∧ Gn (ySi (ySi (ySi S 19 2 (Int32.ofInt (c : Int))) 19 3 (Int32.ofInt (A (45 + c)))) 19 1 (Int32.ofInt (cl9 (A 8 + x)))) S1 := by
    by_cases hp : A 11 < 25
    · exact k_wr u3 hx (by rw [e6]; exact hd) (by rw [e11]; exact hp)
    · exact k_wr25 u3 hx (by rw [e11]; omega)
  obtain ⟨S1, k1, k2, k3⟩ := key
  rw [e6, e9, e10] at k2
  have w6 : wrA (enA A c x) (((A 6 * 9 + c) * 10 + A (45 + c)) * 200 + x + 100) 6 = A 6 := by rw [wrA_o u3.2.1 (by omega) (by omega), e6]
  have k4 := up_ClR (j := 6) (x := A 6 + 1) k2 (by omega) (by omega) (by omega) (up6_mI k2.2.1 (by omega))
  refine ⟨S1, k1, ?_, k4, Gn_trans (Gn_trans (Gn_trans Gn_i Gn_i) Gn_i) k3⟩
  rw [K_day k2.1, w6]
theorem k_pass (h : ClR T A S W) {N : Nat} (hN : 2000000 ≤ N) (hd : A 6 ≤ 9998) : ∃ S1, fX11_passDay N T S = some (Int32.ofInt ((psL W (A 0).toNat 0 0 A).1 : Int), S1) ∧ ClR T (psA W true A) S1 W ∧ Gn S S1 := by
  have h0 := I_i0 h.2.1
  obtain ⟨S1, a1, a2, a3⟩ := k_psL (W := W) (T := T) hN (A 0).toNat (N - (A 0).toNat - 1 + 1) 0 0 S A h (by omega)
  have hc9 := psL_c (W := W) (A 0).toNat 0 0 A
  have o0 := psL_o (W := W) (A 0).toNat 0 0 A 0 (by omega) (by omega)
  have o6 := psL_o (W := W) (A 0).toNat 0 0 A 6 (by omega) (by omega)
  unfold fX11_passDay psA
  rw [show N - (A 0).toNat - 1 + 1 + (A 0).toNat = N by omega] at a1
  rw [show Int32.ofInt 0 = Int32.ofInt ((0 : Nat) : Int) from rfl, a1, lX11_passDay, K_birds a2.1, o0]
  generalize hB : (psL W (A 0).toNat 0 0 A).2 = B at *
  generalize hC : (psL W (A 0).toNat 0 0 A).1 = c at *
  have hc : c < 9 := by omega
  have hr := a2.2.1
  have h8 := I_fund hr
  have hx := brS_rng (W := W) (t := B 2) hr hc
  have g : ∀ (u : Int) (S5 : yS), Fq S1 S5 → u = brS W B (B 2) c → ∃ S2, (pSt (ySi S5 19 2 (Int32.ofInt (c : Int))) fun S7 => (ain 9 (Int32.ofInt (c : Int))).bind fun j8 => pSt (ySi S7 19 3 (S7.2.2.1 117 j8)) fun S9 => pSt (ySi S9 19 1 (fX11_held ((S9.1 19 1) + Int32.ofInt u) (Int32.ofInt (-9999)) (Int32.ofInt 9999))) fun S10 => (fX2_write (Int32.ofInt u) S10).bind fun S12 => pSt (ySi S12 19 4 ((S12.1 19 4) + (Int32.ofInt 1))) fun S13 => some (Int32.ofInt (c : Int), S13)) = some (Int32.ofInt (c : Int), S2) ∧ ClR T (edA true B c (brS W B (B 2) c)) S2 W ∧ Gn S1 S2 := by
    intro u S5 f5 hu
    subst hu
    have b5 := ClR_Fq a2 f5
    obtain ⟨S6, q1, q2, q3, q4⟩ := k_end b5 hc hx (by rw [o6]; exact hd)
    refine ⟨ySi S6 19 4 (Int32.ofInt (B 6 + 1)), ?_, q3, Gn_trans (Gn_Fq f5) (Gn_trans q4 Gn_i)⟩
    refine h_pst (h_ainN (by omega) (by omega) (h_pst (h_pst ?_)))
    have e1 : (ySi S5 19 2 (Int32.ofInt (c : Int))).2.2.1 117 c = Int32.ofInt (B (45 + c)) := K_rhy b5.1 hc
    have e2 : (ySi (ySi S5 19 2 (Int32.ofInt (c : Int))) 19 3 (Int32.ofInt (B (45 + c)))).1 19 1 = Int32.ofInt (B 8) := by
      rw [fld_ne (by omega), fld_ne (by omega)]; exact K_fund b5.1
    rw [e1, e2, i_add, hd_i (by omega) (by omega) (by omega) (by omega) (by omega) (by omega) (by omega)]
    refine h_bind q1 (h_pst ?_)
    rw [q2, i_add]
  have hk := k_rule a2
  rcases hk with ⟨n1, n2⟩ | ⟨k, o, n1, n2, n3⟩
  · obtain ⟨S2, g1, g2, g3⟩ := g (B (45 + c) - 2) S1 (Fq_refl S1) (by unfold brS; rw [if_pos n1])
    refine ⟨S2, h_pos (by first | omega | ((simp (disch := omega) only [i0, i1, i_lt, i_le, i_eq, i_add, i_sub, i_mul, i_neg, i_ofNat, i_rem, i_div, w_in, w_in2, w_cnt, w_cnt2, z01, z01', il, li, lc_ge, lc_le, lc_gt, lc_lt, lc_eq, l_ofNat, l0, l_eq, l_lt, l_le]) <;> omega)) (h_bind n2 (h_bind (k_bringsN a2 hc) ?_)), g2, Gn_trans a3 g3⟩
    exact g1
  · obtain ⟨S5, m1, m2⟩ := k_brings a2 hN n2 hc
    obtain ⟨S2, g1, g2, g3⟩ := g _ S5 m2 (by unfold brS; rw [if_neg (by omega), n1, Int.toNat_natCast])
    refine ⟨S2, h_pos (by first | omega | ((simp (disch := omega) only [i0, i1, i_lt, i_le, i_eq, i_add, i_sub, i_mul, i_neg, i_ofNat, i_rem, i_div, w_in, w_in2, w_cnt, w_cnt2, z01, z01', il, li, lc_ge, lc_le, lc_gt, lc_lt, lc_eq, l_ofNat, l0, l_eq, l_lt, l_le]) <;> omega)) (h_bind n3 (h_pos n2.1 (h_bind m1 ?_))), g2, Gn_trans a3 g3⟩
    exact g1
end PMS
