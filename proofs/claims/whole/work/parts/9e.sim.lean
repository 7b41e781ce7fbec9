/-! ===== the reference's pile on its cells ===== -/
theorem w_day : fX12_w3 (Int32.ofInt 100) (Int32.ofInt 97) (Int32.ofInt 121) = Int64.ofInt (wcd 0) := by decide +kernel
theorem w_fund : fX12_w4 (Int32.ofInt 102) (Int32.ofInt 117) (Int32.ofInt 110) (Int32.ofInt 100) = Int64.ofInt (wcd 1) := by decide +kernel
theorem w_last : fX12_w4 (Int32.ofInt 108) (Int32.ofInt 97) (Int32.ofInt 115) (Int32.ofInt 116) = Int64.ofInt (wcd 2) := by decide +kernel
theorem w_gone : fX12_w4 (Int32.ofInt 103) (Int32.ofInt 111) (Int32.ofInt 110) (Int32.ofInt 101) = Int64.ofInt (wcd 3) := by decide +kernel
theorem w_number : fX12_w6 (Int32.ofInt 110) (Int32.ofInt 117) (Int32.ofInt 109) (Int32.ofInt 98) (Int32.ofInt 101) (Int32.ofInt 114) = Int64.ofInt (wcd 4) := by decide +kernel
theorem w_odds : fX12_w4 (Int32.ofInt 111) (Int32.ofInt 100) (Int32.ofInt 100) (Int32.ofInt 115) = Int64.ofInt (wcd 5) := by decide +kernel
theorem w_period : fX12_w6 (Int32.ofInt 112) (Int32.ofInt 101) (Int32.ofInt 114) (Int32.ofInt 105) (Int32.ofInt 111) (Int32.ofInt 100) = Int64.ofInt (wcd 6) := by decide +kernel
theorem w_count : fX12_w5 (Int32.ofInt 99) (Int32.ofInt 111) (Int32.ofInt 117) (Int32.ofInt 110) (Int32.ofInt 116) = Int64.ofInt (wcd 7) := by decide +kernel
theorem w_thing : fX12_w5 (Int32.ofInt 116) (Int32.ofInt 104) (Int32.ofInt 105) (Int32.ofInt 110) (Int32.ofInt 103) = Int64.ofInt (wcd 8) := by decide +kernel
theorem w_rhyme : fX12_w5 (Int32.ofInt 114) (Int32.ofInt 104) (Int32.ofInt 121) (Int32.ofInt 109) (Int32.ofInt 101) = Int64.ofInt (wcd 9) := by decide +kernel
theorem w_came : fX12_w4 (Int32.ofInt 99) (Int32.ofInt 97) (Int32.ofInt 109) (Int32.ofInt 101) = Int64.ofInt (wcd 10) := by decide +kernel
theorem w_not : fX12_w3 (Int32.ofInt 110) (Int32.ofInt 111) (Int32.ofInt 116) = Int64.ofInt (wcd 11) := by decide +kernel
theorem w_and : fX12_w3 (Int32.ofInt 97) (Int32.ofInt 110) (Int32.ofInt 100) = Int64.ofInt (wcd 12) := by decide +kernel
theorem w_or : fX12_w2 (Int32.ofInt 111) (Int32.ofInt 114) = Int64.ofInt (wcd 13) := by decide +kernel
theorem w_if : fX12_w2 (Int32.ofInt 105) (Int32.ofInt 102) = Int64.ofInt (wcd 14) := by decide +kernel
theorem w_then : fX12_w4 (Int32.ofInt 116) (Int32.ofInt 104) (Int32.ofInt 101) (Int32.ofInt 110) = Int64.ofInt (wcd 15) := by decide +kernel
theorem w_else : fX12_w4 (Int32.ofInt 101) (Int32.ofInt 108) (Int32.ofInt 115) (Int32.ofInt 101) = Int64.ofInt (wcd 16) := by decide +kernel
theorem w_end : fX12_w3 (Int32.ofInt 101) (Int32.ofInt 110) (Int32.ofInt 100) = Int64.ofInt (wcd 17) := by decide +kernel
theorem w_chance : fX12_w6 (Int32.ofInt 99) (Int32.ofInt 104) (Int32.ofInt 97) (Int32.ofInt 110) (Int32.ofInt 99) (Int32.ofInt 101) = Int64.ofInt (wcd 18) := by decide +kernel
theorem w_brings : fX12_w6 (Int32.ofInt 98) (Int32.ofInt 114) (Int32.ofInt 105) (Int32.ofInt 110) (Int32.ofInt 103) (Int32.ofInt 115) = Int64.ofInt (wcd 19) := by decide +kernel
theorem w_bird : fX12_w4 (Int32.ofInt 98) (Int32.ofInt 105) (Int32.ofInt 114) (Int32.ofInt 100) = Int64.ofInt (wcd 20) := by decide +kernel
theorem w_thin : fX12_w4 (Int32.ofInt 116) (Int32.ofInt 104) (Int32.ofInt 105) (Int32.ofInt 110) = Int64.ofInt (wcd 21) := by decide +kernel
theorem w_call : fX12_w4 (Int32.ofInt 99) (Int32.ofInt 97) (Int32.ofInt 108) (Int32.ofInt 108) = Int64.ofInt (wcd 22) := by decide +kernel
theorem w_grant : fX12_w5 (Int32.ofInt 103) (Int32.ofInt 114) (Int32.ofInt 97) (Int32.ofInt 110) (Int32.ofInt 116) = Int64.ofInt (wcd 23) := by decide +kernel
theorem w_by : fX12_w2 (Int32.ofInt 98) (Int32.ofInt 121) = Int64.ofInt (wcd 24) := by decide +kernel
theorem q_rank {x : Int} (h : 0 ≤ x ∧ x ≤ 100) : fX12_rank (Int32.ofInt x) = Int32.ofInt (rkO x) := by
  unfold fX12_rank rkO
  simp (disch := omega) only [i_lt, i_eq]
  repeat' split
  all_goals first | rfl | omega
def plG (g : Nat → Int32) : List Int → Prop
  | [] => True
  | x :: P => g P.length = Int32.ofInt x ∧ plG g P
theorem plG_upd {g : Nat → Int32} {k : Nat} {v : Int32} : ∀ {P : List Int}, plG g P → P.length ≤ k → plG (upd g k v) P
  | [], _, _ => trivial
  | x :: P, h, hk => by
    have hk : P.length + 1 ≤ k := hk
    exact ⟨by rw [upd_ne (by omega)]; exact h.1, plG_upd h.2 (by omega)⟩
/-- pile, opens, code on the reference's cells -/
def rZ (S : yS) (t : Nat) (z : uZ) : Prop := S.1 265 12 = Int32.ofInt ((681 * t : Nat) : Int) ∧ S.1 265 16 = Int32.ofInt (z.1.length : Int) ∧ plG (S.2.2.1 270) z.1 ∧ S.1 265 17 = Int32.ofInt z.2.1 ∧ S.1 265 13 = Int32.ofInt (z.2.2.2 : Int) ∧ ∀ j, j < z.2.2.2 → cdR S t j = z.2.2.1 j
def elG (P : List Int) : Prop := ∀ x ∈ P, 2 ≤ x ∧ x ≤ 43
theorem okp_el : ∀ {P : List Int}, okp P → elG P
  | [], _ => fun x hx => absurd hx (by simp)
  | y :: P, h => fun x hx => by
    rcases List.mem_cons.mp hx with rfl | hx
    · exact h.2.2
    · exact okp_el h.1 x hx
/-- what the pile's work may change -/
def Fs (t r : Nat) (S S' : yS) : Prop := (∀ i, i ≠ 265 → S'.1 i = S.1 i) ∧ (∀ j, j ≠ 13 → j ≠ 16 → j ≠ 17 → S'.1 265 j = S.1 265 j) ∧ S'.2.1 = S.2.1 ∧ (∀ i, i ≠ 268 → S'.2.2.1 i = S.2.2.1 i) ∧ (∀ k, k < 681 * t + 73 + 2 * r ∨ 681 * t + 681 ≤ k → S'.2.2.1 268 k = S.2.2.1 268 k) ∧ S'.2.2.2 = S.2.2.2
theorem Fs_refl {t r : Nat} (S : yS) : Fs t r S S := ⟨fun _ _ => rfl, fun _ _ _ _ => rfl, rfl, fun _ _ => rfl, fun _ _ => rfl, rfl⟩
theorem Fs_trans {t r r' : Nat} {S S1 S2 : yS} (h1 : Fs t r S S1) (h2 : Fs t r' S1 S2) (h : r ≤ r') : Fs t r S S2 := ⟨fun i a => (h2.1 i a).trans (h1.1 i a), fun j a b c => (h2.2.1 j a b c).trans (h1.2.1 j a b c), h2.2.2.1.trans h1.2.2.1, fun i a => (h2.2.2.2.1 i a).trans (h1.2.2.2.1 i a), fun k a => (h2.2.2.2.2.1 k (by omega)).trans (h1.2.2.2.2.1 k a), h2.2.2.2.2.2.trans h1.2.2.2.2.2⟩
theorem Fs_i {t r : Nat} {S : yS} {j : Nat} {v : Int32} (h : j = 13 ∨ j = 16 ∨ j = 17) : Fs t r S (ySi S 265 j v) := ⟨fun i a => fld_o a, fun k a b c => fld_ne (by omega), rfl, fun _ _ => rfl, fun _ _ => rfl, rfl⟩
section SIM
variable {S : yS} {t N : Nat} {z : uZ}
theorem q_emit (h : rZ S t z) (ht : t < 4) (hr : z.2.2.2 < 302) {a b : Int} (ha : -2147483648 ≤ a ∧ a < 2147483648) (hb : -2147483648 ≤ b ∧ b < 2147483648) : ∃ S', fX12_emit (Int32.ofInt a) (Int32.ofInt b) S = some S' ∧ rZ S' t (z.1, z.2.1, cU z.2.2.1 z.2.2.2 (a, b), z.2.2.2 + 1) ∧ Fs t z.2.2.2 S S' := by
  obtain ⟨h1, h2, h3, h4, h5, h6⟩ := h
  generalize hr' : z.2.2.2 = r at *
  have e1 : ∀ X : yS, X.1 265 12 = S.1 265 12 → X.1 265 13 = S.1 265 13 → (X.1 265 12 + Int32.ofInt 73) + (Int32.ofInt 2 * X.1 265 13) = Int32.ofInt ((681 * t + 73 + 2 * r : Nat) : Int) := fun X a b => by
    rw [a, b, h1, h5, i_add, i_mul, i_add, show ((681 * t : Nat) : Int) + 73 + 2 * (r : Int) = ((681 * t + 73 + 2 * r : Nat) : Int) by omega]
  refine ⟨ySi (ySa S 268 (upd (upd (S.2.2.1 268) (681 * t + 73 + 2 * r) (Int32.ofInt a)) (681 * t + 73 + 2 * r + 1) (Int32.ofInt b))) 265 13 (Int32.ofInt ((r + 1 : Nat) : Int)), ?_, ?_, ?_⟩
  · unfold fX12_emit
    rw [e1 S rfl rfl]
    refine h_ainN (by omega) (by omega) (h_pst ?_)
    rw [e1 (ySa S 268 (upd (S.2.2.1 268) (681 * t + 73 + 2 * r) (Int32.ofInt a))) rfl rfl, i_add, show ((681 * t + 73 + 2 * r : Nat) : Int) + 1 = ((681 * t + 73 + 2 * r + 1 : Nat) : Int) by omega]
    refine h_ainN (by omega) (by omega) (h_pst (h_pst ?_))
    rw [ySa_at, ySa_ySa, ySa_1, h5, i_add, show (r : Int) + 1 = ((r + 1 : Nat) : Int) by omega]
  · refine ⟨?_, ?_, ?_, ?_, ?_, fun j hj => ?_⟩
    · rw [fld_ne (by omega)]; exact h1
    · rw [fld_ne (by omega)]; exact h2
    · rw [ySi_2, ySa_ne _ _ (by omega)]; exact h3
    · rw [fld_ne (by omega)]; exact h4
    · exact fld_at
    · dsimp only at hj ⊢
      unfold cdR cU
      unfold rv
      rw [ySi_2, ySa_at]
      by_cases q : j = r
      · rw [if_pos q, q, upd_ne (by omega), upd_at, upd_at, i_toInt ha.1 ha.2, i_toInt hb.1 hb.2]
      · rw [if_neg q, upd_ne (by omega), upd_ne (by omega), upd_ne (by omega), upd_ne (by omega)]
        exact h6 j (by omega)
  · refine ⟨fun i a => fld_o a, fun j a b c => by rw [fld_ne a]; rfl, rfl, fun i a => by rw [ySi_2, ySa_ne _ _ a], fun k hk => ?_, rfl⟩
    rw [ySi_2, ySa_at, upd_ne (by omega), upd_ne (by omega)]
theorem q_settleL (ht : t < 4) {L : Int} (hL : 1 ≤ L ∧ L ≤ 7) : ∀ (P : List Int) (fu : Nat) (o : Int) (c : Nat → Int × Int) (r : Nat) (S : yS), rZ S t (P, o, c, r) → P.length < fu → elG P → r + P.length ≤ 301 → P.length < 160 → -200 + P.length ≤ o ∧ o ≤ 8 → ∃ S', lX12_settle N fu (Int32.ofInt L) S = some S' ∧ rZ S' t (stl L P o c r) ∧ Fs t r S S'
  | [], 0, o, c, r, S, h, hf, he, hr, hp, ho => absurd hf (Nat.not_lt_zero _)
  | x :: P, 0, o, c, r, S, h, hf, he, hr, hp, ho => absurd hf (Nat.not_lt_zero _)
  | [], fu + 1, o, c, r, S, h, hf, he, hr, hp, ho => by
    refine ⟨S, ?_, h, Fs_refl S⟩
    have h16 : S.1 265 16 = Int32.ofInt 0 := h.2.1
    rw [lX12_settle, h16]
    exact h_pos (by decide) rfl
  | x :: P, fu + 1, o, c, r, S, h, hf, he, hr, hp, ho => by
    have hx := he x (by simp)
    have hrk := rkO_rng x
    have hl : (x :: P).length = P.length + 1 := rfl
    rw [hl] at hf hr hp ho
    have h16 : S.1 265 16 = Int32.ofInt ((P.length + 1 : Nat) : Int) := h.2.1
    have hg : S.2.2.1 270 P.length = Int32.ofInt x := h.2.2.1.1
    by_cases q : rkO x < L
    · have e : stl L (x :: P) o c r = (x :: P, o, c, r) := if_pos q
      rw [e]
      refine ⟨S, ?_, h, Fs_refl S⟩
      rw [lX12_settle, h16, i_sub, show ((P.length + 1 : Nat) : Int) - 1 = (P.length : Int) by omega]
      refine h_neg (by first | omega | ((simp (disch := omega) only [i0, i1, i_lt, i_le, i_eq, i_add, i_sub, i_mul, i_neg, i_ofNat, i_rem, i_div, w_in, w_in2, w_cnt, w_cnt2, z01, z01', il, li, lc_ge, lc_le, lc_gt, lc_lt, lc_eq, l_ofNat, l0, l_eq, l_lt, l_le]) <;> omega)) (h_ainN (by omega) (by omega) ?_)
      rw [hg, q_rank (by omega)]
      exact h_pos (by first | omega | ((simp (disch := omega) only [i0, i1, i_lt, i_le, i_eq, i_add, i_sub, i_mul, i_neg, i_ofNat, i_rem, i_div, w_in, w_in2, w_cnt, w_cnt2, z01, z01', il, li, lc_ge, lc_le, lc_gt, lc_lt, lc_eq, l_ofNat, l0, l_eq, l_lt, l_le]) <;> omega)) rfl
    · have e : stl L (x :: P) o c r = stl L P (if rkO x = 7 ∨ x = 20 then o - 1 else o) (cU c r (x, 0)) (r + 1) := if_neg q
      rw [e]
      have z1 : rZ (ySi S 265 16 (Int32.ofInt (P.length : Int))) t (P, o, c, r) := ⟨by rw [fld_ne (by omega)]; exact h.1, fld_at, h.2.2.1.2, by rw [fld_ne (by omega)]; exact h.2.2.2.1, by rw [fld_ne (by omega)]; exact h.2.2.2.2.1, h.2.2.2.2.2⟩
      obtain ⟨S1, m1, m2, m3⟩ := q_emit z1 ht (by show r < 302; omega) (a := x) (b := 0) (by omega) (by omega)
      have m3 : Fs t r (ySi S 265 16 (Int32.ofInt (P.length : Int))) S1 := m3
      have e16 : S1.1 265 16 = Int32.ofInt (P.length : Int) := m2.2.1
      have e270 : S1.2.2.1 270 P.length = Int32.ofInt x := by rw [m3.2.2.2.1 270 (by omega)]; exact hg
      have hgo : ∀ {X : Option yS}, (if (Int32.ofInt (rkO x)) = (Int32.ofInt 7) then pSt (ySi S1 265 17 ((S1.1 265 17) - (Int32.ofInt 1))) fun S7 => lX12_settle N fu (Int32.ofInt L) S7 else (ain 160 (Int32.ofInt (P.length : Int))).bind fun j8 => (if ¬ (S1.2.2.1 270 j8) = (Int32.ofInt 20) then lX12_settle N fu (Int32.ofInt L) S1 else pSt (ySi S1 265 17 ((S1.1 265 17) - (Int32.ofInt 1))) fun S9 => lX12_settle N fu (Int32.ofInt L) S9)) = X → lX12_settle N (fu + 1) (Int32.ofInt L) S = X := by
        intro X hX
        rw [lX12_settle, h16, i_sub, show ((P.length + 1 : Nat) : Int) - 1 = (P.length : Int) by omega]
        refine h_neg (by first | omega | ((simp (disch := omega) only [i0, i1, i_lt, i_le, i_eq, i_add, i_sub, i_mul, i_neg, i_ofNat, i_rem, i_div, w_in, w_in2, w_cnt, w_cnt2, z01, z01', il, li, lc_ge, lc_le, lc_gt, lc_lt, lc_eq, l_ofNat, l0, l_eq, l_lt, l_le]) <;> omega)) (h_ainN (by omega) (by omega) ?_)
        rw [hg, q_rank (by omega)]
        refine h_neg (by first | omega | ((simp (disch := omega) only [i0, i1, i_lt, i_le, i_eq, i_add, i_sub, i_mul, i_neg, i_ofNat, i_rem, i_div, w_in, w_in2, w_cnt, w_cnt2, z01, z01', il, li, lc_ge, lc_le, lc_gt, lc_lt, lc_eq, l_ofNat, l0, l_eq, l_lt, l_le]) <;> omega)) (h_pst ?_)
        rw [fld_at]
        refine h_ainN (by omega) (by omega) ?_
        rw [ySi_2, hg]
        refine h_bind m1 ?_
        rw [e16]
        refine h_ainN (by omega) (by omega) ?_
        rw [e270, q_rank (by omega)]
        exact hX
      by_cases op : rkO x = 7 ∨ x = 20
      · rw [if_pos op]
        have z2 : rZ (ySi S1 265 17 (Int32.ofInt (o - 1))) t (P, o - 1, cU c r (x, 0), r + 1) := ⟨by rw [fld_ne (by omega)]; exact m2.1, by rw [fld_ne (by omega)]; exact m2.2.1, m2.2.2.1, fld_at, by rw [fld_ne (by omega)]; exact m2.2.2.2.2.1, m2.2.2.2.2.2⟩
        obtain ⟨S2, g1, g2, g3⟩ := q_settleL ht hL P fu (o - 1) (cU c r (x, 0)) (r + 1) _ z2 (by omega) (fun y hy => he y (by simp [hy])) (by omega) (by omega) (by omega)
        have e17 : S1.1 265 17 = Int32.ofInt o := m2.2.2.2.1
        refine ⟨S2, hgo ?_, g2, Fs_trans (Fs_trans (Fs_i (by omega)) m3 (Nat.le_refl _)) (Fs_trans (Fs_i (by omega)) g3 (Nat.le_refl _)) (by omega)⟩
        rw [e17, i_sub]
        by_cases r7 : rkO x = 7
        · exact h_pos (by first | omega | ((simp (disch := omega) only [i0, i1, i_lt, i_le, i_eq, i_add, i_sub, i_mul, i_neg, i_ofNat, i_rem, i_div, w_in, w_in2, w_cnt, w_cnt2, z01, z01', il, li, lc_ge, lc_le, lc_gt, lc_lt, lc_eq, l_ofNat, l0, l_eq, l_lt, l_le]) <;> omega)) g1
        · refine h_neg (by first | omega | ((simp (disch := omega) only [i0, i1, i_lt, i_le, i_eq, i_add, i_sub, i_mul, i_neg, i_ofNat, i_rem, i_div, w_in, w_in2, w_cnt, w_cnt2, z01, z01', il, li, lc_ge, lc_le, lc_gt, lc_lt, lc_eq, l_ofNat, l0, l_eq, l_lt, l_le]) <;> omega)) (h_ainN (by omega) (by omega) ?_)
          rw [e270]
          exact h_neg (by first | omega | ((simp (disch := omega) only [i0, i1, i_lt, i_le, i_eq, i_add, i_sub, i_mul, i_neg, i_ofNat, i_rem, i_div, w_in, w_in2, w_cnt, w_cnt2, z01, z01', il, li, lc_ge, lc_le, lc_gt, lc_lt, lc_eq, l_ofNat, l0, l_eq, l_lt, l_le]) <;> omega)) g1
      · rw [if_neg op]
        obtain ⟨S2, g1, g2, g3⟩ := q_settleL ht hL P fu o (cU c r (x, 0)) (r + 1) S1 m2 (by omega) (fun y hy => he y (by simp [hy])) (by omega) (by omega) (by omega)
        refine ⟨S2, hgo ?_, g2, Fs_trans (Fs_trans (Fs_i (by omega)) m3 (Nat.le_refl _)) g3 (by omega)⟩
        refine h_neg (by first | omega | ((simp (disch := omega) only [i0, i1, i_lt, i_le, i_eq, i_add, i_sub, i_mul, i_neg, i_ofNat, i_rem, i_div, w_in, w_in2, w_cnt, w_cnt2, z01, z01', il, li, lc_ge, lc_le, lc_gt, lc_lt, lc_eq, l_ofNat, l0, l_eq, l_lt, l_le]) <;> omega)) (h_ainN (by omega) (by omega) ?_)
        rw [e270]
        exact h_pos (by first | omega | ((simp (disch := omega) only [i0, i1, i_lt, i_le, i_eq, i_add, i_sub, i_mul, i_neg, i_ofNat, i_rem, i_div, w_in, w_in2, w_cnt, w_cnt2, z01, z01', il, li, lc_ge, lc_le, lc_gt, lc_lt, lc_eq, l_ofNat, l0, l_eq, l_lt, l_le]) <;> omega)) g1
theorem q_settle (hN : 2000000 ≤ N) (ht : t < 4) {L : Int} (hL : 1 ≤ L ∧ L ≤ 7) (h : rZ S t z) (he : elG z.1) (hr : z.2.2.2 + z.1.length ≤ 301) (hp : z.1.length < 160) (ho : 0 ≤ z.2.1 ∧ z.2.1 ≤ 8) : ∃ S', fX12_settle N (Int32.ofInt L) S = some S' ∧ rZ S' t (stZ L z) ∧ Fs t z.2.2.2 S S' := q_settleL ht hL z.1 N z.2.1 z.2.2.1 z.2.2.2 S h (by omega) he hr hp (by omega)
/-! asking the pile -/
theorem q_opL : ∀ (P : List Int) (fu : Nat), plG (S.2.2.1 270) P → P.length < fu → P.length < 160 → elG P → ∃ i : Int, lX12_openAt N fu (Int32.ofInt ((P.length : Int) - 1)) S = some (Int32.ofInt i) ∧ ((i = -1 ∧ opN P = -1) ∨ (∃ k : Nat, i = k ∧ k < P.length ∧ S.2.2.1 270 k = Int32.ofInt (opN P) ∧ 40 ≤ opN P ∧ opN P ≤ 43))
  | [], fu + 1, h, hf, hp, he => by
    refine ⟨-1, ?_, Or.inl ⟨rfl, rfl⟩⟩
    rw [lX12_openAt]
    exact h_pos (by decide) rfl
  | x :: P, fu + 1, h, hf, hp, he => by
    have hl : (x :: P).length = P.length + 1 := rfl
    have hx := he x (by simp)
    rw [hl] at hf hp ⊢
    rw [lX12_openAt, show ((P.length + 1 : Nat) : Int) - 1 = (P.length : Int) by omega]
    by_cases q : 40 ≤ x
    · have e2 : opN (x :: P) = x := if_pos q
      rw [e2]
      refine ⟨(P.length : Int), h_neg (by first | omega | ((simp (disch := omega) only [i0, i1, i_lt, i_le, i_eq, i_add, i_sub, i_mul, i_neg, i_ofNat, i_rem, i_div, w_in, w_in2, w_cnt, w_cnt2, z01, z01', il, li, lc_ge, lc_le, lc_gt, lc_lt, lc_eq, l_ofNat, l0, l_eq, l_lt, l_le]) <;> omega)) (h_ainN (by omega) (by omega) ?_), Or.inr ⟨P.length, rfl, by omega, h.1, q, hx.2⟩⟩
      rw [h.1]
      exact h_pos (by first | omega | ((simp (disch := omega) only [i0, i1, i_lt, i_le, i_eq, i_add, i_sub, i_mul, i_neg, i_ofNat, i_rem, i_div, w_in, w_in2, w_cnt, w_cnt2, z01, z01', il, li, lc_ge, lc_le, lc_gt, lc_lt, lc_eq, l_ofNat, l0, l_eq, l_lt, l_le]) <;> omega)) rfl
    · have e2 : opN (x :: P) = opN P := if_neg q
      rw [e2]
      obtain ⟨i, g1, g2⟩ := q_opL P fu h.2 (by omega) (by omega) (fun y hy => he y (by simp [hy]))
      refine ⟨i, h_neg (by first | omega | ((simp (disch := omega) only [i0, i1, i_lt, i_le, i_eq, i_add, i_sub, i_mul, i_neg, i_ofNat, i_rem, i_div, w_in, w_in2, w_cnt, w_cnt2, z01, z01', il, li, lc_ge, lc_le, lc_gt, lc_lt, lc_eq, l_ofNat, l0, l_eq, l_lt, l_le]) <;> omega)) (h_ainN (by omega) (by omega) ?_), ?_⟩
      · rw [h.1, i_add, show (P.length : Int) + -1 = (P.length : Int) - 1 by omega]
        exact h_neg (by first | omega | ((simp (disch := omega) only [i0, i1, i_lt, i_le, i_eq, i_add, i_sub, i_mul, i_neg, i_ofNat, i_rem, i_div, w_in, w_in2, w_cnt, w_cnt2, z01, z01', il, li, lc_ge, lc_le, lc_gt, lc_lt, lc_eq, l_ofNat, l0, l_eq, l_lt, l_le]) <;> omega)) g1
      · rcases g2 with g2 | ⟨k, k1, k2, k3⟩
        · exact Or.inl g2
        · exact Or.inr ⟨k, k1, by omega, k3⟩
theorem q_openA (hN : 2000000 ≤ N) (h : rZ S t z) (hp : z.1.length < 160) (he : elG z.1) : ∃ i : Int, fX12_openAt N S = some (Int32.ofInt i) ∧ ((i = -1 ∧ opN z.1 = -1) ∨ (∃ k : Nat, i = k ∧ k < z.1.length ∧ S.2.2.1 270 k = Int32.ofInt (opN z.1) ∧ 40 ≤ opN z.1 ∧ opN z.1 ≤ 43)) := by
  unfold fX12_openAt
  rw [h.2.1, i_sub]
  exact q_opL z.1 N h.2.2.1 (by omega) hp he
theorem q_openN (hN : 2000000 ≤ N) (h : rZ S t z) (hp : z.1.length < 160) (he : elG z.1) : fX12_openNow N S = some (Int32.ofInt (opN z.1)) := by
  obtain ⟨i, g1, g2⟩ := q_openA hN h hp he
  unfold fX12_openNow
  refine h_bind g1 ?_
  rcases g2 with ⟨a, b⟩ | ⟨k, k1, k2, k3, k4, k5⟩
  · rw [a, b]
    exact h_neg (by decide) rfl
  · refine h_pos (by first | omega | ((simp (disch := omega) only [i0, i1, i_lt, i_le, i_eq, i_add, i_sub, i_mul, i_neg, i_ofNat, i_rem, i_div, w_in, w_in2, w_cnt, w_cnt2, z01, z01', il, li, lc_ge, lc_le, lc_gt, lc_lt, lc_eq, l_ofNat, l0, l_eq, l_lt, l_le]) <;> omega)) (h_bind g1 ?_)
    rw [k1]
    refine h_ainN (by omega) (by omega) ?_
    rw [k3]
theorem q_isCL : ∀ (P : List Int) (fu : Nat), plG (S.2.2.1 270) P → P.length < fu → P.length < 160 → elG P → lX12_isCompared N fu (Int32.ofInt ((P.length : Int) - 1)) S = some (Int32.ofInt (if isC P = true then 1 else 0))
  | [], fu + 1, h, hf, hp, he => by
    rw [lX12_isCompared]
    exact h_pos (by decide) (h_pos (by decide) rfl)
  | x :: P, fu + 1, h, hf, hp, he => by
    have hl : (x :: P).length = P.length + 1 := rfl
    have hx := he x (by simp)
    have hrk := rkO_rng x
    rw [hl] at hf hp ⊢
    rw [lX12_isCompared, show ((P.length + 1 : Nat) : Int) - 1 = (P.length : Int) by omega]
    have e : isC (x :: P) = if rkO x ≤ 4 then decide (rkO x = 4) else isC P := rfl
    refine h_neg (by first | omega | ((simp (disch := omega) only [i0, i1, i_lt, i_le, i_eq, i_add, i_sub, i_mul, i_neg, i_ofNat, i_rem, i_div, w_in, w_in2, w_cnt, w_cnt2, z01, z01', il, li, lc_ge, lc_le, lc_gt, lc_lt, lc_eq, l_ofNat, l0, l_eq, l_lt, l_le]) <;> omega)) (h_ainN (by omega) (by omega) ?_)
    rw [h.1, q_rank (by omega), e]
    by_cases q : rkO x ≤ 4
    · rw [if_pos q]
      refine h_pos (by first | omega | ((simp (disch := omega) only [i0, i1, i_lt, i_le, i_eq, i_add, i_sub, i_mul, i_neg, i_ofNat, i_rem, i_div, w_in, w_in2, w_cnt, w_cnt2, z01, z01', il, li, lc_ge, lc_le, lc_gt, lc_lt, lc_eq, l_ofNat, l0, l_eq, l_lt, l_le]) <;> omega)) (h_neg (by first | omega | ((simp (disch := omega) only [i0, i1, i_lt, i_le, i_eq, i_add, i_sub, i_mul, i_neg, i_ofNat, i_rem, i_div, w_in, w_in2, w_cnt, w_cnt2, z01, z01', il, li, lc_ge, lc_le, lc_gt, lc_lt, lc_eq, l_ofNat, l0, l_eq, l_lt, l_le]) <;> omega)) (h_ainN (by omega) (by omega) ?_))
      rw [h.1, q_rank (by omega)]
      by_cases q4 : rkO x = 4
      · rw [decide_eq_true q4]
        exact h_neg (by first | omega | ((simp (disch := omega) only [i0, i1, i_lt, i_le, i_eq, i_add, i_sub, i_mul, i_neg, i_ofNat, i_rem, i_div, w_in, w_in2, w_cnt, w_cnt2, z01, z01', il, li, lc_ge, lc_le, lc_gt, lc_lt, lc_eq, l_ofNat, l0, l_eq, l_lt, l_le]) <;> omega)) rfl
      · rw [decide_eq_false q4]
        exact h_pos (by first | omega | ((simp (disch := omega) only [i0, i1, i_lt, i_le, i_eq, i_add, i_sub, i_mul, i_neg, i_ofNat, i_rem, i_div, w_in, w_in2, w_cnt, w_cnt2, z01, z01', il, li, lc_ge, lc_le, lc_gt, lc_lt, lc_eq, l_ofNat, l0, l_eq, l_lt, l_le]) <;> omega)) rfl
    · rw [if_neg q]
      refine h_neg (by first | omega | ((simp (disch := omega) only [i0, i1, i_lt, i_le, i_eq, i_add, i_sub, i_mul, i_neg, i_ofNat, i_rem, i_div, w_in, w_in2, w_cnt, w_cnt2, z01, z01', il, li, lc_ge, lc_le, lc_gt, lc_lt, lc_eq, l_ofNat, l0, l_eq, l_lt, l_le]) <;> omega)) ?_
      rw [i_add, show (P.length : Int) + -1 = (P.length : Int) - 1 by omega]
      exact q_isCL P fu h.2 (by omega) (by omega) (fun y hy => he y (by simp [hy]))
theorem q_isC (hN : 2000000 ≤ N) (h : rZ S t z) (hp : z.1.length < 160) (he : elG z.1) : fX12_isCompared N S = some (Int32.ofInt (if isC z.1 = true then 1 else 0)) := by
  unfold fX12_isCompared
  rw [h.2.1, i_sub]
  exact q_isCL z.1 N h.2.2.1 (by omega) hp he
theorem q_ask (hN : 2000000 ≤ N) (h : rZ S t z) (hp : z.1.length < 160) (he : elG z.1) : fX12_isAskAhead N S = some (Int32.ofInt (if opN z.1 = 41 ∧ askT z.1 = true then 1 else 0)) := by
  have hop : -1 ≤ opN z.1 ∧ opN z.1 ≤ 43 := by
    obtain ⟨i, -, g2⟩ := q_openA hN h hp he
    rcases g2 with ⟨a, b⟩ | ⟨k, k1, k2, k3, k4, k5⟩
    · omega
    · omega
  unfold fX12_isAskAhead
  refine h_bind (q_openN hN h hp he) ?_
  by_cases q : opN z.1 = 41
  · refine h_neg (by first | omega | ((simp (disch := omega) only [i0, i1, i_lt, i_le, i_eq, i_add, i_sub, i_mul, i_neg, i_ofNat, i_rem, i_div, w_in, w_in2, w_cnt, w_cnt2, z01, z01', il, li, lc_ge, lc_le, lc_gt, lc_lt, lc_eq, l_ofNat, l0, l_eq, l_lt, l_le]) <;> omega)) ?_
    obtain ⟨P, o, c, r⟩ := z
    dsimp only at *
    cases P with
    | nil => exact absurd q (by decide)
    | cons x P =>
      have hx := he x (by simp)
      have hrk := rkO_rng x
      have hl : (x :: P).length = P.length + 1 := rfl
      have h16 : S.1 265 16 = Int32.ofInt ((P.length + 1 : Nat) : Int) := h.2.1
      have hg : S.2.2.1 270 P.length = Int32.ofInt x := h.2.2.1.1
      rw [hl] at hp
      rw [h16, i_sub, show ((P.length + 1 : Nat) : Int) - 1 = (P.length : Int) by omega]
      refine h_ainN (by omega) (by omega) ?_
      rw [hg]
      have e : askT (x :: P) = decide (40 ≤ x ∨ (1 ≤ rkO x ∧ rkO x ≤ 3)) := rfl
      rw [e]
      by_cases q40 : 40 ≤ x
      · have ei : (if opN (x :: P) = 41 ∧ decide (40 ≤ x ∨ (1 ≤ rkO x ∧ rkO x ≤ 3)) = true then (1 : Int) else 0) = 1 := if_pos ⟨q, decide_eq_true (Or.inl q40)⟩
        rw [ei]
        exact h_pos (by first | omega | ((simp (disch := omega) only [i0, i1, i_lt, i_le, i_eq, i_add, i_sub, i_mul, i_neg, i_ofNat, i_rem, i_div, w_in, w_in2, w_cnt, w_cnt2, z01, z01', il, li, lc_ge, lc_le, lc_gt, lc_lt, lc_eq, l_ofNat, l0, l_eq, l_lt, l_le]) <;> omega)) rfl
      · refine h_neg (by first | omega | ((simp (disch := omega) only [i0, i1, i_lt, i_le, i_eq, i_add, i_sub, i_mul, i_neg, i_ofNat, i_rem, i_div, w_in, w_in2, w_cnt, w_cnt2, z01, z01', il, li, lc_ge, lc_le, lc_gt, lc_lt, lc_eq, l_ofNat, l0, l_eq, l_lt, l_le]) <;> omega)) (h_ainN (by omega) (by omega) ?_)
        rw [hg, q_rank (by omega)]
        by_cases q3 : 1 ≤ rkO x ∧ rkO x ≤ 3
        · have ei : (if opN (x :: P) = 41 ∧ decide (40 ≤ x ∨ (1 ≤ rkO x ∧ rkO x ≤ 3)) = true then (1 : Int) else 0) = 1 := if_pos ⟨q, decide_eq_true (Or.inr q3)⟩
          rw [ei]
          exact h_neg (by first | omega | ((simp (disch := omega) only [i0, i1, i_lt, i_le, i_eq, i_add, i_sub, i_mul, i_neg, i_ofNat, i_rem, i_div, w_in, w_in2, w_cnt, w_cnt2, z01, z01', il, li, lc_ge, lc_le, lc_gt, lc_lt, lc_eq, l_ofNat, l0, l_eq, l_lt, l_le]) <;> omega)) rfl
        · have ei : (if opN (x :: P) = 41 ∧ decide (40 ≤ x ∨ (1 ≤ rkO x ∧ rkO x ≤ 3)) = true then (1 : Int) else 0) = 0 := if_neg (fun y => (of_decide_eq_true y.2).elim q40 q3)
          rw [ei]
          exact h_pos (by first | omega | ((simp (disch := omega) only [i0, i1, i_lt, i_le, i_eq, i_add, i_sub, i_mul, i_neg, i_ofNat, i_rem, i_div, w_in, w_in2, w_cnt, w_cnt2, z01, z01', il, li, lc_ge, lc_le, lc_gt, lc_lt, lc_eq, l_ofNat, l0, l_eq, l_lt, l_le]) <;> omega)) rfl
  · have ei : (if opN z.1 = 41 ∧ askT z.1 = true then (1 : Int) else 0) = 0 := if_neg (fun y => q y.1)
    rw [ei]
    exact h_pos (by first | omega | ((simp (disch := omega) only [i0, i1, i_lt, i_le, i_eq, i_add, i_sub, i_mul, i_neg, i_ofNat, i_rem, i_div, w_in, w_in2, w_cnt, w_cnt2, z01, z01', il, li, lc_ge, lc_le, lc_gt, lc_lt, lc_eq, l_ofNat, l0, l_eq, l_lt, l_le]) <;> omega)) rfl
end SIM
