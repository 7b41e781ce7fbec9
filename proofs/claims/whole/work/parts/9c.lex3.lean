/-! ===== the reference goes on by one token ===== -/
theorem sgc_s {c : Int} (h : 0 ≤ sgI c) : sgc (sgI c + 25) = c := by
  unfold sgI at h ⊢
  repeat' split
  all_goals first
    | (subst_vars; rfl)
    | omega
theorem sgI_c {c : Int} (h : 0 ≤ sgI c) : (sgI c = 0 ↔ c = 60) ∧ (sgI c = 1 ↔ c = 62) := by
  unfold sgI at h ⊢
  repeat' split
  all_goals omega
section NXT
variable {S : yS} {f : Nat → Int} {n N : Nat}
/-- what a token at a byte is to the reference -/
def atD (S : yS) (f : Nat → Int) (n p : Nat) : Prop := S.1 265 8 = Int32.ofInt (p : Int) ∧ (if p < n then S.1 265 7 = Int32.ofInt ((tkA f n p).2.2 : Int) ∧ tD S (tkA f n p).1 (tkA f n p).2.1 else S.1 265 7 = Int32.ofInt (n : Int) ∧ tD S 40 0)
/-- the sign at hand, as nextToken takes it -/
theorem q_sig (hS : rtG S f n) {a : Nat} (ha : a < n) (h7 : S.1 265 7 = Int32.ofInt (a : Int)) (h8 : S.1 265 8 = Int32.ofInt (a : Int)) (h1 : lxL (f a) = false) (h2 : lxD (f a) = false) (X : yS → Option yS) (hX : ∀ S', X S' = (if Int32.ofInt (f a) = (Int32.ofInt 60) then (fX12_byteAt (S'.1 265 7) S').bind fun u28 => (if ¬ u28 = (Int32.ofInt 61) then some S' else (if ¬ Int32.ofInt (f a) = (Int32.ofInt 60) then pSt (ySi S' 265 9 (Int32.ofInt 5)) fun S29 => pSt (ySi S29 265 7 ((S29.1 265 7) + (Int32.ofInt 1))) fun S30 => some S30 else pSt (ySi S' 265 9 (Int32.ofInt 4)) fun S31 => pSt (ySi S31 265 7 ((S31.1 265 7) + (Int32.ofInt 1))) fun S32 => some S32)) else (if ¬ Int32.ofInt (f a) = (Int32.ofInt 62) then some S' else (fX12_byteAt (S'.1 265 7) S').bind fun u34 => (if ¬ u34 = (Int32.ofInt 61) then some S' else (if ¬ Int32.ofInt (f a) = (Int32.ofInt 60) then pSt (ySi S' 265 9 (Int32.ofInt 5)) fun S35 => pSt (ySi S35 265 7 ((S35.1 265 7) + (Int32.ofInt 1))) fun S36 => some S36 else pSt (ySi S' 265 9 (Int32.ofInt 4)) fun S37 => pSt (ySi S37 265 7 ((S37.1 265 7) + (Int32.ofInt 1))) fun S38 => some S38))))) : ∃ S', X (ySi (ySi S 265 9 (Int32.ofInt (if isG (f a) = true then f a else 3))) 265 7 (Int32.ofInt ((a + 1 : Nat) : Int))) = some S' ∧ Fk S S' ∧ atD S' f n a := by
  have hn := hS.1
  have hb := hS.2.2.2 a ha
  have hsr := sgI_rng (f a)
  have hF : Fk S (ySi (ySi S 265 9 (Int32.ofInt (if isG (f a) = true then f a else 3))) 265 7 (Int32.ofInt ((a + 1 : Nat) : Int))) := Fk_trans (Fk_i (by omega)) (Fk_i (by omega))
  have tkE : tkA f n a = if sgI (f a) < 0 then (39, 0, a + 1) else if sgI (f a) ≤ 1 ∧ a + 1 < n ∧ f (a + 1) = 61 then (sgI (f a) + 36, 0, a + 2) else (sgI (f a) + 25, 0, a + 1) := by
    unfold tkA
    rw [h1, h2, if_neg (by decide), if_neg (by decide)]
  have by1 : fX12_byteAt (Int32.ofInt ((a + 1 : Nat) : Int)) (ySi (ySi S 265 9 (Int32.ofInt (if isG (f a) = true then f a else 3))) 265 7 (Int32.ofInt ((a + 1 : Nat) : Int))) = some (Int32.ofInt (if a + 1 < n then f (a + 1) else -1)) := q_byte (rtG_k hS hF) (by omega)
  have hb1 : -1 ≤ (if a + 1 < n then f (a + 1) else -1) ∧ (if a + 1 < n then f (a + 1) else -1) ≤ 255 := by
    by_cases q : a + 1 < n
    · rw [if_pos q]; have := hS.2.2.2 (a + 1) q; omega
    · rw [if_neg q]; omega
  rw [hX]
  by_cases s0 : sgI (f a) < 0
  · -- no sign of the class
    have c60 : f a ≠ 60 := fun q => by rw [q] at s0; exact absurd s0 (by decide)
    have c62 : f a ≠ 62 := fun q => by rw [q] at s0; exact absurd s0 (by decide)
    rw [if_pos s0] at tkE
    refine ⟨_, h_neg (by first | omega | ((simp (disch := omega) only [i0, i1, i_lt, i_le, i_eq, i_add, i_sub, i_mul, i_neg, i_ofNat, i_rem, i_div, w_in, w_in2, w_cnt, w_cnt2, z01, z01', il, li, lc_ge, lc_le, lc_gt, lc_lt, lc_eq, l_ofNat, l0, l_eq, l_lt, l_le]) <;> omega)) (h_pos (by first | omega | ((simp (disch := omega) only [i0, i1, i_lt, i_le, i_eq, i_add, i_sub, i_mul, i_neg, i_ofNat, i_rem, i_div, w_in, w_in2, w_cnt, w_cnt2, z01, z01', il, li, lc_ge, lc_le, lc_gt, lc_lt, lc_eq, l_ofNat, l0, l_eq, l_lt, l_le]) <;> omega)) rfl), hF, ?_⟩
    refine ⟨by rw [fld_ne (by omega), fld_ne (by omega)]; exact h8, ?_⟩
    rw [if_pos ha, tkE]
    refine ⟨fld_at, Or.inr (Or.inr (Or.inr (Or.inr ⟨rfl, ?_⟩)))⟩
    rw [fld_ne (by omega), fld_at]
    by_cases g : isG (f a) = true
    · have : f a = 58 := by
        have := of_decide_eq_true g
        omega
      rw [if_pos g, this]
      exact Or.inr (Or.inl rfl)
    · rw [if_neg g]
      exact Or.inl rfl
  · have g : isG (f a) = true := decide_eq_true (Or.inl (by omega))
    obtain ⟨k0, k1⟩ := sgI_c (c := f a) (by omega)
    have ks := sgc_s (c := f a) (by omega)
    rw [if_neg s0] at tkE
    rw [if_pos g] at hF by1 ⊢
    have fin25 : ¬ (sgI (f a) ≤ 1 ∧ a + 1 < n ∧ f (a + 1) = 61) → atD (ySi (ySi S 265 9 (Int32.ofInt (f a))) 265 7 (Int32.ofInt ((a + 1 : Nat) : Int))) f n a := fun c => by
      rw [if_neg c] at tkE
      refine ⟨by rw [fld_ne (by omega), fld_ne (by omega)]; exact h8, ?_⟩
      rw [if_pos ha, tkE]
      refine ⟨fld_at, Or.inr (Or.inr (Or.inr (Or.inl ⟨by dsimp only; omega, ?_⟩)))⟩
      rw [fld_ne (by omega), fld_at]
      dsimp only
      rw [ks]
    by_cases c60 : f a = 60
    · by_cases nx : a + 1 < n ∧ f (a + 1) = 61
      · have c : sgI (f a) ≤ 1 ∧ a + 1 < n ∧ f (a + 1) = 61 := ⟨by have := k0.mpr c60; omega, nx⟩
        rw [if_pos c] at tkE
        rw [if_pos nx.1, nx.2] at by1
        refine ⟨ySi (ySi (ySi (ySi S 265 9 (Int32.ofInt (f a))) 265 7 (Int32.ofInt ((a + 1 : Nat) : Int))) 265 9 (Int32.ofInt 4)) 265 7 (Int32.ofInt ((a + 2 : Nat) : Int)), ?_, Fk_trans hF (Fk_trans (Fk_i (by omega)) (Fk_i (by omega))), ?_⟩
        · refine h_pos (by first | omega | ((simp (disch := omega) only [i0, i1, i_lt, i_le, i_eq, i_add, i_sub, i_mul, i_neg, i_ofNat, i_rem, i_div, w_in, w_in2, w_cnt, w_cnt2, z01, z01', il, li, lc_ge, lc_le, lc_gt, lc_lt, lc_eq, l_ofNat, l0, l_eq, l_lt, l_le]) <;> omega)) ?_
          rw [fld_at]
          refine h_bind by1 (h_neg (fun q => q rfl) (h_neg (by first | omega | ((simp (disch := omega) only [i0, i1, i_lt, i_le, i_eq, i_add, i_sub, i_mul, i_neg, i_ofNat, i_rem, i_div, w_in, w_in2, w_cnt, w_cnt2, z01, z01', il, li, lc_ge, lc_le, lc_gt, lc_lt, lc_eq, l_ofNat, l0, l_eq, l_lt, l_le]) <;> omega)) (h_pst (h_pst ?_))))
          rw [fld_ne (show 7 ≠ 9 by omega), fld_at, i_add, show ((a + 1 : Nat) : Int) + 1 = ((a + 2 : Nat) : Int) by omega]
        · refine ⟨by rw [fld_ne (by omega), fld_ne (by omega), fld_ne (by omega), fld_ne (by omega)]; exact h8, ?_⟩
          rw [if_pos ha, tkE]
          refine ⟨fld_at, Or.inr (Or.inr (Or.inr (Or.inl ⟨by dsimp only; omega, ?_⟩)))⟩
          rw [fld_ne (by omega), fld_at]
          dsimp only
          rw [k0.mpr c60]
          rfl
      · have c : ¬ (sgI (f a) ≤ 1 ∧ a + 1 < n ∧ f (a + 1) = 61) := fun q => nx q.2
        have bne : (if a + 1 < n then f (a + 1) else -1) ≠ 61 := by
          by_cases q : a + 1 < n
          · rw [if_pos q]; exact fun q2 => nx ⟨q, q2⟩
          · rw [if_neg q]; omega
        refine ⟨_, h_pos (by first | omega | ((simp (disch := omega) only [i0, i1, i_lt, i_le, i_eq, i_add, i_sub, i_mul, i_neg, i_ofNat, i_rem, i_div, w_in, w_in2, w_cnt, w_cnt2, z01, z01', il, li, lc_ge, lc_le, lc_gt, lc_lt, lc_eq, l_ofNat, l0, l_eq, l_lt, l_le]) <;> omega)) ?_, hF, fin25 c⟩
        rw [fld_at]
        exact h_bind by1 (h_pos (by first | omega | ((simp (disch := omega) only [i0, i1, i_lt, i_le, i_eq, i_add, i_sub, i_mul, i_neg, i_ofNat, i_rem, i_div, w_in, w_in2, w_cnt, w_cnt2, z01, z01', il, li, lc_ge, lc_le, lc_gt, lc_lt, lc_eq, l_ofNat, l0, l_eq, l_lt, l_le]) <;> omega)) rfl)
    · by_cases c62 : f a = 62
      · by_cases nx : a + 1 < n ∧ f (a + 1) = 61
        · have c : sgI (f a) ≤ 1 ∧ a + 1 < n ∧ f (a + 1) = 61 := ⟨by have := k1.mpr c62; omega, nx⟩
          rw [if_pos c] at tkE
          rw [if_pos nx.1, nx.2] at by1
          refine ⟨ySi (ySi (ySi (ySi S 265 9 (Int32.ofInt (f a))) 265 7 (Int32.ofInt ((a + 1 : Nat) : Int))) 265 9 (Int32.ofInt 5)) 265 7 (Int32.ofInt ((a + 2 : Nat) : Int)), ?_, Fk_trans hF (Fk_trans (Fk_i (by omega)) (Fk_i (by omega))), ?_⟩
          · refine h_neg (by first | omega | ((simp (disch := omega) only [i0, i1, i_lt, i_le, i_eq, i_add, i_sub, i_mul, i_neg, i_ofNat, i_rem, i_div, w_in, w_in2, w_cnt, w_cnt2, z01, z01', il, li, lc_ge, lc_le, lc_gt, lc_lt, lc_eq, l_ofNat, l0, l_eq, l_lt, l_le]) <;> omega)) (h_neg (by first | omega | ((simp (disch := omega) only [i0, i1, i_lt, i_le, i_eq, i_add, i_sub, i_mul, i_neg, i_ofNat, i_rem, i_div, w_in, w_in2, w_cnt, w_cnt2, z01, z01', il, li, lc_ge, lc_le, lc_gt, lc_lt, lc_eq, l_ofNat, l0, l_eq, l_lt, l_le]) <;> omega)) ?_)
            rw [fld_at]
            refine h_bind by1 (h_neg (fun q => q rfl) (h_pos (by first | omega | ((simp (disch := omega) only [i0, i1, i_lt, i_le, i_eq, i_add, i_sub, i_mul, i_neg, i_ofNat, i_rem, i_div, w_in, w_in2, w_cnt, w_cnt2, z01, z01', il, li, lc_ge, lc_le, lc_gt, lc_lt, lc_eq, l_ofNat, l0, l_eq, l_lt, l_le]) <;> omega)) (h_pst (h_pst ?_))))
            rw [fld_ne (show 7 ≠ 9 by omega), fld_at, i_add, show ((a + 1 : Nat) : Int) + 1 = ((a + 2 : Nat) : Int) by omega]
          · refine ⟨by rw [fld_ne (by omega), fld_ne (by omega), fld_ne (by omega), fld_ne (by omega)]; exact h8, ?_⟩
            rw [if_pos ha, tkE]
            refine ⟨fld_at, Or.inr (Or.inr (Or.inr (Or.inl ⟨by dsimp only; omega, ?_⟩)))⟩
            rw [fld_ne (by omega), fld_at]
            dsimp only
            rw [k1.mpr c62]
            rfl
        · have c : ¬ (sgI (f a) ≤ 1 ∧ a + 1 < n ∧ f (a + 1) = 61) := fun q => nx q.2
          have bne : (if a + 1 < n then f (a + 1) else -1) ≠ 61 := by
            by_cases q : a + 1 < n
            · rw [if_pos q]; exact fun q2 => nx ⟨q, q2⟩
            · rw [if_neg q]; omega
          refine ⟨_, h_neg (by first | omega | ((simp (disch := omega) only [i0, i1, i_lt, i_le, i_eq, i_add, i_sub, i_mul, i_neg, i_ofNat, i_rem, i_div, w_in, w_in2, w_cnt, w_cnt2, z01, z01', il, li, lc_ge, lc_le, lc_gt, lc_lt, lc_eq, l_ofNat, l0, l_eq, l_lt, l_le]) <;> omega)) (h_neg (by first | omega | ((simp (disch := omega) only [i0, i1, i_lt, i_le, i_eq, i_add, i_sub, i_mul, i_neg, i_ofNat, i_rem, i_div, w_in, w_in2, w_cnt, w_cnt2, z01, z01', il, li, lc_ge, lc_le, lc_gt, lc_lt, lc_eq, l_ofNat, l0, l_eq, l_lt, l_le]) <;> omega)) ?_), hF, fin25 c⟩
          rw [fld_at]
          exact h_bind by1 (h_pos (by first | omega | ((simp (disch := omega) only [i0, i1, i_lt, i_le, i_eq, i_add, i_sub, i_mul, i_neg, i_ofNat, i_rem, i_div, w_in, w_in2, w_cnt, w_cnt2, z01, z01', il, li, lc_ge, lc_le, lc_gt, lc_lt, lc_eq, l_ofNat, l0, l_eq, l_lt, l_le]) <;> omega)) rfl)
      · have c : ¬ (sgI (f a) ≤ 1 ∧ a + 1 < n ∧ f (a + 1) = 61) := fun q => by
          have : sgI (f a) = 0 ∨ sgI (f a) = 1 := by omega
          rcases this with z | z
          · exact c60 (k0.mp z)
          · exact c62 (k1.mp z)
        exact ⟨_, h_neg (by first | omega | ((simp (disch := omega) only [i0, i1, i_lt, i_le, i_eq, i_add, i_sub, i_mul, i_neg, i_ofNat, i_rem, i_div, w_in, w_in2, w_cnt, w_cnt2, z01, z01', il, li, lc_ge, lc_le, lc_gt, lc_lt, lc_eq, l_ofNat, l0, l_eq, l_lt, l_le]) <;> omega)) (h_pos (by first | omega | ((simp (disch := omega) only [i0, i1, i_lt, i_le, i_eq, i_add, i_sub, i_mul, i_neg, i_ofNat, i_rem, i_div, w_in, w_in2, w_cnt, w_cnt2, z01, z01', il, li, lc_ge, lc_le, lc_gt, lc_lt, lc_eq, l_ofNat, l0, l_eq, l_lt, l_le]) <;> omega)) rfl), hF, fin25 c⟩
theorem q_nextL (hN : 2000000 ≤ N) : ∀ (r fu a : Nat) (S : yS), a + r = n → r + 400 < fu → rtG S f n → S.1 265 7 = Int32.ofInt (a : Int) → ∃ S', lX12_nextToken N fu 0 S = some S' ∧ Fk S S' ∧ atD S' f n (skA f n a)
  | 0, fu + 1, a, S, ha, hf, hS, h7 => by
    have hn := hS.1
    have ea : a = n := by omega
    subst ea
    have by0 := q_byte hS (a := a) (by omega)
    rw [if_neg (by omega)] at by0
    have by1 := q_byte (rtG_k hS (Fk_i (S := S) (j := 8) (v := Int32.ofInt (a : Int)) (by omega))) (a := a) (by omega)
    rw [if_neg (by omega)] at by1
    rw [skA_n]
    refine ⟨ySi (ySi S 265 8 (Int32.ofInt (a : Int))) 265 9 (Int32.ofInt 0), ?_, Fk_trans (Fk_i (by omega)) (Fk_i (by omega)), by rw [fld_ne (by omega), fld_at], ?_⟩
    · rw [lX12_nextToken, h7]
      refine h_pos rfl (h_bind by0 (h_neg (by decide) (h_bind by0 (h_pos (by decide) (h_pst ?_)))))
      rw [fld_ne (show 7 ≠ 8 by omega), h7]
      exact h_bind by1 (h_neg (by decide) rfl)
    · rw [if_neg (by omega)]
      exact ⟨by rw [fld_ne (by omega), fld_ne (by omega)]; exact h7, Or.inl ⟨rfl, fld_at⟩⟩
  | r + 1, fu + 1, a, S, ha, hf, hS, h7 => by
    have hn := hS.1
    have han : a < n := by omega
    have hb := hS.2.2.2 a han
    have by0 := q_byte hS (a := a) (by omega)
    rw [if_pos han] at by0
    by_cases sp : lxS (f a) = true
    · have hsp := of_decide_eq_true sp
      obtain ⟨S', g1, g2, g3⟩ := q_nextL hN r fu (a + 1) (ySi S 265 7 (Int32.ofInt ((a + 1 : Nat) : Int))) (by omega) (by omega) (rtG_k hS (Fk_i (by omega))) fld_at
      rw [skA_sp han sp]
      refine ⟨S', ?_, Fk_trans (Fk_i (by omega)) g2, g3⟩
      rw [lX12_nextToken, h7, i_add, show (a : Int) + 1 = ((a + 1 : Nat) : Int) by omega]
      by_cases s32 : f a = 32
      · exact h_pos rfl (h_bind by0 (h_pos (by first | omega | ((simp (disch := omega) only [i0, i1, i_lt, i_le, i_eq, i_add, i_sub, i_mul, i_neg, i_ofNat, i_rem, i_div, w_in, w_in2, w_cnt, w_cnt2, z01, z01', il, li, lc_ge, lc_le, lc_gt, lc_lt, lc_eq, l_ofNat, l0, l_eq, l_lt, l_le]) <;> omega)) g1))
      · exact h_pos rfl (h_bind by0 (h_neg (by first | omega | ((simp (disch := omega) only [i0, i1, i_lt, i_le, i_eq, i_add, i_sub, i_mul, i_neg, i_ofNat, i_rem, i_div, w_in, w_in2, w_cnt, w_cnt2, z01, z01', il, li, lc_ge, lc_le, lc_gt, lc_lt, lc_eq, l_ofNat, l0, l_eq, l_lt, l_le]) <;> omega)) (h_bind by0 (h_neg (by first | omega | ((simp (disch := omega) only [i0, i1, i_lt, i_le, i_eq, i_add, i_sub, i_mul, i_neg, i_ofNat, i_rem, i_div, w_in, w_in2, w_cnt, w_cnt2, z01, z01', il, li, lc_ge, lc_le, lc_gt, lc_lt, lc_eq, l_ofNat, l0, l_eq, l_lt, l_le]) <;> omega)) g1))))
    · have sp' : lxS (f a) = false := by
        cases hh : lxS (f a) with
        | true => exact absurd hh sp
        | false => rfl
      have hsp : ¬ (f a = 32 ∨ f a = 10) := of_decide_eq_false sp'
      rw [skA_no sp']
      have by1 := q_byte (rtG_k hS (Fk_i (S := S) (j := 8) (v := Int32.ofInt (a : Int)) (by omega))) (a := a) (by omega)
      rw [if_pos han] at by1
      have eL := q_isL (c := f a) (by omega)
      have eD := q_isD (c := f a) (by omega)
      have F8 : Fk S (ySi S 265 8 (Int32.ofInt (a : Int))) := Fk_i (by omega)
      have e7 : (ySi S 265 8 (Int32.ofInt (a : Int))).1 265 7 = Int32.ofInt (a : Int) := by rw [fld_ne (by omega)]; exact h7
      cases qD : lxD (f a) with
      | true =>
        have hq := of_decide_eq_true qD
        rw [qD] at eD
        have qL : lxL (f a) = false := decide_eq_false (by omega)
        obtain ⟨S', w', g1, g2, g3, g4, g5, g6, g7, g8, g9⟩ := q_numL (N := N) hS (n - a) fu a (ySi (ySi (ySi S 265 8 (Int32.ofInt (a : Int))) 265 9 (Int32.ofInt 1)) 265 10 (Int32.ofInt 0)) 0 0 (by omega) (by omega) (rtG_k hS (Fk_trans F8 (Fk_trans (Fk_i (by omega)) (Fk_i (by omega))))) (by rw [fld_ne (by omega), fld_ne (by omega)]; exact e7) fld_at (by omega) (by omega) (by omega)
        have ev : lxV f (n - a) a 0 = lxV f (n - a - 1) (a + 1) (f a - 48) := by
          obtain ⟨m, hm⟩ : ∃ m, n - a = m + 1 := ⟨n - a - 1, by omega⟩
          rw [hm, show m + 1 - 1 = m by omega]
          show (if lxD (f a) = true then lxV f m (a + 1) (min 10000 (0 * 10 + f a - 48)) else 0) = _
          rw [if_pos qD, show min 10000 (0 * 10 + f a - 48) = f a - 48 by omega]
        rw [ev] at g9
        have tkE : tkA f n a = (38, lxV f (n - a - 1) (a + 1) (f a - 48), lxR lxD f (n - a) a) := by
          unfold tkA
          rw [qL, qD, if_neg (by decide), if_pos rfl]
        refine ⟨S', ?_, Fk_trans (Fk_trans F8 (Fk_trans (Fk_i (by omega)) (Fk_i (by omega)))) g2, by rw [g4, fld_ne (by omega), fld_ne (by omega), fld_at], ?_⟩
        · rw [lX12_nextToken, h7]
          refine h_pos rfl (h_bind by0 (h_neg (by first | omega | ((simp (disch := omega) only [i0, i1, i_lt, i_le, i_eq, i_add, i_sub, i_mul, i_neg, i_ofNat, i_rem, i_div, w_in, w_in2, w_cnt, w_cnt2, z01, z01', il, li, lc_ge, lc_le, lc_gt, lc_lt, lc_eq, l_ofNat, l0, l_eq, l_lt, l_le]) <;> omega)) (h_bind by0 (h_pos (by first | omega | ((simp (disch := omega) only [i0, i1, i_lt, i_le, i_eq, i_add, i_sub, i_mul, i_neg, i_ofNat, i_rem, i_div, w_in, w_in2, w_cnt, w_cnt2, z01, z01', il, li, lc_ge, lc_le, lc_gt, lc_lt, lc_eq, l_ofNat, l0, l_eq, l_lt, l_le]) <;> omega)) (h_pst ?_)))))
          rw [e7]
          refine h_bind by1 (h_pos (by first | omega | ((simp (disch := omega) only [i0, i1, i_lt, i_le, i_eq, i_add, i_sub, i_mul, i_neg, i_ofNat, i_rem, i_div, w_in, w_in2, w_cnt, w_cnt2, z01, z01', il, li, lc_ge, lc_le, lc_gt, lc_lt, lc_eq, l_ofNat, l0, l_eq, l_lt, l_le]) <;> omega)) ?_)
          rw [eD]
          exact h_neg (by decide) (h_pst (h_pst g1))
        · rw [if_pos han, tkE]
          exact ⟨g3, Or.inr (Or.inl ⟨rfl, by rw [g5, fld_ne (by omega), fld_at], w', g6, g7, g8, g9⟩)⟩
      | false =>
        rw [qD] at eD
        cases qL : lxL (f a) with
        | true =>
          rw [qL] at eL
          obtain ⟨S', g1, g2, g3, g4, g5, g6, g7⟩ := q_wordL (N := N) (f := f) (n := n) (a := a) (n - a) fu 0 (ySj (ySi (ySi S 265 8 (Int32.ofInt (a : Int))) 265 9 (Int32.ofInt 2)) 265 11 (Int64.ofInt 0)) (by omega) (by omega) (rtG_k hS (Fk_trans F8 (Fk_trans (Fk_i (by omega)) Fk_j))) (fun j hj => absurd hj (by omega)) (by show (ySi (ySi S 265 8 (Int32.ofInt (a : Int))) 265 9 (Int32.ofInt 2)).1 265 7 = _; rw [fld_ne (by omega)]; exact e7) fldj_at
          rw [Nat.add_zero] at g3 g6 g7
          have tkE : tkA f n a = (kwF f a (lxR lxL f (n - a) a - a) 25 0, 0, lxR lxL f (n - a) a) := by
            unfold tkA
            rw [qL, if_pos rfl]
          have kr := kwF_rng (f := f) (a := a) (z := lxR lxL f (n - a) a - a) 25 0 (by omega)
          have e9 : S'.1 265 9 = Int32.ofInt 2 := by
            rw [g5]
            show (ySi (ySi S 265 8 (Int32.ofInt (a : Int))) 265 9 (Int32.ofInt 2)).1 265 9 = _
            rw [fld_at]
          refine ⟨S', ?_, Fk_trans (Fk_trans F8 (Fk_trans (Fk_i (by omega)) Fk_j)) g2, ?_, ?_⟩
          · rw [lX12_nextToken, h7]
            refine h_pos rfl (h_bind by0 (h_neg (by first | omega | ((simp (disch := omega) only [i0, i1, i_lt, i_le, i_eq, i_add, i_sub, i_mul, i_neg, i_ofNat, i_rem, i_div, w_in, w_in2, w_cnt, w_cnt2, z01, z01', il, li, lc_ge, lc_le, lc_gt, lc_lt, lc_eq, l_ofNat, l0, l_eq, l_lt, l_le]) <;> omega)) (h_bind by0 (h_pos (by first | omega | ((simp (disch := omega) only [i0, i1, i_lt, i_le, i_eq, i_add, i_sub, i_mul, i_neg, i_ofNat, i_rem, i_div, w_in, w_in2, w_cnt, w_cnt2, z01, z01', il, li, lc_ge, lc_le, lc_gt, lc_lt, lc_eq, l_ofNat, l0, l_eq, l_lt, l_le]) <;> omega)) (h_pst ?_)))))
            rw [e7]
            refine h_bind by1 (h_pos (by first | omega | ((simp (disch := omega) only [i0, i1, i_lt, i_le, i_eq, i_add, i_sub, i_mul, i_neg, i_ofNat, i_rem, i_div, w_in, w_in2, w_cnt, w_cnt2, z01, z01', il, li, lc_ge, lc_le, lc_gt, lc_lt, lc_eq, l_ofNat, l0, l_eq, l_lt, l_le]) <;> omega)) ?_)
            rw [eD]
            refine h_pos (by decide) ?_
            rw [eL]
            exact h_neg (by decide) (h_pst (h_pst g1))
          · rw [g4]
            show (ySi (ySi S 265 8 (Int32.ofInt (a : Int))) 265 9 (Int32.ofInt 2)).1 265 8 = _
            rw [fld_ne (by omega), fld_at]
          · rw [if_pos han, tkE]
            refine ⟨g3, ?_⟩
            have k12 := wrD_kw g7 25 0 (by omega)
            rcases kr.2.2 with q25 | q39
            · obtain ⟨v, v1, v2, v3⟩ := k12.1 q25
              exact Or.inr (Or.inr (Or.inl ⟨v, v1, v2, e9, by rw [g6, v3]⟩))
            · refine Or.inr (Or.inr (Or.inr (Or.inr ⟨q39, Or.inr (Or.inr ⟨e9, _, g6, ?_, ?_, fun v hv => k12.2 q39 v (Nat.zero_le v) hv⟩)⟩)))
              · clear k12
                unfold wrD
                split
                · exact (wpk_nn _ (fun j hj => by have := of_decide_eq_true (g7 j hj); omega)).1
                · omega
              · clear k12
                unfold wrD
                split
                · rename_i z7
                  have n1 := (wpk_nn (f := f) (a := a) _ (fun j hj => by have := of_decide_eq_true (g7 j hj); omega)).2
                  have p : ∀ z : Nat, z ≤ 7 → (256 : Int) ^ z ≤ 72057594037927936 := by
                    intro z hz7
                    have hz : z = 0 ∨ z = 1 ∨ z = 2 ∨ z = 3 ∨ z = 4 ∨ z = 5 ∨ z = 6 ∨ z = 7 := by omega
                    rcases hz with rfl | rfl | rfl | rfl | rfl | rfl | rfl | rfl <;> decide
                  have p := p _ z7
                  omega
                · omega
        | false =>
          rw [qL] at eL
          have sg := q_sgn (f a).toNat (by omega) (ySi S 265 8 (Int32.ofInt (a : Int)))
          rw [show (((f a).toNat : Nat) : Int) = f a by omega] at sg
          obtain ⟨S', g1, g2, g3⟩ := q_sig (rtG_k hS F8) han e7 (by rw [fld_at]) qL qD _ (fun S' => rfl)
          refine ⟨S', ?_, Fk_trans F8 g2, g3⟩
          rw [lX12_nextToken, h7]
          refine h_pos rfl (h_bind by0 (h_neg (by first | omega | ((simp (disch := omega) only [i0, i1, i_lt, i_le, i_eq, i_add, i_sub, i_mul, i_neg, i_ofNat, i_rem, i_div, w_in, w_in2, w_cnt, w_cnt2, z01, z01', il, li, lc_ge, lc_le, lc_gt, lc_lt, lc_eq, l_ofNat, l0, l_eq, l_lt, l_le]) <;> omega)) (h_bind by0 (h_pos (by first | omega | ((simp (disch := omega) only [i0, i1, i_lt, i_le, i_eq, i_add, i_sub, i_mul, i_neg, i_ofNat, i_rem, i_div, w_in, w_in2, w_cnt, w_cnt2, z01, z01', il, li, lc_ge, lc_le, lc_gt, lc_lt, lc_eq, l_ofNat, l0, l_eq, l_lt, l_le]) <;> omega)) (h_pst ?_)))))
          rw [e7]
          refine h_bind by1 (h_pos (by first | omega | ((simp (disch := omega) only [i0, i1, i_lt, i_le, i_eq, i_add, i_sub, i_mul, i_neg, i_ofNat, i_rem, i_div, w_in, w_in2, w_cnt, w_cnt2, z01, z01', il, li, lc_ge, lc_le, lc_gt, lc_lt, lc_eq, l_ofNat, l0, l_eq, l_lt, l_le]) <;> omega)) ?_)
          rw [eD]
          refine h_pos (by decide) ?_
          rw [eL]
          refine h_pos (by decide) (h_bind sg ?_)
          by_cases g : isG (f a) = true
          · rw [if_pos g] at g1 ⊢
            refine h_neg (by decide) (h_pst (h_pst ?_))
            rw [fld_ne (show 7 ≠ 9 by omega), e7, i_add, show (a : Int) + 1 = ((a + 1 : Nat) : Int) by omega]
            exact g1
          · rw [if_neg g] at g1 ⊢
            refine h_pos (by decide) (h_pst (h_pst ?_))
            rw [fld_ne (show 7 ≠ 9 by omega), e7, i_add, show (a : Int) + 1 = ((a + 1 : Nat) : Int) by omega]
            exact g1
theorem q_next (hN : 2000000 ≤ N) (hS : rtG S f n) {a : Nat} (ha : a ≤ n) (h7 : S.1 265 7 = Int32.ofInt (a : Int)) : ∃ S', fX12_nextToken N S = some S' ∧ Fk S S' ∧ atD S' f n (skA f n a) := by
  have hn := hS.1
  exact q_nextL hN (n - a) N a S (by omega) (by omega) hS h7
/-- the reference stands at token k -/
def atT (S : yS) (f : Nat → Int) (n k : Nat) : Prop := atD S f n (psT f n k)
theorem q_nextT (hN : 2000000 ≤ N) (hS : rtG S f n) {k : Nat} (hk : psT f n k < n) (h : atT S f n k) : ∃ S', fX12_nextToken N S = some S' ∧ Fk S S' ∧ atT S' f n (k + 1) := by
  obtain ⟨h8, h7⟩ := h
  rw [if_pos hk] at h7
  obtain ⟨S', a1, a2, a3⟩ := q_next hN hS (tkA_nx hk).2 h7.1
  refine ⟨S', a1, a2, ?_⟩
  have e : psT f n (k + 1) = skA f n (tkA f n (psT f n k)).2.2 := by
    show skA f n _ = _
    rw [if_pos hk]
  unfold atT
  rw [e]
  exact a3
theorem q_first (hN : 2000000 ≤ N) (hS : rtG S f n) (h7 : S.1 265 7 = Int32.ofInt 0) : ∃ S', fX12_nextToken N S = some S' ∧ Fk S S' ∧ atT S' f n 0 := q_next hN hS (a := 0) (by omega) h7
theorem atT_D {k : Nat} (h : atT S f n k) : tD S (kdT f n k) (vlT f n k) := by
  obtain ⟨h8, h7⟩ := h
  unfold kdT vlT
  by_cases q : psT f n k < n
  · rw [if_pos q] at h7
    rw [if_pos q, if_pos q]
    exact h7.2
  · rw [if_neg q] at h7
    rw [if_neg q, if_neg q]
    exact h7.2
end NXT
/-! what the reference asks of a token -/
section ASKT
variable {S : yS} {kd vl : Int}
theorem q_isW (h : tD S kd vl) {w : Nat} (hw : w < 25) : fX12_isWord (Int64.ofInt (wcd w)) S = some (Int32.ofInt (if kd = w then 1 else 0)) := by
  have rg := wcd_rng w hw
  have en : kd ≠ w → (if kd = (w : Int) then (1 : Int) else 0) = 0 := fun q => if_neg q
  unfold fX12_isWord
  rcases h with ⟨a, b⟩ | ⟨a, b, -⟩ | ⟨v, a, a2, b, c⟩ | ⟨a, b⟩ | ⟨a, b⟩
  · rw [b, en (by omega)]
    exact h_pos (by decide) rfl
  · rw [b, en (by omega)]
    exact h_pos (by decide) rfl
  · rw [b, c]
    have rv' := wcd_rng v a2
    refine h_neg (fun q => q rfl) ?_
    by_cases e : v = w
    · subst e
      have ep : (if kd = (v : Int) then (1 : Int) else 0) = 1 := if_pos a
      rw [ep]
      exact h_neg (fun q => q (by rw [lc_eq (by omega) (by omega) (by omega) (by omega)])) rfl
    · rw [en (by omega)]
      have : wcd v ≠ wcd w := fun q => e (wcd_inj v a2 w hw q)
      exact h_pos (by first | omega | ((simp (disch := omega) only [i0, i1, i_lt, i_le, i_eq, i_add, i_sub, i_mul, i_neg, i_ofNat, i_rem, i_div, w_in, w_in2, w_cnt, w_cnt2, z01, z01', il, li, lc_ge', lc_le', lc_gt', lc_lt', lc_eq', l_ofNat, l0, l_eq, l_lt, l_le, l_add, l_mul]) <;> omega)) rfl
  · rw [b, en (by omega)]
    have e : sgc kd ≠ 2 ∧ 0 ≤ sgc kd ∧ sgc kd ≤ 100 := by
      unfold sgc
      repeat' split
      all_goals omega
    exact h_pos (by first | omega | ((simp (disch := omega) only [i0, i1, i_lt, i_le, i_eq, i_add, i_sub, i_mul, i_neg, i_ofNat, i_rem, i_div, w_in, w_in2, w_cnt, w_cnt2, z01, z01', il, li, lc_ge, lc_le, lc_gt, lc_lt, lc_eq, l_ofNat, l0, l_eq, l_lt, l_le]) <;> omega)) rfl
  · rcases b with b | b | ⟨b, x, c, d, d2, e⟩
    · rw [b, en (by omega)]
      exact h_pos (by decide) rfl
    · rw [b, en (by omega)]
      exact h_pos (by decide) rfl
    · rw [b, c, en (by omega)]
      have := e w hw
      clear e
      exact h_neg (fun q => q rfl) (h_pos (by first | omega | ((simp (disch := omega) only [i0, i1, i_lt, i_le, i_eq, i_add, i_sub, i_mul, i_neg, i_ofNat, i_rem, i_div, w_in, w_in2, w_cnt, w_cnt2, z01, z01', il, li, lc_ge', lc_le', lc_gt', lc_lt', lc_eq', l_ofNat, l0, l_eq, l_lt, l_le, l_add, l_mul]) <;> omega)) rfl)
/-- the code of a token -/
theorem tD_9 (h : tD S kd vl) : ∃ c : Int, S.1 265 9 = Int32.ofInt c ∧ 0 ≤ c ∧ c ≤ 100 ∧ (c = 0 ↔ kd = 40) ∧ (c = 1 ↔ kd = 38) ∧ (kd < 25 → c = 2) ∧ (25 ≤ kd ∧ kd ≤ 37 → c = sgc kd) ∧ (kd = 39 → c = 2 ∨ c = 3 ∨ c = 58) ∧ 0 ≤ kd ∧ kd ≤ 40 := by
  rcases h with ⟨a, b⟩ | ⟨a, b, -⟩ | ⟨v, a, a2, b, c⟩ | ⟨a, b⟩ | ⟨a, b⟩
  · exact ⟨0, b, by omega, by omega, by omega, by omega, by omega, by omega, by omega, by omega, by omega⟩
  · exact ⟨1, b, by omega, by omega, by omega, by omega, by omega, by omega, by omega, by omega, by omega⟩
  · exact ⟨2, b, by omega, by omega, by omega, by omega, by omega, by omega, by omega, by omega, by omega⟩
  · have e : sgc kd ≠ 2 ∧ 4 ≤ sgc kd ∧ sgc kd ≤ 100 := by
      unfold sgc
      repeat' split
      all_goals omega
    exact ⟨sgc kd, b, by omega, by omega, by omega, by omega, by omega, fun _ => rfl, by omega, by omega, by omega⟩
  · rcases b with b | b | ⟨b, -⟩
    · exact ⟨3, b, by omega, by omega, by omega, by omega, by omega, by omega, by omega, by omega, by omega⟩
    · exact ⟨58, b, by omega, by omega, by omega, by omega, by omega, by omega, by omega, by omega, by omega⟩
    · exact ⟨2, b, by omega, by omega, by omega, by omega, by omega, by omega, by omega, by omega, by omega⟩
theorem sgc_inj : ∀ a : Nat, a < 38 → 25 ≤ a → ∀ b : Nat, b < 38 → 25 ≤ b → sgc (a : Int) = sgc (b : Int) → a = b := by decide +kernel
/-- a sign by its code -/
theorem tD_s (h : tD S kd vl) {k : Int} (hk : 25 ≤ k ∧ k ≤ 37) : (S.1 265 9 = Int32.ofInt (sgc k)) = (kd = k) := by
  obtain ⟨c, c1, c2, c3, c4, c5, c6, c7, c8, c9, c10⟩ := tD_9 h
  have e : 4 ≤ sgc k ∧ sgc k ≤ 62 ∧ sgc k ≠ 58 := by
    unfold sgc
    repeat' split
    all_goals omega
  rw [c1, i_eq (by omega) (by omega) (by omega) (by omega)]
  apply propext
  constructor
  · intro q
    by_cases k25 : 25 ≤ kd ∧ kd ≤ 37
    · have q2 := c7 k25
      rw [q2] at q
      obtain ⟨u, rfl⟩ := Int.eq_ofNat_of_zero_le (show 0 ≤ kd by omega)
      obtain ⟨v, rfl⟩ := Int.eq_ofNat_of_zero_le (show 0 ≤ k by omega)
      have := sgc_inj u (by omega) (by omega) v (by omega) (by omega) q
      omega
    · by_cases k24 : kd < 25
      · have := c6 k24; omega
      · by_cases k38 : kd = 38
        · have := c5.mpr k38; omega
        · by_cases k39 : kd = 39
          · have := c8 k39; omega
          · have := c4.mpr (by omega); omega
  · intro q
    rw [q] at c7
    exact c7 hk
end ASKT
