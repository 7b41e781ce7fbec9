/-! ===== seats: the reference, both ===== -/
def xQ (S : yS) (a b c : Nat → Int32) : yS := ySa (ySa (ySa S 276 a) 277 b) 278 c
theorem xQ_a (S : yS) (a b c : Nat → Int32) : (xQ S a b c).2.2.1 276 = a := ((ySa_ne _ c (by omega)).trans (ySa_ne _ b (by omega))).trans (ySa_at S 276 a)
theorem xQ_b (S : yS) (a b c : Nat → Int32) : (xQ S a b c).2.2.1 277 = b := (ySa_ne _ c (by omega)).trans (ySa_at _ 277 b)
theorem xQ_c (S : yS) (a b c : Nat → Int32) : (xQ S a b c).2.2.1 278 = c := ySa_at _ 278 c
theorem xQ_r (S : yS) (a b c : Nat → Int32) {i : Nat} (h : i < 276) : (xQ S a b c).2.2.1 i = S.2.2.1 i := ((ySa_ne _ c (by omega)).trans (ySa_ne _ b (by omega))).trans (ySa_ne _ a (by omega))
theorem xQ_ext {S S' : yS} {a b c : Nat → Int32} (h1 : S'.1 = S.1) (h2 : S'.2.1 = S.2.1) (h3 : S'.2.2.2 = S.2.2.2) (h4 : S'.2.2.1 276 = a) (h5 : S'.2.2.1 277 = b) (h6 : S'.2.2.1 278 = c) (h7 : ∀ j, j ≠ 276 → j ≠ 277 → j ≠ 278 → S'.2.2.1 j = S.2.2.1 j) : S' = xQ S a b c := by
  have e : S'.2.2.1 = yU (yU (yU S.2.2.1 276 a) 277 b) 278 c := by
    funext j
    unfold yU
    by_cases j1 : j = 278
    · simp only [j1, if_true]; exact h6
    · by_cases j2 : j = 277
      · simp only [j2, if_true, if_false]; exact h5
      · by_cases j3 : j = 276
        · simp only [j3, if_true, if_false]; exact h4
        · simp only [j1, j2, j3, if_false]; exact h7 j j3 j2 j1
  obtain ⟨x1, x2, x3, x4⟩ := S'
  dsimp only at *
  subst h1 h2 h3 e
  rfl
theorem xQ_ua (S : yS) (a b c a' : Nat → Int32) : ySa (xQ S a b c) 276 a' = xQ S a' b c := by
  refine xQ_ext rfl rfl rfl (ySa_at _ _ _) ?_ ?_ (fun j h1 h2 h3 => ?_)
  · rw [ySa_ne _ _ (by omega)]; exact xQ_b S a b c
  · rw [ySa_ne _ _ (by omega)]; exact xQ_c S a b c
  · rw [ySa_ne _ _ h1]; unfold xQ; rw [ySa_ne _ _ h3, ySa_ne _ _ h2, ySa_ne _ _ h1]
theorem xQ_ub (S : yS) (a b c b' : Nat → Int32) : ySa (xQ S a b c) 277 b' = xQ S a b' c := by
  refine xQ_ext rfl rfl rfl ?_ (ySa_at _ _ _) ?_ (fun j h1 h2 h3 => ?_)
  · rw [ySa_ne _ _ (by omega)]; exact xQ_a S a b c
  · rw [ySa_ne _ _ (by omega)]; exact xQ_c S a b c
  · rw [ySa_ne _ _ h2]; unfold xQ; rw [ySa_ne _ _ h3, ySa_ne _ _ h2, ySa_ne _ _ h1]
theorem xQ_uc (S : yS) (a b c c' : Nat → Int32) : ySa (xQ S a b c) 278 c' = xQ S a b c' := ySa_ySa _ _ _ _
section PMS
variable {T : yK} {S : yS}
theorem r_ls0 (h : Rel T S) {N s : Nat} (hs : s ≤ 30) (hav : 0 < avA (rv S 266)) : ∀ (m p : Nat) (x : Int) (a b c : Nat → Int32), p + m = 5 → (∀ k, k < p → a k = Int32.ofInt 0 ∧ b k = qtI (rv S 266) s k ∧ c k = lfI (rv S 266) s k) → ∃ a' b' c', (∀ k, k < 5 → a' k = Int32.ofInt 0 ∧ b' k = qtI (rv S 266) s k ∧ c' k = lfI (rv S 266) s k) ∧ ∀ n, lX12_laySeats N (n + m + 1) 0 (Int32.ofInt (s : Int)) (Int32.ofInt (avA (rv S 266))) (Int32.ofInt x) (Int32.ofInt (p : Int)) 0 0 (xQ S a b c) = lX12_laySeats N n 1 (Int32.ofInt (s : Int)) 0 (Int32.ofInt (gvZ (rv S 266) s p m x)) (Int32.ofInt 0) 0 0 (xQ S a' b' c')
  | 0, p, x, a, b, c, hm, hf => by
    refine ⟨a, b, c, fun k hk => hf k (by omega), fun n => ?_⟩
    rw [lX12_laySeats]
    exact h_pos rfl (h_pos (by first | omega | ((simp (disch := omega) only [i0, i1, i_lt, i_le, i_eq, i_add, i_sub, i_mul, i_neg, i_ofNat, i_rem, i_div, w_in, w_in2, w_cnt, w_cnt2, z01, z01', il, li, lc_ge, lc_le, lc_gt, lc_lt, lc_eq, l_ofNat, l0, l_eq, l_lt, l_le]) <;> omega)) rfl)
  | m + 1, p, x, a, b, c, hm, hf => by
    have ha := av_rng h
    have hq := qt_rng h hs hav (show p < 5 by omega)
    obtain ⟨a', b', c', e1, e2⟩ := r_ls0 h (N := N) hs hav m (p + 1) (x + qtZ (rv S 266) s p) (upd a p (Int32.ofInt 0)) (upd b p (qtI (rv S 266) s p)) (upd c p (lfI (rv S 266) s p)) (by omega) (fun k hk => by
      by_cases h0 : k = p
      · subst h0; rw [upd_at, upd_at, upd_at]; exact ⟨rfl, rfl, rfl⟩
      · rw [upd_ne h0, upd_ne h0, upd_ne h0]; exact hf k (by omega))
    refine ⟨a', b', c', e1, fun n => ?_⟩
    rw [show n + (m + 1) + 1 = (n + m + 1) + 1 by omega, lX12_laySeats, i_add (87 : Int), show (87 : Int) + (p : Int) = ((87 + p : Nat) : Int) by omega]
    refine h_pos rfl (h_neg (by first | omega | ((simp (disch := omega) only [i0, i1, i_lt, i_le, i_eq, i_add, i_sub, i_mul, i_neg, i_ofNat, i_rem, i_div, w_in, w_in2, w_cnt, w_cnt2, z01, z01', il, li, lc_ge, lc_le, lc_gt, lc_lt, lc_eq, l_ofNat, l0, l_eq, l_lt, l_le]) <;> omega)) (h_ainN (by omega) (by omega) (h_pst ?_)))
    rw [xQ_a, xQ_ua]
    refine h_ainN (by omega) (by omega) (h_neg (by first | omega | ((simp (disch := omega) only [i0, i1, i_lt, i_le, i_eq, i_add, i_sub, i_mul, i_neg, i_ofNat, i_rem, i_div, w_in, w_in2, w_cnt, w_cnt2, z01, z01', il, li, lc_ge, lc_le, lc_gt, lc_lt, lc_eq, l_ofNat, l0, l_eq, l_lt, l_le]) <;> omega)) (h_ainN (by omega) (by omega) (h_pst ?_)))
    rw [xQ_b, xQ_ub, xQ_r S _ _ _ (show 266 < 276 by omega)]
    refine h_ainN (by omega) (by omega) (h_neg (by first | omega | ((simp (disch := omega) only [i0, i1, i_lt, i_le, i_eq, i_add, i_sub, i_mul, i_neg, i_ofNat, i_rem, i_div, w_in, w_in2, w_cnt, w_cnt2, z01, z01', il, li, lc_ge, lc_le, lc_gt, lc_lt, lc_eq, l_ofNat, l0, l_eq, l_lt, l_le]) <;> omega)) (h_ainN (by omega) (by omega) (h_pst ?_)))
    rw [xQ_c, xQ_uc, xQ_r S _ _ _ (show 266 < 276 by omega), rv_eq S 266 (87 + p)]
    refine h_ainN (by omega) (by omega) ?_
    rw [xQ_b, upd_at]
    have e3 : Int32.ofInt (rv S 266 (87 + p)) * Int32.ofInt (s : Int) / Int32.ofInt (avA (rv S 266)) = qtI (rv S 266) s p := rfl
    have e4 : Int32.ofInt (rv S 266 (87 + p)) * Int32.ofInt (s : Int) - Int32.ofInt (rv S 266 (87 + p)) * Int32.ofInt (s : Int) / Int32.ofInt (avA (rv S 266)) * Int32.ofInt (avA (rv S 266)) = lfI (rv S 266) s p := rfl
    rw [e4, e3, hq.1, i_add, i_add, show (p : Int) + 1 = ((p + 1 : Nat) : Int) by omega, ← hq.1]
    exact e2 n
theorem r_ls2 (h : Rel T S) {N : Nat} {l1 l3 l4 : Int32} {a b c : Nat → Int32} : ∀ (m n p w : Nat), p + m = 5 → w < 5 → lX12_laySeats N (n + m + 1) 2 l1 0 l3 l4 (Int32.ofInt (w : Int)) (Int32.ofInt (p : Int)) (xQ S a b c) = lX12_laySeats N n 1 l1 0 l3 (l4 + Int32.ofInt 1) 0 0 (xQ S (upd a (bsS (vtI (rv S 266)) a p m w) (a (bsS (vtI (rv S 266)) a p m w) + Int32.ofInt 1)) b c)
  | 0, n, p, w, hm, hw => by
    rw [lX12_laySeats]
    refine h_neg (by omega) (h_neg (by omega) (h_pos rfl (h_pos (by first | omega | ((simp (disch := omega) only [i0, i1, i_lt, i_le, i_eq, i_add, i_sub, i_mul, i_neg, i_ofNat, i_rem, i_div, w_in, w_in2, w_cnt, w_cnt2, z01, z01', il, li, lc_ge, lc_le, lc_gt, lc_lt, lc_eq, l_ofNat, l0, l_eq, l_lt, l_le]) <;> omega)) (h_ainN hw (by omega) (h_ainN hw (by omega) (h_pst ?_))))))
    rw [xQ_a, xQ_ua]
    rfl
  | m + 1, n, p, w, hm, hw => by
    rw [show n + (m + 1) + 1 = (n + m + 1) + 1 by omega, lX12_laySeats]
    refine h_neg (by omega) (h_neg (by omega) (h_pos rfl (h_neg (by first | omega | ((simp (disch := omega) only [i0, i1, i_lt, i_le, i_eq, i_add, i_sub, i_mul, i_neg, i_ofNat, i_rem, i_div, w_in, w_in2, w_cnt, w_cnt2, z01, z01', il, li, lc_ge, lc_le, lc_gt, lc_lt, lc_eq, l_ofNat, l0, l_eq, l_lt, l_le]) <;> omega)) ?_)))
    unfold bsS
    have e : fX12_isAhead (Int32.ofInt (p : Int)) (Int32.ofInt (w : Int)) (xQ S a b c) = some (Int32.ofInt (if vtI (rv S 266) p * (a w + Int32.ofInt 1) ≤ vtI (rv S 266) w * (a p + Int32.ofInt 1) then 0 else 1)) := by
      unfold fX12_isAhead
      rw [i_add, i_add, show (87 : Int) + (p : Int) = ((87 + p : Nat) : Int) by omega, show (87 : Int) + (w : Int) = ((87 + w : Nat) : Int) by omega]
      refine h_ainN (by omega) (by omega) (h_ainN hw (by omega) (h_ainN (by omega) (by omega) (h_ainN (by omega) (by omega) ?_)))
      rw [xQ_a, xQ_r S _ _ _ (show 266 < 276 by omega), rv_eq S 266 (87 + p), rv_eq S 266 (87 + w)]
      show (if vtI (rv S 266) p * (a w + Int32.ofInt 1) ≤ vtI (rv S 266) w * (a p + Int32.ofInt 1) then some (Int32.ofInt 0) else some (Int32.ofInt 1)) = _
      by_cases hc : vtI (rv S 266) p * (a w + Int32.ofInt 1) ≤ vtI (rv S 266) w * (a p + Int32.ofInt 1)
      · simp only [hc, if_true]
      · simp only [hc, if_false]
    refine h_bind e ?_
    rw [i_add, show (p : Int) + 1 = ((p + 1 : Nat) : Int) by omega]
    by_cases hc : vtI (rv S 266) p * (a w + Int32.ofInt 1) ≤ vtI (rv S 266) w * (a p + Int32.ofInt 1)
    · simp only [hc, if_true]
      exact h_pos rfl (r_ls2 h m n (p + 1) w (by omega) hw)
    · simp only [hc, if_false]
      exact h_neg (by decide) (r_ls2 h m n (p + 1) p (by omega) (by omega))
theorem r_ls1 (h : Rel T S) {N s : Nat} (hs : s ≤ 30) {l3 : Int32} : ∀ (k i : Nat) (a b c : Nat → Int32), i + k = s → ∀ n, lX12_laySeats N (n + 6 * k + 1) 1 (Int32.ofInt (s : Int)) 0 l3 (Int32.ofInt (i : Int)) 0 0 (xQ S a b c) = lX12_laySeats N n 3 (Int32.ofInt (s : Int)) 0 0 l3 0 0 (xQ S (shS (vtI (rv S 266)) k a) b c)
  | 0, i, a, b, c, hk, n => by
    rw [lX12_laySeats]
    exact h_neg (by omega) (h_pos rfl (h_pos (by first | omega | ((simp (disch := omega) only [i0, i1, i_lt, i_le, i_eq, i_add, i_sub, i_mul, i_neg, i_ofNat, i_rem, i_div, w_in, w_in2, w_cnt, w_cnt2, z01, z01', il, li, lc_ge, lc_le, lc_gt, lc_lt, lc_eq, l_ofNat, l0, l_eq, l_lt, l_le]) <;> omega)) rfl))
  | k + 1, i, a, b, c, hk, n => by
    rw [show n + 6 * (k + 1) + 1 = (n + 6 * k + 1 + 4 + 1) + 1 by omega, lX12_laySeats]
    refine h_neg (by omega) (h_pos rfl (h_neg (by first | omega | ((simp (disch := omega) only [i0, i1, i_lt, i_le, i_eq, i_add, i_sub, i_mul, i_neg, i_ofNat, i_rem, i_div, w_in, w_in2, w_cnt, w_cnt2, z01, z01', il, li, lc_ge, lc_le, lc_gt, lc_lt, lc_eq, l_ofNat, l0, l_eq, l_lt, l_le]) <;> omega)) ((r_ls2 h 4 (n + 6 * k + 1) 1 0 (by omega) (by omega)).trans ?_)))
    rw [i_add, show (i : Int) + 1 = ((i + 1 : Nat) : Int) by omega]
    exact r_ls1 h hs k (i + 1) _ b c (by omega) n
theorem r_ls4 {N : Nat} {l1 l4 : Int32} {a b c : Nat → Int32} : ∀ (m n p w : Nat), p + m = 5 → w < 5 → lX12_laySeats N (n + m + 1) 4 l1 0 0 l4 (Int32.ofInt (w : Int)) (Int32.ofInt (p : Int)) (xQ S a b c) = lX12_laySeats N n 3 l1 0 0 (l4 + Int32.ofInt 1) 0 0 (xQ S a (upd b (bcS c p m w) (b (bcS c p m w) + Int32.ofInt 1)) (upd c (bcS c p m w) (Int32.ofInt (-1))))
  | 0, n, p, w, hm, hw => by
    rw [lX12_laySeats]
    refine h_neg (by omega) (h_neg (by omega) (h_neg (by omega) (h_neg (by omega) (h_pos (by first | omega | ((simp (disch := omega) only [i0, i1, i_lt, i_le, i_eq, i_add, i_sub, i_mul, i_neg, i_ofNat, i_rem, i_div, w_in, w_in2, w_cnt, w_cnt2, z01, z01', il, li, lc_ge, lc_le, lc_gt, lc_lt, lc_eq, l_ofNat, l0, l_eq, l_lt, l_le]) <;> omega)) (h_ainN hw (by omega) (h_ainN hw (by omega) (h_pst ?_)))))))
    rw [xQ_b, xQ_ub]
    refine h_ainN hw (by omega) (h_pst ?_)
    rw [xQ_c, xQ_uc]
    rfl
  | m + 1, n, p, w, hm, hw => by
    rw [show n + (m + 1) + 1 = (n + m + 1) + 1 by omega, lX12_laySeats]
    refine h_neg (by omega) (h_neg (by omega) (h_neg (by omega) (h_neg (by omega) (h_neg (by first | omega | ((simp (disch := omega) only [i0, i1, i_lt, i_le, i_eq, i_add, i_sub, i_mul, i_neg, i_ofNat, i_rem, i_div, w_in, w_in2, w_cnt, w_cnt2, z01, z01', il, li, lc_ge, lc_le, lc_gt, lc_lt, lc_eq, l_ofNat, l0, l_eq, l_lt, l_le]) <;> omega)) (h_ainN (by omega) (by omega) (h_ainN hw (by omega) ?_))))))
    rw [xQ_c, i_add, show (p : Int) + 1 = ((p + 1 : Nat) : Int) by omega]
    unfold bcS
    by_cases hc : c p ≤ c w
    · simp only [hc, if_true]
      exact r_ls4 m n (p + 1) w (by omega) hw
    · simp only [hc, if_false]
      exact r_ls4 m n (p + 1) p (by omega) (by omega)
theorem r_ls3 {N s : Nat} (hs : s ≤ 30) : ∀ (k i n : Nat) (a b c : Nat → Int32), i + k = s → 10 * k < n → lX12_laySeats N n 3 (Int32.ofInt (s : Int)) 0 0 (Int32.ofInt (i : Int)) 0 0 (xQ S a b c) = some (xQ S a (rsK k (b, c)).1 (rsK k (b, c)).2)
  | 0, i, n, a, b, c, hk, hn => by
    obtain ⟨n, rfl⟩ : ∃ k, n = k + 1 := ⟨n - 1, by omega⟩
    rw [lX12_laySeats]
    exact h_neg (by omega) (h_neg (by omega) (h_neg (by omega) (h_pos rfl (h_pos (by first | omega | ((simp (disch := omega) only [i0, i1, i_lt, i_le, i_eq, i_add, i_sub, i_mul, i_neg, i_ofNat, i_rem, i_div, w_in, w_in2, w_cnt, w_cnt2, z01, z01', il, li, lc_ge, lc_le, lc_gt, lc_lt, lc_eq, l_ofNat, l0, l_eq, l_lt, l_le]) <;> omega)) rfl))))
  | k + 1, i, n, a, b, c, hk, hn => by
    obtain ⟨n, rfl⟩ : ∃ j, n = j + 4 + 1 + 1 := ⟨n - 6, by omega⟩
    rw [lX12_laySeats]
    refine h_neg (by omega) (h_neg (by omega) (h_neg (by omega) (h_pos rfl (h_neg (by first | omega | ((simp (disch := omega) only [i0, i1, i_lt, i_le, i_eq, i_add, i_sub, i_mul, i_neg, i_ofNat, i_rem, i_div, w_in, w_in2, w_cnt, w_cnt2, z01, z01', il, li, lc_ge, lc_le, lc_gt, lc_lt, lc_eq, l_ofNat, l0, l_eq, l_lt, l_le]) <;> omega)) ((r_ls4 4 n 1 0 (by omega) (by omega)).trans ?_)))))
    rw [i_add, show (i : Int) + 1 = ((i + 1 : Nat) : Int) by omega]
    exact r_ls3 hs k (i + 1) n a _ _ (by omega) (by omega)
theorem r_ls (h : Rel T S) {N : Nat} (hN : 2000000 ≤ N) {s : Nat} (hs : s ≤ 30) (hav : 0 < avA (rv S 266)) : ∃ a b c, (∀ k, k < 5 → a k = Int32.ofInt 0 ∧ b k = qtI (rv S 266) s k ∧ c k = lfI (rv S 266) s k) ∧ fX12_laySeats N (Int32.ofInt (s : Int)) S = some (xQ S (shS (vtI (rv S 266)) s a) (rsK (k0R (rv S 266) s) (b, c)).1 (rsK (k0R (rv S 266) s) (b, c)).2) := by
  have hg := gv_rng h hs hav
  obtain ⟨a, b, c, e1, e2⟩ := r_ls0 h (N := N) hs hav 5 0 0 (S.2.2.1 276) (S.2.2.1 277) (S.2.2.1 278) (by omega) (fun k hk => by omega)
  refine ⟨a, b, c, e1, h_bind (r_avF h hN) ?_⟩
  have e3 : xQ S (S.2.2.1 276) (S.2.2.1 277) (S.2.2.1 278) = S := by
    unfold xQ
    rw [ySa_self, ySa_self, ySa_self]
  rw [e3] at e2
  have key : ∀ M, 1000 ≤ M → lX12_laySeats N M 0 (Int32.ofInt (s : Int)) (Int32.ofInt (avA (rv S 266))) (Int32.ofInt 0) (Int32.ofInt 0) 0 0 S = some (xQ S (shS (vtI (rv S 266)) s a) (rsK (k0R (rv S 266) s) (b, c)).1 (rsK (k0R (rv S 266) s) (b, c)).2) := by
    intro M hM
    obtain ⟨n, rfl⟩ : ∃ j, M = j + 6 * s + 1 + 5 + 1 := ⟨M - 6 * s - 7, by omega⟩
    refine (e2 _).trans ((r_ls1 h hs s 0 a b c (by omega) n).trans ?_)
    have e5 : gvZ (rv S 266) s 0 5 0 = ((gvZ (rv S 266) s 0 5 0).toNat : Int) := by omega
    rw [e5]
    exact r_ls3 hs _ _ n _ b c (by unfold k0R; omega) (by unfold k0R; omega)
  exact key N (by omega)
theorem seats_ag {A : Nat → Int} {s : Nat} {f a b c b' c' : Nat → Int32} (hf : ∀ j, j < 5 → f j = Int32.ofInt 0) (h1 : ∀ k, k < 5 → b k = qtI A s k ∧ c k = lfI A s k) (h2 : ∀ k, k < 5 → a k = Int32.ofInt 0 ∧ b' k = qtI A s k ∧ c' k = lfI A s k) : ag5 (shS (vtI A) s f) (shS (vtI A) s a) ∧ ag5 (rsK (k0R A s) (b, c)).1 (rsK (k0R A s) (b', c')).1 := by
  refine ⟨shS_ag _ _ _ (fun k hk => by rw [hf k hk, (h2 k hk).1]), rsK_ag _ _ _ (fun k hk => ?_) (fun k hk => ?_)⟩
  · show b k = b' k
    rw [(h1 k hk).1, (h2 k hk).2.1]
  · show c k = c' k
    rw [(h1 k hk).2, (h2 k hk).2.2]
theorem Fq_127 (S : yS) (f : Nat → Int32) : Fq S (ySa S 127 f) := Fq_a (by unfold kA; omega)
theorem Fq_wQ (S : yS) (b c : Nat → Int32) : Fq S (wQ S b c) := Fq_trans (Fq_a (by unfold kA; omega)) (Fq_a (by unfold kA; omega))
theorem Fq_xQ (S : yS) (a b c : Nat → Int32) : Fq S (xQ S a b c) := Fq_trans (Fq_trans (Fq_a (by unfold kA; omega)) (Fq_a (by unfold kA; omega))) (Fq_a (by unfold kA; omega))
theorem r_areS (h : Rel T S) {N : Nat} (hN : 2000000 ≤ N) {b : Int} (b1 : -2147483648 ≤ b) (b2 : b < 2147483648) : fX12_areSeats N (Int32.ofInt b) S = some (Int32.ofInt (if (0 ≤ b ∧ b ≤ 30) ∧ 0 < avA (rv S 266) then 1 else 0)) := by
  have ha := av_rng h
  unfold fX12_areSeats
  by_cases hb : 0 ≤ b ∧ b ≤ 30
  · refine h_neg (by first | omega | ((simp (disch := omega) only [i0, i1, i_lt, i_le, i_eq, i_add, i_sub, i_mul, i_neg, i_ofNat, i_rem, i_div, w_in, w_in2, w_cnt, w_cnt2, z01, z01', il, li, lc_ge, lc_le, lc_gt, lc_lt, lc_eq, l_ofNat, l0, l_eq, l_lt, l_le]) <;> omega)) (h_bind (r_avF h hN) ?_)
    by_cases hz : 0 < avA (rv S 266)
    · have e : (if (0 ≤ b ∧ b ≤ 30) ∧ 0 < avA (rv S 266) then (1 : Int) else 0) = 1 := if_pos ⟨hb, hz⟩
      rw [e]; exact h_neg (by first | omega | ((simp (disch := omega) only [i0, i1, i_lt, i_le, i_eq, i_add, i_sub, i_mul, i_neg, i_ofNat, i_rem, i_div, w_in, w_in2, w_cnt, w_cnt2, z01, z01', il, li, lc_ge, lc_le, lc_gt, lc_lt, lc_eq, l_ofNat, l0, l_eq, l_lt, l_le]) <;> omega)) rfl
    · have e : (if (0 ≤ b ∧ b ≤ 30) ∧ 0 < avA (rv S 266) then (1 : Int) else 0) = 0 := if_neg (fun q => hz q.2)
      rw [e]; exact h_pos (by first | omega | ((simp (disch := omega) only [i0, i1, i_lt, i_le, i_eq, i_add, i_sub, i_mul, i_neg, i_ofNat, i_rem, i_div, w_in, w_in2, w_cnt, w_cnt2, z01, z01', il, li, lc_ge, lc_le, lc_gt, lc_lt, lc_eq, l_ofNat, l0, l_eq, l_lt, l_le]) <;> omega)) rfl
  · have e : (if (0 ≤ b ∧ b ≤ 30) ∧ 0 < avA (rv S 266) then (1 : Int) else 0) = 0 := if_neg (fun q => hb q.1)
    rw [e]; exact h_pos (by first | omega | ((simp (disch := omega) only [i0, i1, i_lt, i_le, i_eq, i_add, i_sub, i_mul, i_neg, i_ofNat, i_rem, i_div, w_in, w_in2, w_cnt, w_cnt2, z01, z01', il, li, lc_ge, lc_le, lc_gt, lc_lt, lc_eq, l_ofNat, l0, l_eq, l_lt, l_le]) <;> omega)) rfl
theorem pm_seats (h : Rel T S) {N : Nat} (hN : 2000000 ≤ N) (v0 v1 v2 : Int32) (hv : v2 = Int32.ofInt 0 ∨ v2 = Int32.ofInt 1) : PM T S (fX11_seats N v0 v1 v2) (fX12_seats N v0 v1 v2) := by
  obtain ⟨a, a1, a2, rfl⟩ := i_ex v0
  obtain ⟨b, b1, b2, rfl⟩ := i_ex v1
  have ha := av_rng h
  have hr := r_areS h hN b1 b2
  unfold PM
  by_cases hp : 0 ≤ a ∧ a ≤ 4
  · by_cases hb : 0 ≤ b ∧ b ≤ 30
    · by_cases hz : 0 < avA (rv S 266)
      · obtain ⟨p, rfl⟩ := Int.eq_ofNat_of_zero_le hp.1
        obtain ⟨s, rfl⟩ := Int.eq_ofNat_of_zero_le hb.1
        have hs : s ≤ 30 := by omega
        obtain ⟨f, f1, f2⟩ := c_sh h hN hs
        obtain ⟨bb, cc, g1, g2⟩ := c_re h hN hs hz
        rcases hv with rfl | rfl
        · have h' := Rel_Fq h (Fq_127 S (shS (vtI (rv S 266)) s f))
          have eR : rv (ySa S 127 (shS (vtI (rv S 266)) s f)) 266 = rv S 266 := Fq_rv (Fq_127 S _) (by unfold kA; omega)
          have hr' := r_areS h' hN b1 b2
          obtain ⟨xa, xb, xc, x1, x2⟩ := r_ls h' hN hs (by rw [eR]; exact hz)
          rw [eR] at hr' x1 x2
          rw [if_pos ⟨hb, hz⟩] at hr'
          have hag := seats_ag f1 g1 x1
          refine ⟨shS (vtI (rv S 266)) s f p, ySa S 127 (shS (vtI (rv S 266)) s f), xQ (ySa S 127 (shS (vtI (rv S 266)) s f)) (shS (vtI (rv S 266)) s xa) (rsK (k0R (rv S 266) s) (xb, xc)).1 (rsK (k0R (rv S 266) s) (xb, xc)).2, ?_, ?_, Rel_Fq h' (Fq_xQ _ (shS (vtI (rv S 266)) s xa) (rsK (k0R (rv S 266) s) (xb, xc)).1 (rsK (k0R (rv S 266) s) (xb, xc)).2)⟩
          · unfold fX11_seats fX11_isParish
            refine h_neg (by first | omega | ((simp (disch := omega) only [i0, i1, i_lt, i_le, i_eq, i_add, i_sub, i_mul, i_neg, i_ofNat, i_rem, i_div, w_in, w_in2, w_cnt, w_cnt2, z01, z01', il, li, lc_ge, lc_le, lc_gt, lc_lt, lc_eq, l_ofNat, l0, l_eq, l_lt, l_le]) <;> omega)) (h_neg (by first | omega | ((simp (disch := omega) only [i0, i1, i_lt, i_le, i_eq, i_add, i_sub, i_mul, i_neg, i_ofNat, i_rem, i_div, w_in, w_in2, w_cnt, w_cnt2, z01, z01', il, li, lc_ge, lc_le, lc_gt, lc_lt, lc_eq, l_ofNat, l0, l_eq, l_lt, l_le]) <;> omega)) (h_bind (c_avF h hN) (h_pos (by first | omega | ((simp (disch := omega) only [i0, i1, i_lt, i_le, i_eq, i_add, i_sub, i_mul, i_neg, i_ofNat, i_rem, i_div, w_in, w_in2, w_cnt, w_cnt2, z01, z01', il, li, lc_ge, lc_le, lc_gt, lc_lt, lc_eq, l_ofNat, l0, l_eq, l_lt, l_le]) <;> omega)) (h_pos rfl (h_bind f2 (h_ainN (by omega) (by omega) ?_))))))
            rw [ySa_at]
          · unfold fX12_seats
            refine h_neg (by first | omega | ((simp (disch := omega) only [i0, i1, i_lt, i_le, i_eq, i_add, i_sub, i_mul, i_neg, i_ofNat, i_rem, i_div, w_in, w_in2, w_cnt, w_cnt2, z01, z01', il, li, lc_ge, lc_le, lc_gt, lc_lt, lc_eq, l_ofNat, l0, l_eq, l_lt, l_le]) <;> omega)) (h_bind hr' (h_pos (by decide) (h_bind x2 (h_pos rfl (h_ainN (by omega) (by omega) ?_)))))
            rw [xQ_a, hag.1 p (by omega)]
        · have h' := Rel_Fq h (Fq_wQ S (rsK (k0R (rv S 266) s) (bb, cc)).1 (rsK (k0R (rv S 266) s) (bb, cc)).2)
          have eR : rv (wQ S (rsK (k0R (rv S 266) s) (bb, cc)).1 (rsK (k0R (rv S 266) s) (bb, cc)).2) 266 = rv S 266 := Fq_rv (Fq_wQ S _ _) (by unfold kA; omega)
          have hr' := r_areS h' hN b1 b2
          obtain ⟨xa, xb, xc, x1, x2⟩ := r_ls h' hN hs (by rw [eR]; exact hz)
          rw [eR] at hr' x1 x2
          rw [if_pos ⟨hb, hz⟩] at hr'
          have hag := seats_ag f1 g1 x1
          refine ⟨(rsK (k0R (rv S 266) s) (bb, cc)).1 p, wQ S (rsK (k0R (rv S 266) s) (bb, cc)).1 (rsK (k0R (rv S 266) s) (bb, cc)).2, xQ (wQ S (rsK (k0R (rv S 266) s) (bb, cc)).1 (rsK (k0R (rv S 266) s) (bb, cc)).2) (shS (vtI (rv S 266)) s xa) (rsK (k0R (rv S 266) s) (xb, xc)).1 (rsK (k0R (rv S 266) s) (xb, xc)).2, ?_, ?_, Rel_Fq h' (Fq_xQ _ (shS (vtI (rv S 266)) s xa) (rsK (k0R (rv S 266) s) (xb, xc)).1 (rsK (k0R (rv S 266) s) (xb, xc)).2)⟩
          · unfold fX11_seats fX11_isParish
            refine h_neg (by first | omega | ((simp (disch := omega) only [i0, i1, i_lt, i_le, i_eq, i_add, i_sub, i_mul, i_neg, i_ofNat, i_rem, i_div, w_in, w_in2, w_cnt, w_cnt2, z01, z01', il, li, lc_ge, lc_le, lc_gt, lc_lt, lc_eq, l_ofNat, l0, l_eq, l_lt, l_le]) <;> omega)) (h_neg (by first | omega | ((simp (disch := omega) only [i0, i1, i_lt, i_le, i_eq, i_add, i_sub, i_mul, i_neg, i_ofNat, i_rem, i_div, w_in, w_in2, w_cnt, w_cnt2, z01, z01', il, li, lc_ge, lc_le, lc_gt, lc_lt, lc_eq, l_ofNat, l0, l_eq, l_lt, l_le]) <;> omega)) (h_bind (c_avF h hN) (h_pos (by first | omega | ((simp (disch := omega) only [i0, i1, i_lt, i_le, i_eq, i_add, i_sub, i_mul, i_neg, i_ofNat, i_rem, i_div, w_in, w_in2, w_cnt, w_cnt2, z01, z01', il, li, lc_ge, lc_le, lc_gt, lc_lt, lc_eq, l_ofNat, l0, l_eq, l_lt, l_le]) <;> omega)) (h_neg (by decide) (h_bind g2 (h_ainN (by omega) (by omega) ?_))))))
            rw [wQ_b]
          · unfold fX12_seats
            refine h_neg (by first | omega | ((simp (disch := omega) only [i0, i1, i_lt, i_le, i_eq, i_add, i_sub, i_mul, i_neg, i_ofNat, i_rem, i_div, w_in, w_in2, w_cnt, w_cnt2, z01, z01', il, li, lc_ge, lc_le, lc_gt, lc_lt, lc_eq, l_ofNat, l0, l_eq, l_lt, l_le]) <;> omega)) (h_bind hr' (h_pos (by decide) (h_bind x2 (h_neg (by decide) (h_ainN (by omega) (by omega) ?_)))))
            rw [xQ_b, hag.2 p (by omega)]
      · rw [if_neg (fun q => hz q.2)] at hr
        refine ⟨Int32.ofInt (-1), S, S, ?_, ?_, h⟩
        · unfold fX11_seats fX11_isParish
          exact h_neg (by first | omega | ((simp (disch := omega) only [i0, i1, i_lt, i_le, i_eq, i_add, i_sub, i_mul, i_neg, i_ofNat, i_rem, i_div, w_in, w_in2, w_cnt, w_cnt2, z01, z01', il, li, lc_ge, lc_le, lc_gt, lc_lt, lc_eq, l_ofNat, l0, l_eq, l_lt, l_le]) <;> omega)) (h_neg (by first | omega | ((simp (disch := omega) only [i0, i1, i_lt, i_le, i_eq, i_add, i_sub, i_mul, i_neg, i_ofNat, i_rem, i_div, w_in, w_in2, w_cnt, w_cnt2, z01, z01', il, li, lc_ge, lc_le, lc_gt, lc_lt, lc_eq, l_ofNat, l0, l_eq, l_lt, l_le]) <;> omega)) (h_bind (c_avF h hN) (h_neg (by first | omega | ((simp (disch := omega) only [i0, i1, i_lt, i_le, i_eq, i_add, i_sub, i_mul, i_neg, i_ofNat, i_rem, i_div, w_in, w_in2, w_cnt, w_cnt2, z01, z01', il, li, lc_ge, lc_le, lc_gt, lc_lt, lc_eq, l_ofNat, l0, l_eq, l_lt, l_le]) <;> omega)) rfl)))
        · unfold fX12_seats
          exact h_neg (by first | omega | ((simp (disch := omega) only [i0, i1, i_lt, i_le, i_eq, i_add, i_sub, i_mul, i_neg, i_ofNat, i_rem, i_div, w_in, w_in2, w_cnt, w_cnt2, z01, z01', il, li, lc_ge, lc_le, lc_gt, lc_lt, lc_eq, l_ofNat, l0, l_eq, l_lt, l_le]) <;> omega)) (h_bind hr (h_neg (by decide) rfl))
    · rw [if_neg (fun q => hb q.1)] at hr
      refine ⟨Int32.ofInt (-1), S, S, ?_, ?_, h⟩
      · unfold fX11_seats fX11_isParish
        exact h_neg (by first | omega | ((simp (disch := omega) only [i0, i1, i_lt, i_le, i_eq, i_add, i_sub, i_mul, i_neg, i_ofNat, i_rem, i_div, w_in, w_in2, w_cnt, w_cnt2, z01, z01', il, li, lc_ge, lc_le, lc_gt, lc_lt, lc_eq, l_ofNat, l0, l_eq, l_lt, l_le]) <;> omega)) (h_pos (by first | omega | ((simp (disch := omega) only [i0, i1, i_lt, i_le, i_eq, i_add, i_sub, i_mul, i_neg, i_ofNat, i_rem, i_div, w_in, w_in2, w_cnt, w_cnt2, z01, z01', il, li, lc_ge, lc_le, lc_gt, lc_lt, lc_eq, l_ofNat, l0, l_eq, l_lt, l_le]) <;> omega)) rfl)
      · unfold fX12_seats
        exact h_neg (by first | omega | ((simp (disch := omega) only [i0, i1, i_lt, i_le, i_eq, i_add, i_sub, i_mul, i_neg, i_ofNat, i_rem, i_div, w_in, w_in2, w_cnt, w_cnt2, z01, z01', il, li, lc_ge, lc_le, lc_gt, lc_lt, lc_eq, l_ofNat, l0, l_eq, l_lt, l_le]) <;> omega)) (h_bind hr (h_neg (by decide) rfl))
  · refine ⟨Int32.ofInt (-1), S, S, ?_, ?_, h⟩
    · unfold fX11_seats fX11_isParish
      exact h_pos (by first | omega | ((simp (disch := omega) only [i0, i1, i_lt, i_le, i_eq, i_add, i_sub, i_mul, i_neg, i_ofNat, i_rem, i_div, w_in, w_in2, w_cnt, w_cnt2, z01, z01', il, li, lc_ge, lc_le, lc_gt, lc_lt, lc_eq, l_ofNat, l0, l_eq, l_lt, l_le]) <;> omega)) rfl
    · unfold fX12_seats
      exact h_pos (by first | omega | ((simp (disch := omega) only [i0, i1, i_lt, i_le, i_eq, i_add, i_sub, i_mul, i_neg, i_ofNat, i_rem, i_div, w_in, w_in2, w_cnt, w_cnt2, z01, z01', il, li, lc_ge, lc_le, lc_gt, lc_lt, lc_eq, l_ofNat, l0, l_eq, l_lt, l_le]) <;> omega)) rfl
/-- where two rows are unlike -/
theorem c_dif {N : Nat} {f g : Nat → Int32} {S : yS} (h1 : S.2.2.1 127 = f) (h2 : S.2.2.1 128 = g) : ∀ (m n p : Nat) (x : Int32), p + m = 5 → m < n → lX4_differing N n x (Int32.ofInt (p : Int)) S = some (orB (fun p => !decide (f p = g p)) p m x, S)
  | 0, n + 1, p, x, hm, _ => by
    rw [lX4_differing]
    exact h_pos (by first | omega | ((simp (disch := omega) only [i0, i1, i_lt, i_le, i_eq, i_add, i_sub, i_mul, i_neg, i_ofNat, i_rem, i_div, w_in, w_in2, w_cnt, w_cnt2, z01, z01', il, li, lc_ge, lc_le, lc_gt, lc_lt, lc_eq, l_ofNat, l0, l_eq, l_lt, l_le]) <;> omega)) rfl
  | m + 1, n + 1, p, x, hm, hn => by
    rw [lX4_differing]
    refine h_neg (by first | omega | ((simp (disch := omega) only [i0, i1, i_lt, i_le, i_eq, i_add, i_sub, i_mul, i_neg, i_ofNat, i_rem, i_div, w_in, w_in2, w_cnt, w_cnt2, z01, z01', il, li, lc_ge, lc_le, lc_gt, lc_lt, lc_eq, l_ofNat, l0, l_eq, l_lt, l_le]) <;> omega)) (h_ainN (by omega) (by omega) (h_ainN (by omega) (by omega) ?_))
    rw [h1, h2, i_add, show (p : Int) + 1 = ((p + 1 : Nat) : Int) by omega]
    unfold orB
    by_cases hq : f p = g p
    · rw [decide_eq_true hq]
      exact h_pos hq (c_dif h1 h2 m n (p + 1) x (by omega) (by omega))
    · rw [decide_eq_false hq]
      exact h_neg hq (c_dif h1 h2 m n (p + 1) _ (by omega) (by omega))
theorem r_dif {N : Nat} {f g : Nat → Int32} {S : yS} (h1 : S.2.2.1 276 = f) (h2 : S.2.2.1 277 = g) : ∀ (m n p : Nat) (x : Int32), p + m = 5 → m < n → lX12_unlike N n x (Int32.ofInt (p : Int)) S = some (orB (fun p => !decide (f p = g p)) p m x, S)
  | 0, n + 1, p, x, hm, _ => by
    rw [lX12_unlike]
    exact h_pos (by first | omega | ((simp (disch := omega) only [i0, i1, i_lt, i_le, i_eq, i_add, i_sub, i_mul, i_neg, i_ofNat, i_rem, i_div, w_in, w_in2, w_cnt, w_cnt2, z01, z01', il, li, lc_ge, lc_le, lc_gt, lc_lt, lc_eq, l_ofNat, l0, l_eq, l_lt, l_le]) <;> omega)) rfl
  | m + 1, n + 1, p, x, hm, hn => by
    rw [lX12_unlike]
    refine h_neg (by first | omega | ((simp (disch := omega) only [i0, i1, i_lt, i_le, i_eq, i_add, i_sub, i_mul, i_neg, i_ofNat, i_rem, i_div, w_in, w_in2, w_cnt, w_cnt2, z01, z01', il, li, lc_ge, lc_le, lc_gt, lc_lt, lc_eq, l_ofNat, l0, l_eq, l_lt, l_le]) <;> omega)) (h_ainN (by omega) (by omega) (h_ainN (by omega) (by omega) ?_))
    rw [h1, h2, i_add, show (p : Int) + 1 = ((p + 1 : Nat) : Int) by omega, show x ||| Int32.ofInt 0 = x from Int32.or_zero]
    unfold orB
    by_cases hq : f p = g p
    · rw [decide_eq_true hq]
      exact h_pos hq (r_dif h1 h2 m n (p + 1) x (by omega) (by omega))
    · rw [decide_eq_false hq]
      exact h_neg hq (r_dif h1 h2 m n (p + 1) _ (by omega) (by omega))
theorem pm_unlike (h : Rel T S) {N : Nat} (hN : 2000000 ≤ N) (v0 : Int32) : PM T S (fX11_unlike N v0) (fX12_unlike N v0) := by
  obtain ⟨b, b1, b2, rfl⟩ := i_ex v0
  have ha := av_rng h
  have hr := r_areS h hN b1 b2
  unfold PM
  by_cases hb : 0 ≤ b ∧ b ≤ 30
  · by_cases hz : 0 < avA (rv S 266)
    · obtain ⟨s, rfl⟩ := Int.eq_ofNat_of_zero_le hb.1
      have hs : s ≤ 30 := by omega
      obtain ⟨f, f1, f2⟩ := c_sh h hN hs
      have h1 := Rel_Fq h (Fq_127 S (shS (vtI (rv S 266)) s f))
      have eR1 : rv (ySa S 127 (shS (vtI (rv S 266)) s f)) 266 = rv S 266 := Fq_rv (Fq_127 S _) (by unfold kA; omega)
      obtain ⟨bb, cc, g1, g2⟩ := c_re h1 hN hs (by rw [eR1]; exact hz)
      rw [eR1] at g1 g2
      generalize hS2 : wQ (ySa S 127 (shS (vtI (rv S 266)) s f)) (rsK (k0R (rv S 266) s) (bb, cc)).1 (rsK (k0R (rv S 266) s) (bb, cc)).2 = S2 at g2
      have hF : Fq S S2 := by rw [← hS2]; exact Fq_trans (Fq_127 S _) (Fq_wQ _ _ _)
      have h' := Rel_Fq h hF
      have eR : rv S2 266 = rv S 266 := Fq_rv hF (by unfold kA; omega)
      have s1 : S2.2.2.1 127 = shS (vtI (rv S 266)) s f := by
        rw [← hS2]
        unfold wQ
        rw [ySa_ne _ _ (by omega), ySa_ne _ _ (by omega), ySa_at]
      have s2 : S2.2.2.1 128 = (rsK (k0R (rv S 266) s) (bb, cc)).1 := by rw [← hS2]; exact wQ_b _ _ _
      have hr' := r_areS h' hN b1 b2
      obtain ⟨xa, xb, xc, x1, x2⟩ := r_ls h' hN hs (by rw [eR]; exact hz)
      rw [eR] at hr' x1 x2
      rw [if_pos ⟨hb, hz⟩] at hr'
      have hag := seats_ag f1 g1 x1
      have d1 := c_dif (N := N) s1 s2 5 N 0 (Int32.ofInt 0) (by omega) (by omega)
      have d2 := r_dif (N := N) (xQ_a S2 (shS (vtI (rv S 266)) s xa) (rsK (k0R (rv S 266) s) (xb, xc)).1 (rsK (k0R (rv S 266) s) (xb, xc)).2) (xQ_b S2 (shS (vtI (rv S 266)) s xa) (rsK (k0R (rv S 266) s) (xb, xc)).1 (rsK (k0R (rv S 266) s) (xb, xc)).2) 5 N 0 (Int32.ofInt 0) (by omega) (by omega)
      have e : orB (fun p => !decide (shS (vtI (rv S 266)) s f p = (rsK (k0R (rv S 266) s) (bb, cc)).1 p)) 0 5 (Int32.ofInt 0) = orB (fun p => !decide (shS (vtI (rv S 266)) s xa p = (rsK (k0R (rv S 266) s) (xb, xc)).1 p)) 0 5 (Int32.ofInt 0) := orB_congr 5 0 _ (fun k _ hk => by rw [hag.1 k (by omega), hag.2 k (by omega)])
      rw [← e] at d2
      refine ⟨orB (fun p => !decide (shS (vtI (rv S 266)) s f p = (rsK (k0R (rv S 266) s) (bb, cc)).1 p)) 0 5 (Int32.ofInt 0), S2, xQ S2 (shS (vtI (rv S 266)) s xa) (rsK (k0R (rv S 266) s) (xb, xc)).1 (rsK (k0R (rv S 266) s) (xb, xc)).2, ?_, ?_, Rel_Fq h' (Fq_xQ S2 (shS (vtI (rv S 266)) s xa) (rsK (k0R (rv S 266) s) (xb, xc)).1 (rsK (k0R (rv S 266) s) (xb, xc)).2)⟩
      · unfold fX11_unlike
        refine h_neg (by first | omega | ((simp (disch := omega) only [i0, i1, i_lt, i_le, i_eq, i_add, i_sub, i_mul, i_neg, i_ofNat, i_rem, i_div, w_in, w_in2, w_cnt, w_cnt2, z01, z01', il, li, lc_ge, lc_le, lc_gt, lc_lt, lc_eq, l_ofNat, l0, l_eq, l_lt, l_le]) <;> omega)) (h_bind (c_avF h hN) (h_pos (by first | omega | ((simp (disch := omega) only [i0, i1, i_lt, i_le, i_eq, i_add, i_sub, i_mul, i_neg, i_ofNat, i_rem, i_div, w_in, w_in2, w_cnt, w_cnt2, z01, z01', il, li, lc_ge, lc_le, lc_gt, lc_lt, lc_eq, l_ofNat, l0, l_eq, l_lt, l_le]) <;> omega)) (h_bind (v := (orB (fun p => !decide (shS (vtI (rv S 266)) s f p = (rsK (k0R (rv S 266) s) (bb, cc)).1 p)) 0 5 (Int32.ofInt 0), S2)) ?_ rfl)))
        unfold fX4_differing
        exact h_bind f2 (h_bind g2 d1)
      · unfold fX12_unlike
        exact h_bind hr' (h_pos (by decide) (h_bind x2 d2))
    · rw [if_neg (fun q => hz q.2)] at hr
      refine ⟨Int32.ofInt (-1), S, S, ?_, ?_, h⟩
      · unfold fX11_unlike
        exact h_neg (by first | omega | ((simp (disch := omega) only [i0, i1, i_lt, i_le, i_eq, i_add, i_sub, i_mul, i_neg, i_ofNat, i_rem, i_div, w_in, w_in2, w_cnt, w_cnt2, z01, z01', il, li, lc_ge, lc_le, lc_gt, lc_lt, lc_eq, l_ofNat, l0, l_eq, l_lt, l_le]) <;> omega)) (h_bind (c_avF h hN) (h_neg (by first | omega | ((simp (disch := omega) only [i0, i1, i_lt, i_le, i_eq, i_add, i_sub, i_mul, i_neg, i_ofNat, i_rem, i_div, w_in, w_in2, w_cnt, w_cnt2, z01, z01', il, li, lc_ge, lc_le, lc_gt, lc_lt, lc_eq, l_ofNat, l0, l_eq, l_lt, l_le]) <;> omega)) rfl))
      · unfold fX12_unlike
        exact h_bind hr (h_neg (by decide) rfl)
  · rw [if_neg (fun q => hb q.1)] at hr
    refine ⟨Int32.ofInt (-1), S, S, ?_, ?_, h⟩
    · unfold fX11_unlike
      exact h_pos (by first | omega | ((simp (disch := omega) only [i0, i1, i_lt, i_le, i_eq, i_add, i_sub, i_mul, i_neg, i_ofNat, i_rem, i_div, w_in, w_in2, w_cnt, w_cnt2, z01, z01', il, li, lc_ge, lc_le, lc_gt, lc_lt, lc_eq, l_ofNat, l0, l_eq, l_lt, l_le]) <;> omega)) rfl
    · unfold fX12_unlike
      exact h_bind hr (h_neg (by decide) rfl)
end PMS
