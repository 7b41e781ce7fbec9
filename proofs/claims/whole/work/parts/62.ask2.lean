/-! ===== depth, mornings, who is due ===== -/
section PMS
variable {T : yK} {S : yS}
def dpt (v : Nat) : Nat → Nat
  | 0 => v
  | n + 1 => dpt (v * 2 / 3) n
theorem dpt_le : ∀ (n v : Nat), dpt v n ≤ v
  | 0, v => Nat.le_refl _
  | n + 1, v => by
    unfold dpt
    have := dpt_le n (v * 2 / 3)
    omega
theorem dpt_succ : ∀ (n v : Nat), dpt v (n + 1) = dpt v n * 2 / 3
  | 0, v => rfl
  | n + 1, v => by
    show dpt (v * 2 / 3) (n + 1) = dpt (v * 2 / 3) n * 2 / 3
    exact dpt_succ n _
theorem dpt_20 : ∀ v, v < 1000 → dpt v 20 = 0 := by decide +kernel
theorem deep_i {v : Nat} (h : v < 1000) : fX11_deeper (Int32.ofInt (v : Int)) = Int32.ofInt ((v * 2 / 3 : Nat) : Int) := by
  unfold fX11_deeper
  rw [i_mul, i_div (by omega) (by omega) (by omega) (by omega)]
  congr 1
theorem c_depth {N : Nat} : ∀ (m n v k : Nat), v < 1000 → m < n → k + m < 1000 → lX11_depth N n (Int32.ofInt ((k + m : Nat) : Int)) (Int32.ofInt (v : Int)) (Int32.ofInt (k : Int)) S = some (Int32.ofInt (dpt v m : Nat))
  | 0, n + 1, v, k, hv, _, hk => by
    rw [lX11_depth]
    exact h_pos (by first | omega | ((simp (disch := omega) only [i0, i1, i_lt, i_le, i_eq, i_add, i_sub, i_mul, i_neg, i_ofNat, i_rem, i_div, w_in, w_in2, w_cnt, w_cnt2, z01, z01', il, li, lc_ge, lc_le, lc_gt, lc_lt, lc_eq, l_ofNat, l0, l_eq, l_lt, l_le]) <;> omega)) rfl
  | m + 1, n + 1, v, k, hv, hn, hk => by
    rw [lX11_depth]
    refine h_neg (by first | omega | ((simp (disch := omega) only [i0, i1, i_lt, i_le, i_eq, i_add, i_sub, i_mul, i_neg, i_ofNat, i_rem, i_div, w_in, w_in2, w_cnt, w_cnt2, z01, z01', il, li, lc_ge, lc_le, lc_gt, lc_lt, lc_eq, l_ofNat, l0, l_eq, l_lt, l_le]) <;> omega)) ?_
    rw [deep_i hv, i_add, show (k : Int) + 1 = ((k + 1 : Nat) : Int) by omega, show k + (m + 1) = (k + 1) + m by omega]
    exact c_depth m n _ (k + 1) (by omega) (by omega) (by omega)
theorem r_depth {N : Nat} : ∀ (m n v k : Nat), v < 1000 → m < n → k + m < 1000 → lX12_depth N n (Int32.ofInt ((k + m : Nat) : Int)) (Int32.ofInt (v : Int)) (Int32.ofInt (k : Int)) S = some (Int32.ofInt (dpt v m : Nat))
  | 0, n + 1, v, k, hv, _, hk => by
    rw [lX12_depth]
    exact h_pos (by first | omega | ((simp (disch := omega) only [i0, i1, i_lt, i_le, i_eq, i_add, i_sub, i_mul, i_neg, i_ofNat, i_rem, i_div, w_in, w_in2, w_cnt, w_cnt2, z01, z01', il, li, lc_ge, lc_le, lc_gt, lc_lt, lc_eq, l_ofNat, l0, l_eq, l_lt, l_le]) <;> omega)) rfl
  | m + 1, n + 1, v, k, hv, hn, hk => by
    rw [lX12_depth]
    refine h_neg (by first | omega | ((simp (disch := omega) only [i0, i1, i_lt, i_le, i_eq, i_add, i_sub, i_mul, i_neg, i_ofNat, i_rem, i_div, w_in, w_in2, w_cnt, w_cnt2, z01, z01', il, li, lc_ge, lc_le, lc_gt, lc_lt, lc_eq, l_ofNat, l0, l_eq, l_lt, l_le]) <;> omega)) (h_pst ?_)
    have e := deep_i hv
    unfold fX11_deeper at e
    rw [e, i_add, show (k : Int) + 1 = ((k + 1 : Nat) : Int) by omega, show k + (m + 1) = (k + 1) + m by omega]
    exact r_depth m n _ (k + 1) (by omega) (by omega) (by omega)
theorem r_depthF {N : Nat} (hN : 2000000 ≤ N) {v m : Nat} (hv : v < 1000) (hm : m < 100) : fX12_depth N (Int32.ofInt (v : Int)) (Int32.ofInt (m : Int)) S = some (Int32.ofInt (dpt v m : Nat)) := by
  unfold fX12_depth fX12_isGuess
  refine h_neg (by first | omega | ((simp (disch := omega) only [i0, i1, i_lt, i_le, i_eq, i_add, i_sub, i_mul, i_neg, i_ofNat, i_rem, i_div, w_in, w_in2, w_cnt, w_cnt2, z01, z01', il, li, lc_ge, lc_le, lc_gt, lc_lt, lc_eq, l_ofNat, l0, l_eq, l_lt, l_le]) <;> omega)) (h_pos (by first | omega | ((simp (disch := omega) only [i0, i1, i_lt, i_le, i_eq, i_add, i_sub, i_mul, i_neg, i_ofNat, i_rem, i_div, w_in, w_in2, w_cnt, w_cnt2, z01, z01', il, li, lc_ge, lc_le, lc_gt, lc_lt, lc_eq, l_ofNat, l0, l_eq, l_lt, l_le]) <;> omega)) ?_)
  have := r_depth (S := S) (N := N) m N v 0 hv (by omega) (by omega)
  rw [Nat.zero_add] at this
  exact this
theorem pm_depth {N : Nat} (hN : 2000000 ≤ N) (v0 v1 : Int32) : PM0 S (fX11_depth N v0 v1) (fX12_depth N v0 v1) := by
  obtain ⟨a, a1, a2, rfl⟩ := i_ex v0
  obtain ⟨b, b1, b2, rfl⟩ := i_ex v1
  by_cases ha : 0 ≤ a ∧ a ≤ 999
  · by_cases hb : 0 ≤ b ∧ b ≤ 99
    · obtain ⟨v, rfl⟩ := Int.eq_ofNat_of_zero_le ha.1
      obtain ⟨m, rfl⟩ := Int.eq_ofNat_of_zero_le hb.1
      refine ⟨_, ?_, r_depthF hN (by omega) (by omega)⟩
      unfold fX11_depth
      refine h_neg (by first | omega | ((simp (disch := omega) only [i0, i1, i_lt, i_le, i_eq, i_add, i_sub, i_mul, i_neg, i_ofNat, i_rem, i_div, w_in, w_in2, w_cnt, w_cnt2, z01, z01', il, li, lc_ge, lc_le, lc_gt, lc_lt, lc_eq, l_ofNat, l0, l_eq, l_lt, l_le]) <;> omega)) (h_pos (by first | omega | ((simp (disch := omega) only [i0, i1, i_lt, i_le, i_eq, i_add, i_sub, i_mul, i_neg, i_ofNat, i_rem, i_div, w_in, w_in2, w_cnt, w_cnt2, z01, z01', il, li, lc_ge, lc_le, lc_gt, lc_lt, lc_eq, l_ofNat, l0, l_eq, l_lt, l_le]) <;> omega)) ?_)
      have := c_depth (S := S) (N := N) m N v 0 (by omega) (by omega) (by omega)
      rw [Nat.zero_add] at this
      exact this
    · unfold PM0 fX11_depth fX12_depth fX12_isGuess
      exact ⟨_, h_neg (by first | omega | ((simp (disch := omega) only [i0, i1, i_lt, i_le, i_eq, i_add, i_sub, i_mul, i_neg, i_ofNat, i_rem, i_div, w_in, w_in2, w_cnt, w_cnt2, z01, z01', il, li, lc_ge, lc_le, lc_gt, lc_lt, lc_eq, l_ofNat, l0, l_eq, l_lt, l_le]) <;> omega)) (h_neg (by first | omega | ((simp (disch := omega) only [i0, i1, i_lt, i_le, i_eq, i_add, i_sub, i_mul, i_neg, i_ofNat, i_rem, i_div, w_in, w_in2, w_cnt, w_cnt2, z01, z01', il, li, lc_ge, lc_le, lc_gt, lc_lt, lc_eq, l_ofNat, l0, l_eq, l_lt, l_le]) <;> omega)) rfl), h_neg (by first | omega | ((simp (disch := omega) only [i0, i1, i_lt, i_le, i_eq, i_add, i_sub, i_mul, i_neg, i_ofNat, i_rem, i_div, w_in, w_in2, w_cnt, w_cnt2, z01, z01', il, li, lc_ge, lc_le, lc_gt, lc_lt, lc_eq, l_ofNat, l0, l_eq, l_lt, l_le]) <;> omega)) (h_neg (by first | omega | ((simp (disch := omega) only [i0, i1, i_lt, i_le, i_eq, i_add, i_sub, i_mul, i_neg, i_ofNat, i_rem, i_div, w_in, w_in2, w_cnt, w_cnt2, z01, z01', il, li, lc_ge, lc_le, lc_gt, lc_lt, lc_eq, l_ofNat, l0, l_eq, l_lt, l_le]) <;> omega)) rfl)⟩
  · unfold PM0 fX11_depth fX12_depth fX12_isGuess
    exact ⟨_, h_pos (by first | omega | ((simp (disch := omega) only [i0, i1, i_lt, i_le, i_eq, i_add, i_sub, i_mul, i_neg, i_ofNat, i_rem, i_div, w_in, w_in2, w_cnt, w_cnt2, z01, z01', il, li, lc_ge, lc_le, lc_gt, lc_lt, lc_eq, l_ofNat, l0, l_eq, l_lt, l_le]) <;> omega)) rfl, h_pos (by first | omega | ((simp (disch := omega) only [i0, i1, i_lt, i_le, i_eq, i_add, i_sub, i_mul, i_neg, i_ofNat, i_rem, i_div, w_in, w_in2, w_cnt, w_cnt2, z01, z01', il, li, lc_ge, lc_le, lc_gt, lc_lt, lc_eq, l_ofNat, l0, l_eq, l_lt, l_le]) <;> omega)) rfl⟩
def rsS : Nat → Nat → Nat → Nat
  | 0, _, k => k
  | m + 1, v, k => if v * 2 / 3 = v then k else rsS m (v * 2 / 3) (k + 1)
theorem c_rests {N : Nat} : ∀ (m n v k : Nat), v < 1000 → dpt v m = 0 → m < n → k + m < 100 → lX11_rests N n (Int32.ofInt (v : Int)) (Int32.ofInt (k : Int)) S = some (Int32.ofInt (rsS m v k : Nat))
  | 0, n + 1, v, k, hv, hd, _, hk => by
    rw [lX11_rests]
    have hd : v = 0 := hd
    subst hd
    refine h_neg (by first | omega | ((simp (disch := omega) only [i0, i1, i_lt, i_le, i_eq, i_add, i_sub, i_mul, i_neg, i_ofNat, i_rem, i_div, w_in, w_in2, w_cnt, w_cnt2, z01, z01', il, li, lc_ge, lc_le, lc_gt, lc_lt, lc_eq, l_ofNat, l0, l_eq, l_lt, l_le]) <;> omega)) (h_pos (by decide) rfl)
  | m + 1, n + 1, v, k, hv, hd, hn, hk => by
    rw [lX11_rests, deep_i hv]
    refine h_neg (by first | omega | ((simp (disch := omega) only [i0, i1, i_lt, i_le, i_eq, i_add, i_sub, i_mul, i_neg, i_ofNat, i_rem, i_div, w_in, w_in2, w_cnt, w_cnt2, z01, z01', il, li, lc_ge, lc_le, lc_gt, lc_lt, lc_eq, l_ofNat, l0, l_eq, l_lt, l_le]) <;> omega)) ?_
    unfold rsS
    by_cases hc : v * 2 / 3 = v
    · rw [if_pos hc]
      exact h_pos (by rw [hc]) rfl
    · rw [if_neg hc]
      refine h_neg (by first | omega | ((simp (disch := omega) only [i0, i1, i_lt, i_le, i_eq, i_add, i_sub, i_mul, i_neg, i_ofNat, i_rem, i_div, w_in, w_in2, w_cnt, w_cnt2, z01, z01', il, li, lc_ge, lc_le, lc_gt, lc_lt, lc_eq, l_ofNat, l0, l_eq, l_lt, l_le]) <;> omega)) ?_
      rw [i_add, show (k : Int) + 1 = ((k + 1 : Nat) : Int) by omega]
      exact c_rests m n _ (k + 1) (by omega) hd (by omega) (by omega)
theorem r_rests {N : Nat} (hN : 2000000 ≤ N) {g : Nat} (hg : g < 1000) : ∀ (m n k : Nat), dpt g (k + m) = 0 → m < n → k + m < 90 → lX12_rests N n (Int32.ofInt (g : Int)) (Int32.ofInt (k : Int)) S = some (Int32.ofInt (rsS m (dpt g k) k : Nat))
  | 0, n + 1, k, hd, _, hk => by
    rw [lX12_rests, i_add, show (k : Int) + 1 = ((k + 1 : Nat) : Int) by omega]
    refine h_bind (r_depthF hN hg (by omega)) (h_bind (r_depthF hN hg (by omega)) ?_)
    have hd : dpt g k = 0 := hd
    rw [dpt_succ, hd]
    exact h_pos rfl rfl
  | m + 1, n + 1, k, hd, hn, hk => by
    rw [lX12_rests, i_add, show (k : Int) + 1 = ((k + 1 : Nat) : Int) by omega]
    refine h_bind (r_depthF hN hg (by omega)) (h_bind (r_depthF hN hg (by omega)) ?_)
    have hl := dpt_le k g
    unfold rsS
    rw [dpt_succ]
    by_cases hc : dpt g k * 2 / 3 = dpt g k
    · rw [if_pos hc]
      exact h_pos (by rw [hc]) rfl
    · rw [if_neg hc]
      refine h_neg (by first | omega | ((simp (disch := omega) only [i0, i1, i_lt, i_le, i_eq, i_add, i_sub, i_mul, i_neg, i_ofNat, i_rem, i_div, w_in, w_in2, w_cnt, w_cnt2, z01, z01', il, li, lc_ge, lc_le, lc_gt, lc_lt, lc_eq, l_ofNat, l0, l_eq, l_lt, l_le]) <;> omega)) ?_
      rw [← dpt_succ]
      exact r_rests hN hg m n (k + 1) (by rw [show k + 1 + m = k + (m + 1) by omega]; exact hd) (by omega) (by omega)
theorem pm_rests {N : Nat} (hN : 2000000 ≤ N) (v0 : Int32) : PM0 S (fX11_rests N v0) (fX12_rests N v0) := by
  obtain ⟨a, a1, a2, rfl⟩ := i_ex v0
  unfold PM0 fX11_rests fX12_rests fX12_isGuess
  by_cases ha : 0 ≤ a ∧ a ≤ 999
  · obtain ⟨v, rfl⟩ := Int.eq_ofNat_of_zero_le ha.1
    refine ⟨_, h_pos (by first | omega | ((simp (disch := omega) only [i0, i1, i_lt, i_le, i_eq, i_add, i_sub, i_mul, i_neg, i_ofNat, i_rem, i_div, w_in, w_in2, w_cnt, w_cnt2, z01, z01', il, li, lc_ge, lc_le, lc_gt, lc_lt, lc_eq, l_ofNat, l0, l_eq, l_lt, l_le]) <;> omega)) (c_rests 20 N v 0 (by omega) (dpt_20 v (by omega)) (by omega) (by omega)), h_pos (by first | omega | ((simp (disch := omega) only [i0, i1, i_lt, i_le, i_eq, i_add, i_sub, i_mul, i_neg, i_ofNat, i_rem, i_div, w_in, w_in2, w_cnt, w_cnt2, z01, z01', il, li, lc_ge, lc_le, lc_gt, lc_lt, lc_eq, l_ofNat, l0, l_eq, l_lt, l_le]) <;> omega)) (r_rests hN (by omega) 20 N 0 ?_ (by omega) (by omega))⟩
    exact dpt_20 v (by omega)
  · exact ⟨_, h_neg (by first | omega | ((simp (disch := omega) only [i0, i1, i_lt, i_le, i_eq, i_add, i_sub, i_mul, i_neg, i_ofNat, i_rem, i_div, w_in, w_in2, w_cnt, w_cnt2, z01, z01', il, li, lc_ge, lc_le, lc_gt, lc_lt, lc_eq, l_ofNat, l0, l_eq, l_lt, l_le]) <;> omega)) rfl, h_neg (by first | omega | ((simp (disch := omega) only [i0, i1, i_lt, i_le, i_eq, i_add, i_sub, i_mul, i_neg, i_ofNat, i_rem, i_div, w_in, w_in2, w_cnt, w_cnt2, z01, z01', il, li, lc_ge, lc_le, lc_gt, lc_lt, lc_eq, l_ofNat, l0, l_eq, l_lt, l_le]) <;> omega)) rfl⟩
/-! mornings -/
def hbS (A : Nat → Int) (p f : Int) : Nat → Nat → Bool
  | _, 0 => true
  | i, m + 1 => if decide (A (54 + 2 * i) % p = f) = decide (A (55 + 2 * i) = 1) then hbS A p f (i + 1) m else false
theorem hbS_t {A : Nat → Int} {p f : Int} {i m : Nat} (e : decide (A (54 + 2 * i) % p = f) = decide (A (55 + 2 * i) = 1)) : hbS A p f i (m + 1) = hbS A p f (i + 1) m := if_pos e
theorem hbS_f {A : Nat → Int} {p f : Int} {i m : Nat} (e : ¬ decide (A (54 + 2 * i) % p = f) = decide (A (55 + 2 * i) = 1)) : hbS A p f i (m + 1) = false := if_neg e
theorem c_fits (h : Rel T S) {N : Nat} {p f : Int} (hp : 1 ≤ p ∧ p ≤ 12) (hf : 0 ≤ f ∧ f ≤ 100) : ∀ (m n i : Nat), (i : Int) + m = rv S 266 4 → m < n → lX3_fits N n (Int32.ofInt p) (Int32.ofInt f) (Int32.ofInt i) S = some (Int32.ofInt (if hbS (rv S 266) p f i m = true then 1 else 0))
  | 0, n + 1, i, hm, _ => by
    have h4 := R_i4 h
    rw [lX3_fits, C_morns h]
    exact h_neg (by first | omega | ((simp (disch := omega) only [i0, i1, i_lt, i_le, i_eq, i_add, i_sub, i_mul, i_neg, i_ofNat, i_rem, i_div, w_in, w_in2, w_cnt, w_cnt2, z01, z01', il, li, lc_ge, lc_le, lc_gt, lc_lt, lc_eq, l_ofNat, l0, l_eq, l_lt, l_le]) <;> omega)) (h_pos (by first | omega | ((simp (disch := omega) only [i0, i1, i_lt, i_le, i_eq, i_add, i_sub, i_mul, i_neg, i_ofNat, i_rem, i_div, w_in, w_in2, w_cnt, w_cnt2, z01, z01', il, li, lc_ge, lc_le, lc_gt, lc_lt, lc_eq, l_ofNat, l0, l_eq, l_lt, l_le]) <;> omega)) rfl)
  | m + 1, n + 1, i, hm, hn => by
    have h4 := R_i4 h
    have hd := R_mday h (show i < 12 by omega)
    have hc := R_mcam h (show i < 12 by omega)
    rw [lX3_fits, C_morns h]
    refine h_neg (by first | omega | ((simp (disch := omega) only [i0, i1, i_lt, i_le, i_eq, i_add, i_sub, i_mul, i_neg, i_ofNat, i_rem, i_div, w_in, w_in2, w_cnt, w_cnt2, z01, z01', il, li, lc_ge, lc_le, lc_gt, lc_lt, lc_eq, l_ofNat, l0, l_eq, l_lt, l_le]) <;> omega)) (h_neg (by first | omega | ((simp (disch := omega) only [i0, i1, i_lt, i_le, i_eq, i_add, i_sub, i_mul, i_neg, i_ofNat, i_rem, i_div, w_in, w_in2, w_cnt, w_cnt2, z01, z01', il, li, lc_ge, lc_le, lc_gt, lc_lt, lc_eq, l_ofNat, l0, l_eq, l_lt, l_le]) <;> omega)) ?_)
    refine h_ainN (by omega) (by omega) ?_
    refine h_neg (by first | omega | ((simp (disch := omega) only [i0, i1, i_lt, i_le, i_eq, i_add, i_sub, i_mul, i_neg, i_ofNat, i_rem, i_div, w_in, w_in2, w_cnt, w_cnt2, z01, z01', il, li, lc_ge, lc_le, lc_gt, lc_lt, lc_eq, l_ofNat, l0, l_eq, l_lt, l_le]) <;> omega)) ?_
    rw [C_mday h (by omega), i_rem (by omega) (by omega) (by omega) (by omega), i_add, show (i : Int) + 1 = ((i + 1 : Nat) : Int) by omega]
    have hmod : 0 ≤ rv S 266 (54 + 2 * i) % p ∧ rv S 266 (54 + 2 * i) % p < p := ⟨Int.emod_nonneg _ (by omega), Int.emod_lt_of_pos _ (by omega)⟩
    by_cases hq : rv S 266 (54 + 2 * i) % p = f
    · refine h_neg (by first | omega | ((simp (disch := omega) only [i0, i1, i_lt, i_le, i_eq, i_add, i_sub, i_mul, i_neg, i_ofNat, i_rem, i_div, w_in, w_in2, w_cnt, w_cnt2, z01, z01', il, li, lc_ge, lc_le, lc_gt, lc_lt, lc_eq, l_ofNat, l0, l_eq, l_lt, l_le]) <;> omega)) ?_
      refine h_ainN (by omega) (by omega) ?_
      rw [C_mcam h (by omega)]
      by_cases hw : rv S 266 (55 + 2 * i) = 1
      · rw [hbS_t (by rw [decide_eq_true hq, decide_eq_true hw])]
        exact h_pos (by first | omega | ((simp (disch := omega) only [i0, i1, i_lt, i_le, i_eq, i_add, i_sub, i_mul, i_neg, i_ofNat, i_rem, i_div, w_in, w_in2, w_cnt, w_cnt2, z01, z01', il, li, lc_ge, lc_le, lc_gt, lc_lt, lc_eq, l_ofNat, l0, l_eq, l_lt, l_le]) <;> omega)) (c_fits h hp hf m n (i + 1) (by omega) (by omega))
      · rw [hbS_f (by rw [decide_eq_true hq, decide_eq_false hw]; decide)]
        exact h_neg (by first | omega | ((simp (disch := omega) only [i0, i1, i_lt, i_le, i_eq, i_add, i_sub, i_mul, i_neg, i_ofNat, i_rem, i_div, w_in, w_in2, w_cnt, w_cnt2, z01, z01', il, li, lc_ge, lc_le, lc_gt, lc_lt, lc_eq, l_ofNat, l0, l_eq, l_lt, l_le]) <;> omega)) rfl
    · refine h_pos (by first | omega | ((simp (disch := omega) only [i0, i1, i_lt, i_le, i_eq, i_add, i_sub, i_mul, i_neg, i_ofNat, i_rem, i_div, w_in, w_in2, w_cnt, w_cnt2, z01, z01', il, li, lc_ge, lc_le, lc_gt, lc_lt, lc_eq, l_ofNat, l0, l_eq, l_lt, l_le]) <;> omega)) ?_
      refine h_ainN (by omega) (by omega) ?_
      rw [C_mcam h (by omega)]
      by_cases hw : rv S 266 (55 + 2 * i) = 1
      · rw [hbS_f (by rw [decide_eq_false hq, decide_eq_true hw]; decide)]
        exact h_neg (by first | omega | ((simp (disch := omega) only [i0, i1, i_lt, i_le, i_eq, i_add, i_sub, i_mul, i_neg, i_ofNat, i_rem, i_div, w_in, w_in2, w_cnt, w_cnt2, z01, z01', il, li, lc_ge, lc_le, lc_gt, lc_lt, lc_eq, l_ofNat, l0, l_eq, l_lt, l_le]) <;> omega)) rfl
      · rw [hbS_t (by rw [decide_eq_false hq, decide_eq_false hw])]
        exact h_pos (by first | omega | ((simp (disch := omega) only [i0, i1, i_lt, i_le, i_eq, i_add, i_sub, i_mul, i_neg, i_ofNat, i_rem, i_div, w_in, w_in2, w_cnt, w_cnt2, z01, z01', il, li, lc_ge, lc_le, lc_gt, lc_lt, lc_eq, l_ofNat, l0, l_eq, l_lt, l_le]) <;> omega)) (c_fits h hp hf m n (i + 1) (by omega) (by omega))
theorem r_fits (h : Rel T S) {N : Nat} {p f : Int} (hp : 1 ≤ p ∧ p ≤ 12) (hf : 0 ≤ f ∧ f ≤ 100) : ∀ (m n i : Nat), (i : Int) + m = rv S 266 4 → m < n → lX12_isHabit N n (Int32.ofInt p) (Int32.ofInt f) (Int32.ofInt ((54 + 2 * i : Nat) : Int)) S = some (Int32.ofInt (if hbS (rv S 266) p f i m = true then 1 else 0))
  | 0, n + 1, i, hm, _ => by
    have h4 := R_i4 h
    rw [lX12_isHabit, rv_eq S 266 4]
    exact h_pos (by first | omega | ((simp (disch := omega) only [i0, i1, i_lt, i_le, i_eq, i_add, i_sub, i_mul, i_neg, i_ofNat, i_rem, i_div, w_in, w_in2, w_cnt, w_cnt2, z01, z01', il, li, lc_ge, lc_le, lc_gt, lc_lt, lc_eq, l_ofNat, l0, l_eq, l_lt, l_le]) <;> omega)) rfl
  | m + 1, n + 1, i, hm, hn => by
    have h4 := R_i4 h
    have hd := R_mday h (show i < 12 by omega)
    have hc := R_mcam h (show i < 12 by omega)
    rw [lX12_isHabit, rv_eq S 266 4]
    simp only [i_mul, i_add]
    refine h_neg (by first | omega | ((simp (disch := omega) only [i0, i1, i_lt, i_le, i_eq, i_add, i_sub, i_mul, i_neg, i_ofNat, i_rem, i_div, w_in, w_in2, w_cnt, w_cnt2, z01, z01', il, li, lc_ge, lc_le, lc_gt, lc_lt, lc_eq, l_ofNat, l0, l_eq, l_lt, l_le]) <;> omega)) ?_
    refine h_ainN (by omega) (by omega) ?_
    refine h_neg (by first | omega | ((simp (disch := omega) only [i0, i1, i_lt, i_le, i_eq, i_add, i_sub, i_mul, i_neg, i_ofNat, i_rem, i_div, w_in, w_in2, w_cnt, w_cnt2, z01, z01', il, li, lc_ge, lc_le, lc_gt, lc_lt, lc_eq, l_ofNat, l0, l_eq, l_lt, l_le]) <;> omega)) ?_
    rw [rv_eq S 266 (54 + 2 * i), i_rem (by omega) (by omega) (by omega) (by omega), show ((54 + 2 * i : Nat) : Int) + 1 = ((55 + 2 * i : Nat) : Int) by omega, show ((54 + 2 * i : Nat) : Int) + 2 = ((54 + 2 * (i + 1) : Nat) : Int) by omega]
    have hmod : 0 ≤ rv S 266 (54 + 2 * i) % p ∧ rv S 266 (54 + 2 * i) % p < p := ⟨Int.emod_nonneg _ (by omega), Int.emod_lt_of_pos _ (by omega)⟩
    by_cases hq : rv S 266 (54 + 2 * i) % p = f
    · refine h_neg (by first | omega | ((simp (disch := omega) only [i0, i1, i_lt, i_le, i_eq, i_add, i_sub, i_mul, i_neg, i_ofNat, i_rem, i_div, w_in, w_in2, w_cnt, w_cnt2, z01, z01', il, li, lc_ge, lc_le, lc_gt, lc_lt, lc_eq, l_ofNat, l0, l_eq, l_lt, l_le]) <;> omega)) ?_
      refine h_ainN (by omega) (by omega) ?_
      rw [rv_eq S 266 (55 + 2 * i)]
      by_cases hw : rv S 266 (55 + 2 * i) = 1
      · rw [hbS_t (by rw [decide_eq_true hq, decide_eq_true hw])]
        exact h_pos (by first | omega | ((simp (disch := omega) only [i0, i1, i_lt, i_le, i_eq, i_add, i_sub, i_mul, i_neg, i_ofNat, i_rem, i_div, w_in, w_in2, w_cnt, w_cnt2, z01, z01', il, li, lc_ge, lc_le, lc_gt, lc_lt, lc_eq, l_ofNat, l0, l_eq, l_lt, l_le]) <;> omega)) (r_fits h hp hf m n (i + 1) (by omega) (by omega))
      · rw [hbS_f (by rw [decide_eq_true hq, decide_eq_false hw]; decide)]
        exact h_neg (by first | omega | ((simp (disch := omega) only [i0, i1, i_lt, i_le, i_eq, i_add, i_sub, i_mul, i_neg, i_ofNat, i_rem, i_div, w_in, w_in2, w_cnt, w_cnt2, z01, z01', il, li, lc_ge, lc_le, lc_gt, lc_lt, lc_eq, l_ofNat, l0, l_eq, l_lt, l_le]) <;> omega)) rfl
    · refine h_pos (by first | omega | ((simp (disch := omega) only [i0, i1, i_lt, i_le, i_eq, i_add, i_sub, i_mul, i_neg, i_ofNat, i_rem, i_div, w_in, w_in2, w_cnt, w_cnt2, z01, z01', il, li, lc_ge, lc_le, lc_gt, lc_lt, lc_eq, l_ofNat, l0, l_eq, l_lt, l_le]) <;> omega)) ?_
      refine h_ainN (by omega) (by omega) ?_
      rw [rv_eq S 266 (55 + 2 * i)]
      by_cases hw : rv S 266 (55 + 2 * i) = 1
      · rw [hbS_f (by rw [decide_eq_false hq, decide_eq_true hw]; decide)]
        exact h_neg (by first | omega | ((simp (disch := omega) only [i0, i1, i_lt, i_le, i_eq, i_add, i_sub, i_mul, i_neg, i_ofNat, i_rem, i_div, w_in, w_in2, w_cnt, w_cnt2, z01, z01', il, li, lc_ge, lc_le, lc_gt, lc_lt, lc_eq, l_ofNat, l0, l_eq, l_lt, l_le]) <;> omega)) rfl
      · rw [hbS_t (by rw [decide_eq_false hq, decide_eq_false hw])]
        exact h_pos (by first | omega | ((simp (disch := omega) only [i0, i1, i_lt, i_le, i_eq, i_add, i_sub, i_mul, i_neg, i_ofNat, i_rem, i_div, w_in, w_in2, w_cnt, w_cnt2, z01, z01', il, li, lc_ge, lc_le, lc_gt, lc_lt, lc_eq, l_ofNat, l0, l_eq, l_lt, l_le]) <;> omega)) (r_fits h hp hf m n (i + 1) (by omega) (by omega))
def fitB (A : Nat → Int) (p f : Int) : Bool := hbS A p f 0 (A 4).toNat
theorem c_fit (h : Rel T S) {N : Nat} (hN : 2000000 ≤ N) {p f : Int} (hp : 1 ≤ p ∧ p ≤ 12) (hf : 0 ≤ f ∧ f ≤ 100) : fX3_fits N (Int32.ofInt p) (Int32.ofInt f) S = some (Int32.ofInt (if fitB (rv S 266) p f = true then 1 else 0)) := by
  have h4 := R_i4 h
  exact c_fits h hp hf (rv S 266 4).toNat N 0 (by omega) (by omega)
theorem r_fit (h : Rel T S) {N : Nat} (hN : 2000000 ≤ N) {p f : Int} (hp : 1 ≤ p ∧ p ≤ 12) (hf : 0 ≤ f ∧ f ≤ 100) : fX12_isHabit N (Int32.ofInt p) (Int32.ofInt f) S = some (Int32.ofInt (if fitB (rv S 266) p f = true then 1 else 0)) := by
  have h4 := R_i4 h
  exact r_fits h hp hf (rv S 266 4).toNat N 0 (by omega) (by omega)
theorem z01b {b : Bool} : (Int32.ofInt (if b = true then 1 else 0) = Int32.ofInt 0) = (b = false) := by cases b <;> decide
theorem eq_habits (h : Rel T S) {N : Nat} (hN : 2000000 ≤ N) : ∀ (n m : Nat) (x : Int32) (p f : Int), 1 ≤ p → p ≤ 13 → (m = 0 ∨ p ≤ 12) → 0 ≤ f → f ≤ 13 → lX3_countFitting N n m x (Int32.ofInt p) (Int32.ofInt f) S = lX12_habits N n m x (Int32.ofInt p) (Int32.ofInt f) S
  | 0, m, x, p, f, _, _, _, _, _ => rfl
  | n + 1, m, x, p, f, h1, h2, hmp, h3, h4 => by
    rw [lX3_countFitting, lX12_habits]
    simp only [i_add]
    by_cases hm : m = 0
    · rw [if_pos hm, if_pos hm]
      by_cases hc : 12 < p
      · refine h_pos (by first | omega | ((simp (disch := omega) only [i0, i1, i_lt, i_le, i_eq, i_add, i_sub, i_mul, i_neg, i_ofNat, i_rem, i_div, w_in, w_in2, w_cnt, w_cnt2, z01, z01', il, li, lc_ge, lc_le, lc_gt, lc_lt, lc_eq, l_ofNat, l0, l_eq, l_lt, l_le]) <;> omega)) (h_pos (by first | omega | ((simp (disch := omega) only [i0, i1, i_lt, i_le, i_eq, i_add, i_sub, i_mul, i_neg, i_ofNat, i_rem, i_div, w_in, w_in2, w_cnt, w_cnt2, z01, z01', il, li, lc_ge, lc_le, lc_gt, lc_lt, lc_eq, l_ofNat, l0, l_eq, l_lt, l_le]) <;> omega)) rfl).symm
      · refine h_neg (by first | omega | ((simp (disch := omega) only [i0, i1, i_lt, i_le, i_eq, i_add, i_sub, i_mul, i_neg, i_ofNat, i_rem, i_div, w_in, w_in2, w_cnt, w_cnt2, z01, z01', il, li, lc_ge, lc_le, lc_gt, lc_lt, lc_eq, l_ofNat, l0, l_eq, l_lt, l_le]) <;> omega)) (h_neg (by first | omega | ((simp (disch := omega) only [i0, i1, i_lt, i_le, i_eq, i_add, i_sub, i_mul, i_neg, i_ofNat, i_rem, i_div, w_in, w_in2, w_cnt, w_cnt2, z01, z01', il, li, lc_ge, lc_le, lc_gt, lc_lt, lc_eq, l_ofNat, l0, l_eq, l_lt, l_le]) <;> omega)) ?_).symm
        exact (eq_habits h hN n 1 x p 0 h1 h2 (by omega) (by omega) (by omega)).symm
    · rw [if_neg hm, if_neg hm]
      by_cases hc : p ≤ f
      · refine h_pos (by first | omega | ((simp (disch := omega) only [i0, i1, i_lt, i_le, i_eq, i_add, i_sub, i_mul, i_neg, i_ofNat, i_rem, i_div, w_in, w_in2, w_cnt, w_cnt2, z01, z01', il, li, lc_ge, lc_le, lc_gt, lc_lt, lc_eq, l_ofNat, l0, l_eq, l_lt, l_le]) <;> omega)) (h_pos (by first | omega | ((simp (disch := omega) only [i0, i1, i_lt, i_le, i_eq, i_add, i_sub, i_mul, i_neg, i_ofNat, i_rem, i_div, w_in, w_in2, w_cnt, w_cnt2, z01, z01', il, li, lc_ge, lc_le, lc_gt, lc_lt, lc_eq, l_ofNat, l0, l_eq, l_lt, l_le]) <;> omega)) ?_).symm
        exact (eq_habits h hN n 0 x (p + 1) 0 (by omega) (by omega) (by omega) (by omega) (by omega)).symm
      · refine h_neg (by first | omega | ((simp (disch := omega) only [i0, i1, i_lt, i_le, i_eq, i_add, i_sub, i_mul, i_neg, i_ofNat, i_rem, i_div, w_in, w_in2, w_cnt, w_cnt2, z01, z01', il, li, lc_ge, lc_le, lc_gt, lc_lt, lc_eq, l_ofNat, l0, l_eq, l_lt, l_le]) <;> omega)) (h_neg (by first | omega | ((simp (disch := omega) only [i0, i1, i_lt, i_le, i_eq, i_add, i_sub, i_mul, i_neg, i_ofNat, i_rem, i_div, w_in, w_in2, w_cnt, w_cnt2, z01, z01', il, li, lc_ge, lc_le, lc_gt, lc_lt, lc_eq, l_ofNat, l0, l_eq, l_lt, l_le]) <;> omega)) ?_).symm
        rw [c_fit h hN (by omega) (by omega), r_fit h hN (by omega) (by omega)]
        cases fitB (rv S 266) p f with
        | false =>
          refine h_bind rfl (h_pos (by decide) ?_)
          refine (h_bind rfl (h_pos (by decide) ?_)).symm
          rw [show x + Int32.ofInt 0 = x from Int32.add_zero x]
          exact eq_habits h hN n 1 x p (f + 1) h1 h2 (by omega) (by omega) (by omega)
        | true =>
          refine h_bind rfl (h_neg (by decide) ?_)
          refine (h_bind rfl (h_neg (by decide) ?_)).symm
          exact eq_habits h hN n 1 _ p (f + 1) h1 h2 (by omega) (by omega) (by omega)
theorem tot_habits (h : Rel T S) {N : Nat} (hN : 2000000 ≤ N) : ∀ (n m : Nat) (x : Int32) (p f : Int), 1 ≤ p → p ≤ 13 → (m = 0 ∨ p ≤ 12) → 0 ≤ f → f ≤ 13 → (13 - p) * 20 + (if m = 0 then 17 else 15 - f) < n → ∃ v, lX3_countFitting N n m x (Int32.ofInt p) (Int32.ofInt f) S = some v
  | 0, m, x, p, f, _, _, _, _, _, hn => by split at hn <;> omega
  | n + 1, m, x, p, f, h1, h2, hmp, h3, h4, hn => by
    rw [lX3_countFitting]
    simp only [i_add]
    by_cases hm : m = 0
    · rw [if_pos hm] at hn ⊢
      by_cases hc : 12 < p
      · exact ⟨x, h_pos (by first | omega | ((simp (disch := omega) only [i0, i1, i_lt, i_le, i_eq, i_add, i_sub, i_mul, i_neg, i_ofNat, i_rem, i_div, w_in, w_in2, w_cnt, w_cnt2, z01, z01', il, li, lc_ge, lc_le, lc_gt, lc_lt, lc_eq, l_ofNat, l0, l_eq, l_lt, l_le]) <;> omega)) rfl⟩
      · obtain ⟨v, hv⟩ := tot_habits h hN n 1 x p 0 h1 h2 (by omega) (by omega) (by omega) (by rw [if_neg (by omega)]; omega)
        exact ⟨v, h_neg (by first | omega | ((simp (disch := omega) only [i0, i1, i_lt, i_le, i_eq, i_add, i_sub, i_mul, i_neg, i_ofNat, i_rem, i_div, w_in, w_in2, w_cnt, w_cnt2, z01, z01', il, li, lc_ge, lc_le, lc_gt, lc_lt, lc_eq, l_ofNat, l0, l_eq, l_lt, l_le]) <;> omega)) hv⟩
    · rw [if_neg hm] at hn ⊢
      by_cases hc : p ≤ f
      · obtain ⟨v, hv⟩ := tot_habits h hN n 0 x (p + 1) 0 (by omega) (by omega) (by omega) (by omega) (by omega) (by rw [if_pos rfl]; omega)
        exact ⟨v, h_pos (by first | omega | ((simp (disch := omega) only [i0, i1, i_lt, i_le, i_eq, i_add, i_sub, i_mul, i_neg, i_ofNat, i_rem, i_div, w_in, w_in2, w_cnt, w_cnt2, z01, z01', il, li, lc_ge, lc_le, lc_gt, lc_lt, lc_eq, l_ofNat, l0, l_eq, l_lt, l_le]) <;> omega)) hv⟩
      · cases hb : fitB (rv S 266) p f with
        | false =>
          obtain ⟨v, hv⟩ := tot_habits h hN n 1 x p (f + 1) h1 h2 (by omega) (by omega) (by omega) (by rw [if_neg (by omega)]; omega)
          refine ⟨v, h_neg (by first | omega | ((simp (disch := omega) only [i0, i1, i_lt, i_le, i_eq, i_add, i_sub, i_mul, i_neg, i_ofNat, i_rem, i_div, w_in, w_in2, w_cnt, w_cnt2, z01, z01', il, li, lc_ge, lc_le, lc_gt, lc_lt, lc_eq, l_ofNat, l0, l_eq, l_lt, l_le]) <;> omega)) ?_⟩
          rw [c_fit h hN (by omega) (by omega), hb]
          exact h_bind rfl (h_pos (by decide) hv)
        | true =>
          obtain ⟨v, hv⟩ := tot_habits h hN n 1 (x + Int32.ofInt 1) p (f + 1) h1 h2 (by omega) (by omega) (by omega) (by rw [if_neg (by omega)]; omega)
          refine ⟨v, h_neg (by first | omega | ((simp (disch := omega) only [i0, i1, i_lt, i_le, i_eq, i_add, i_sub, i_mul, i_neg, i_ofNat, i_rem, i_div, w_in, w_in2, w_cnt, w_cnt2, z01, z01', il, li, lc_ge, lc_le, lc_gt, lc_lt, lc_eq, l_ofNat, l0, l_eq, l_lt, l_le]) <;> omega)) ?_⟩
          rw [c_fit h hN (by omega) (by omega), hb]
          exact h_bind rfl (h_neg (by decide) hv)
theorem pm_habits (h : Rel T S) {N : Nat} (hN : 2000000 ≤ N) : PM0 S (fX11_habits N) (fX12_habits N) := by
  obtain ⟨v, hv⟩ := tot_habits h hN N 0 (Int32.ofInt 0) 1 0 (by omega) (by omega) (Or.inl rfl) (by omega) (by omega) (by rw [if_pos rfl]; omega)
  refine ⟨v, ?_, ?_⟩
  · exact h_bind hv rfl
  · exact (eq_habits h hN N 0 (Int32.ofInt 0) 1 0 (by omega) (by omega) (Or.inl rfl) (by omega) (by omega)).symm.trans hv
end PMS
