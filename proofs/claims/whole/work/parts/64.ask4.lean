/-! ===== whom, agree, the habit ===== -/
section PMS
variable {T : yK} {S : yS}
theorem c_whom (h : Rel T S) {N : Nat} (hN : 2000000 ≤ N) : ∀ (m n b : Nat) (x : Int32), (b : Int) + m = rv S 266 0 → m < n → lX11_whom N n x (Int32.ofInt (b : Int)) S = some (orB (fun b => fitB (rv S 266) (rv S 266 (21 + b)) (rv S 266 (29 + b))) b m x)
  | 0, n + 1, b, x, hm, _ => by
    have h8 := R_i0 h
    rw [lX11_whom, C_birds h]
    exact h_pos (by first | omega | ((simp (disch := omega) only [i0, i1, i_lt, i_le, i_eq, i_add, i_sub, i_mul, i_neg, i_ofNat, i_rem, i_div, w_in, w_in2, w_cnt, w_cnt2, z01, z01', il, li, lc_ge, lc_le, lc_gt, lc_lt, lc_eq, l_ofNat, l0, l_eq, l_lt, l_le]) <;> omega)) rfl
  | m + 1, n + 1, b, x, hm, hn => by
    have h8 := R_i0 h
    have hp := R_bird h (show (b : Int) < rv S 266 0 by omega)
    have hp2 := R_per h (show b < 8 by omega)
    have hf2 := R_pha h (show b < 8 by omega)
    rw [lX11_whom, C_birds h]
    refine h_neg (by first | omega | ((simp (disch := omega) only [i0, i1, i_lt, i_le, i_eq, i_add, i_sub, i_mul, i_neg, i_ofNat, i_rem, i_div, w_in, w_in2, w_cnt, w_cnt2, z01, z01', il, li, lc_ge, lc_le, lc_gt, lc_lt, lc_eq, l_ofNat, l0, l_eq, l_lt, l_le]) <;> omega)) (h_ainN (by omega) (by omega) (h_ainN (by omega) (by omega) ?_))
    rw [C_per h (by omega), C_pha h (by omega)]
    refine h_bind (c_fit h hN (by omega) (by omega)) ?_
    rw [i_add, show (b : Int) + 1 = ((b + 1 : Nat) : Int) by omega]
    unfold orB
    cases fitB (rv S 266) (rv S 266 (21 + b)) (rv S 266 (29 + b)) with
    | false => exact h_pos (by decide) (c_whom h hN m n (b + 1) x (by omega) (by omega))
    | true => exact h_neg (by decide) (c_whom h hN m n (b + 1) _ (by omega) (by omega))
theorem r_whom (h : Rel T S) {N : Nat} (hN : 2000000 ≤ N) : ∀ (m n b : Nat) (x : Int32), (b : Int) + m = rv S 266 0 → m < n → lX12_whom N n x (Int32.ofInt (b : Int)) S = some (orB (fun b => fitB (rv S 266) (rv S 266 (21 + b)) (rv S 266 (29 + b))) b m x)
  | 0, n + 1, b, x, hm, _ => by
    have h8 := R_i0 h
    rw [lX12_whom, rv_eq S 266 0]
    exact h_pos (by first | omega | ((simp (disch := omega) only [i0, i1, i_lt, i_le, i_eq, i_add, i_sub, i_mul, i_neg, i_ofNat, i_rem, i_div, w_in, w_in2, w_cnt, w_cnt2, z01, z01', il, li, lc_ge, lc_le, lc_gt, lc_lt, lc_eq, l_ofNat, l0, l_eq, l_lt, l_le]) <;> omega)) rfl
  | m + 1, n + 1, b, x, hm, hn => by
    have h8 := R_i0 h
    have hp := R_bird h (show (b : Int) < rv S 266 0 by omega)
    have hp2 := R_per h (show b < 8 by omega)
    have hf2 := R_pha h (show b < 8 by omega)
    rw [lX12_whom, rv_eq S 266 0]
    simp only [i_add]
    rw [show (21 : Int) + (b : Int) = ((21 + b : Nat) : Int) by omega, show (29 : Int) + (b : Int) = ((29 + b : Nat) : Int) by omega]
    refine h_neg (by first | omega | ((simp (disch := omega) only [i0, i1, i_lt, i_le, i_eq, i_add, i_sub, i_mul, i_neg, i_ofNat, i_rem, i_div, w_in, w_in2, w_cnt, w_cnt2, z01, z01', il, li, lc_ge, lc_le, lc_gt, lc_lt, lc_eq, l_ofNat, l0, l_eq, l_lt, l_le]) <;> omega)) (h_ainN (by omega) (by omega) (h_ainN (by omega) (by omega) ?_))
    rw [rv_eq S 266 (21 + b), rv_eq S 266 (29 + b)]
    refine h_bind (r_fit h hN (by omega) (by omega)) ?_
    rw [show (b : Int) + 1 = ((b + 1 : Nat) : Int) by omega, show x ||| Int32.ofInt 0 = x from Int32.or_zero]
    unfold orB
    cases fitB (rv S 266) (rv S 266 (21 + b)) (rv S 266 (29 + b)) with
    | false => exact h_pos (by decide) (r_whom h hN m n (b + 1) x (by omega) (by omega))
    | true => exact h_neg (by decide) (r_whom h hN m n (b + 1) _ (by omega) (by omega))
theorem pm_whom (h : Rel T S) {N : Nat} (hN : 2000000 ≤ N) : PM0 S (fX11_whom N) (fX12_whom N) := by
  have h8 := R_i0 h
  exact ⟨_, c_whom h hN (rv S 266 0).toNat N 0 _ (by omega) (by omega), r_whom h hN (rv S 266 0).toNat N 0 _ (by omega) (by omega)⟩
theorem c_agree (h : Rel T S) {N : Nat} : ∀ (m n c : Nat) (x : Int32), c + m = 9 → m < n → lX6_selfFollowing N n x (Int32.ofInt (c : Int)) S = some (orB (fun c => decide (rv S 266 (78 + c) = c)) c m x)
  | 0, n + 1, c, x, hm, _ => by
    rw [lX6_selfFollowing]
    exact h_pos (by first | omega | ((simp (disch := omega) only [i0, i1, i_lt, i_le, i_eq, i_add, i_sub, i_mul, i_neg, i_ofNat, i_rem, i_div, w_in, w_in2, w_cnt, w_cnt2, z01, z01', il, li, lc_ge, lc_le, lc_gt, lc_lt, lc_eq, l_ofNat, l0, l_eq, l_lt, l_le]) <;> omega)) rfl
  | m + 1, n + 1, c, x, hm, hn => by
    have hr := R_nxt h (show c < 9 by omega)
    rw [lX6_selfFollowing]
    refine h_neg (by first | omega | ((simp (disch := omega) only [i0, i1, i_lt, i_le, i_eq, i_add, i_sub, i_mul, i_neg, i_ofNat, i_rem, i_div, w_in, w_in2, w_cnt, w_cnt2, z01, z01', il, li, lc_ge, lc_le, lc_gt, lc_lt, lc_eq, l_ofNat, l0, l_eq, l_lt, l_le]) <;> omega)) (h_ainN (by omega) (by omega) ?_)
    rw [C_nxt h (by omega), i_add, show (c : Int) + 1 = ((c + 1 : Nat) : Int) by omega]
    unfold orB
    by_cases hq : rv S 266 (78 + c) = c
    · rw [decide_eq_true hq]
      exact h_neg (by first | omega | ((simp (disch := omega) only [i0, i1, i_lt, i_le, i_eq, i_add, i_sub, i_mul, i_neg, i_ofNat, i_rem, i_div, w_in, w_in2, w_cnt, w_cnt2, z01, z01', il, li, lc_ge, lc_le, lc_gt, lc_lt, lc_eq, l_ofNat, l0, l_eq, l_lt, l_le]) <;> omega)) (c_agree h m n (c + 1) _ (by omega) (by omega))
    · rw [decide_eq_false hq]
      exact h_pos (by first | omega | ((simp (disch := omega) only [i0, i1, i_lt, i_le, i_eq, i_add, i_sub, i_mul, i_neg, i_ofNat, i_rem, i_div, w_in, w_in2, w_cnt, w_cnt2, z01, z01', il, li, lc_ge, lc_le, lc_gt, lc_lt, lc_eq, l_ofNat, l0, l_eq, l_lt, l_le]) <;> omega)) (c_agree h m n (c + 1) x (by omega) (by omega))
theorem r_agree (h : Rel T S) {N : Nat} : ∀ (m n c : Nat) (x : Int32), c + m = 9 → m < n → lX12_agree N n x (Int32.ofInt (c : Int)) S = some (orB (fun c => decide (rv S 266 (78 + c) = c)) c m x)
  | 0, n + 1, c, x, hm, _ => by
    rw [lX12_agree]
    exact h_pos (by first | omega | ((simp (disch := omega) only [i0, i1, i_lt, i_le, i_eq, i_add, i_sub, i_mul, i_neg, i_ofNat, i_rem, i_div, w_in, w_in2, w_cnt, w_cnt2, z01, z01', il, li, lc_ge, lc_le, lc_gt, lc_lt, lc_eq, l_ofNat, l0, l_eq, l_lt, l_le]) <;> omega)) rfl
  | m + 1, n + 1, c, x, hm, hn => by
    have hr := R_nxt h (show c < 9 by omega)
    rw [lX12_agree]
    simp only [i_add]
    rw [show (78 : Int) + (c : Int) = ((78 + c : Nat) : Int) by omega, show (c : Int) + 1 = ((c + 1 : Nat) : Int) by omega, show x ||| Int32.ofInt 0 = x from Int32.or_zero]
    refine h_neg (by first | omega | ((simp (disch := omega) only [i0, i1, i_lt, i_le, i_eq, i_add, i_sub, i_mul, i_neg, i_ofNat, i_rem, i_div, w_in, w_in2, w_cnt, w_cnt2, z01, z01', il, li, lc_ge, lc_le, lc_gt, lc_lt, lc_eq, l_ofNat, l0, l_eq, l_lt, l_le]) <;> omega)) (h_ainN (by omega) (by omega) ?_)
    rw [rv_eq S 266 (78 + c)]
    unfold orB
    by_cases hq : rv S 266 (78 + c) = c
    · rw [decide_eq_true hq]
      exact h_neg (by first | omega | ((simp (disch := omega) only [i0, i1, i_lt, i_le, i_eq, i_add, i_sub, i_mul, i_neg, i_ofNat, i_rem, i_div, w_in, w_in2, w_cnt, w_cnt2, z01, z01', il, li, lc_ge, lc_le, lc_gt, lc_lt, lc_eq, l_ofNat, l0, l_eq, l_lt, l_le]) <;> omega)) (r_agree h m n (c + 1) _ (by omega) (by omega))
    · rw [decide_eq_false hq]
      exact h_pos (by first | omega | ((simp (disch := omega) only [i0, i1, i_lt, i_le, i_eq, i_add, i_sub, i_mul, i_neg, i_ofNat, i_rem, i_div, w_in, w_in2, w_cnt, w_cnt2, z01, z01', il, li, lc_ge, lc_le, lc_gt, lc_lt, lc_eq, l_ofNat, l0, l_eq, l_lt, l_le]) <;> omega)) (r_agree h m n (c + 1) x (by omega) (by omega))
theorem pm_agree (h : Rel T S) {N : Nat} (hN : 2000000 ≤ N) : PM0 S (fX11_agree N) (fX12_agree N) :=
  ⟨_, h_bind (c_agree h 9 N 0 _ (by omega) (by omega)) rfl, r_agree h 9 N 0 _ (by omega) (by omega)⟩
/-! the habit -/
def phS (A : Nat → Int) (p : Nat) : Nat → Nat → Int
  | _, 0 => -1
  | f, m + 1 => if fitB A p f = true then f else phS A p (f + 1) m
theorem phS_rng (A : Nat → Int) (p : Nat) : ∀ m f, phS A p f m = -1 ∨ (f ≤ phS A p f m ∧ phS A p f m < (f : Int) + m)
  | 0, f => Or.inl rfl
  | m + 1, f => by
    unfold phS
    split
    · right; omega
    · have := phS_rng A p m (f + 1)
      omega
theorem c_phase (h : Rel T S) {N : Nat} (hN : 2000000 ≤ N) {p : Nat} (hp : 1 ≤ p ∧ p ≤ 12) : ∀ (m n f : Nat), f + m = p → m < n → lX3_leastPhase N n (Int32.ofInt (p : Int)) (Int32.ofInt (f : Int)) S = some (Int32.ofInt (phS (rv S 266) p f m))
  | 0, n + 1, f, hm, _ => by
    rw [lX3_leastPhase]
    exact h_pos (by first | omega | ((simp (disch := omega) only [i0, i1, i_lt, i_le, i_eq, i_add, i_sub, i_mul, i_neg, i_ofNat, i_rem, i_div, w_in, w_in2, w_cnt, w_cnt2, z01, z01', il, li, lc_ge, lc_le, lc_gt, lc_lt, lc_eq, l_ofNat, l0, l_eq, l_lt, l_le]) <;> omega)) rfl
  | m + 1, n + 1, f, hm, hn => by
    rw [lX3_leastPhase]
    refine h_neg (by first | omega | ((simp (disch := omega) only [i0, i1, i_lt, i_le, i_eq, i_add, i_sub, i_mul, i_neg, i_ofNat, i_rem, i_div, w_in, w_in2, w_cnt, w_cnt2, z01, z01', il, li, lc_ge, lc_le, lc_gt, lc_lt, lc_eq, l_ofNat, l0, l_eq, l_lt, l_le]) <;> omega)) ?_
    refine h_bind (c_fit h hN (by omega) (by omega)) ?_
    rw [i_add, show (f : Int) + 1 = ((f + 1 : Nat) : Int) by omega]
    unfold phS
    cases fitB (rv S 266) p f with
    | false => exact h_pos (by decide) (c_phase h hN hp m n (f + 1) (by omega) (by omega))
    | true => exact h_neg (by decide) rfl
theorem c_phaseF (h : Rel T S) {N : Nat} (hN : 2000000 ≤ N) {p : Nat} (hp : 1 ≤ p ∧ p ≤ 12) : fX3_leastPhase N (Int32.ofInt (p : Int)) S = some (Int32.ofInt (phS (rv S 266) p 0 p)) := c_phase h hN hp p N 0 (by omega) (by omega)
def lpS (A : Nat → Int) : Nat → Nat → Int
  | _, 0 => -1
  | p, q + 1 => if phS A p 0 p = -1 then lpS A (p + 1) q else p
theorem lpS_rng (A : Nat → Int) : ∀ q p, lpS A p q = -1 ∨ ∃ k : Nat, p ≤ k ∧ k < p + q ∧ lpS A p q = k ∧ phS A k 0 k ≠ -1
  | 0, p => Or.inl rfl
  | q + 1, p => by
    unfold lpS
    split
    · rcases lpS_rng A q (p + 1) with e | ⟨k, k1, k2, k3, k4⟩
      · exact Or.inl e
      · exact Or.inr ⟨k, by omega, by omega, k3, k4⟩
    · rename_i hq
      exact Or.inr ⟨p, by omega, by omega, rfl, hq⟩
theorem c_period (h : Rel T S) {N : Nat} (hN : 2000000 ≤ N) : ∀ (q n p : Nat), 1 ≤ p → p + q = 13 → q < n → lX3_leastPeriod N n (Int32.ofInt (p : Int)) S = some (Int32.ofInt (lpS (rv S 266) p q))
  | 0, n + 1, p, _, hq, _ => by
    rw [lX3_leastPeriod]
    exact h_pos (by first | omega | ((simp (disch := omega) only [i0, i1, i_lt, i_le, i_eq, i_add, i_sub, i_mul, i_neg, i_ofNat, i_rem, i_div, w_in, w_in2, w_cnt, w_cnt2, z01, z01', il, li, lc_ge, lc_le, lc_gt, lc_lt, lc_eq, l_ofNat, l0, l_eq, l_lt, l_le]) <;> omega)) rfl
  | q + 1, n + 1, p, h1, hq, hn => by
    have hr := phS_rng (rv S 266) p p 0
    rw [lX3_leastPeriod]
    refine h_neg (by first | omega | ((simp (disch := omega) only [i0, i1, i_lt, i_le, i_eq, i_add, i_sub, i_mul, i_neg, i_ofNat, i_rem, i_div, w_in, w_in2, w_cnt, w_cnt2, z01, z01', il, li, lc_ge, lc_le, lc_gt, lc_lt, lc_eq, l_ofNat, l0, l_eq, l_lt, l_le]) <;> omega)) ?_
    refine h_bind (c_phaseF h hN (by omega)) ?_
    rw [i_add, show (p : Int) + 1 = ((p + 1 : Nat) : Int) by omega]
    unfold lpS
    by_cases hc : phS (rv S 266) p 0 p = -1
    · rw [if_pos hc]
      exact h_pos (by first | omega | ((simp (disch := omega) only [i0, i1, i_lt, i_le, i_eq, i_add, i_sub, i_mul, i_neg, i_ofNat, i_rem, i_div, w_in, w_in2, w_cnt, w_cnt2, z01, z01', il, li, lc_ge, lc_le, lc_gt, lc_lt, lc_eq, l_ofNat, l0, l_eq, l_lt, l_le]) <;> omega)) (c_period h hN q n (p + 1) (by omega) (by omega) (by omega))
    · rw [if_neg hc]
      exact h_neg (by first | omega | ((simp (disch := omega) only [i0, i1, i_lt, i_le, i_eq, i_add, i_sub, i_mul, i_neg, i_ofNat, i_rem, i_div, w_in, w_in2, w_cnt, w_cnt2, z01, z01', il, li, lc_ge, lc_le, lc_gt, lc_lt, lc_eq, l_ofNat, l0, l_eq, l_lt, l_le]) <;> omega)) rfl
theorem r_first1 (h : Rel T S) {N : Nat} (hN : 2000000 ≤ N) {p : Nat} (hp : 1 ≤ p ∧ p ≤ 12) : ∀ (m n f : Nat), f + m = p → lX12_firstHabit N (n + m + 1) 1 (Int32.ofInt (p : Int)) (Int32.ofInt (f : Int)) S = if phS (rv S 266) p f m = -1 then lX12_firstHabit N n 0 (Int32.ofInt ((p + 1 : Nat) : Int)) 0 S else some (Int32.ofInt (100 * p + phS (rv S 266) p f m))
  | 0, n, f, hm => by
    rw [lX12_firstHabit]
    refine h_neg (by omega) (h_pos (by first | omega | ((simp (disch := omega) only [i0, i1, i_lt, i_le, i_eq, i_add, i_sub, i_mul, i_neg, i_ofNat, i_rem, i_div, w_in, w_in2, w_cnt, w_cnt2, z01, z01', il, li, lc_ge, lc_le, lc_gt, lc_lt, lc_eq, l_ofNat, l0, l_eq, l_lt, l_le]) <;> omega)) ?_)
    rw [i_add, show (p : Int) + 1 = ((p + 1 : Nat) : Int) by omega]
    rfl
  | m + 1, n, f, hm => by
    rw [show n + (m + 1) + 1 = (n + m + 1) + 1 by omega, lX12_firstHabit]
    refine h_neg (by omega) (h_neg (by first | omega | ((simp (disch := omega) only [i0, i1, i_lt, i_le, i_eq, i_add, i_sub, i_mul, i_neg, i_ofNat, i_rem, i_div, w_in, w_in2, w_cnt, w_cnt2, z01, z01', il, li, lc_ge, lc_le, lc_gt, lc_lt, lc_eq, l_ofNat, l0, l_eq, l_lt, l_le]) <;> omega)) ?_)
    refine h_bind (r_fit h hN (by omega) (by omega)) ?_
    rw [i_add, i_mul, i_add, show (f : Int) + 1 = ((f + 1 : Nat) : Int) by omega]
    have e : phS (rv S 266) p f (m + 1) = if fitB (rv S 266) p f = true then (f : Int) else phS (rv S 266) p (f + 1) m := rfl
    rw [e]
    cases fitB (rv S 266) p f with
    | false => exact h_pos (by decide) (r_first1 h hN hp m n (f + 1) (by omega))
    | true =>
      refine h_neg (by decide) ?_
      rw [if_pos rfl, if_neg (by omega)]
def fhS (A : Nat → Int) : Nat → Nat → Int
  | _, 0 => -1
  | p, q + 1 => if phS A p 0 p = -1 then fhS A (p + 1) q else 100 * p + phS A p 0 p
theorem r_first0 (h : Rel T S) {N : Nat} (hN : 2000000 ≤ N) : ∀ (q n p : Nat), 1 ≤ p → p + q = 13 → 20 * q < n → lX12_firstHabit N n 0 (Int32.ofInt (p : Int)) 0 S = some (Int32.ofInt (fhS (rv S 266) p q))
  | 0, n, p, _, hq, hn => by
    obtain ⟨k, rfl⟩ : ∃ k, n = k + 1 := ⟨n - 1, by omega⟩
    rw [lX12_firstHabit]
    exact h_pos rfl (h_pos (by first | omega | ((simp (disch := omega) only [i0, i1, i_lt, i_le, i_eq, i_add, i_sub, i_mul, i_neg, i_ofNat, i_rem, i_div, w_in, w_in2, w_cnt, w_cnt2, z01, z01', il, li, lc_ge, lc_le, lc_gt, lc_lt, lc_eq, l_ofNat, l0, l_eq, l_lt, l_le]) <;> omega)) rfl)
  | q + 1, n, p, h1, hq, hn => by
    obtain ⟨k, rfl⟩ : ∃ k, n = k + p + 1 + 1 := ⟨n - p - 2, by omega⟩
    rw [lX12_firstHabit]
    refine h_pos rfl (h_neg (by first | omega | ((simp (disch := omega) only [i0, i1, i_lt, i_le, i_eq, i_add, i_sub, i_mul, i_neg, i_ofNat, i_rem, i_div, w_in, w_in2, w_cnt, w_cnt2, z01, z01', il, li, lc_ge, lc_le, lc_gt, lc_lt, lc_eq, l_ofNat, l0, l_eq, l_lt, l_le]) <;> omega)) ?_)
    have e := r_first1 h hN (show 1 ≤ p ∧ p ≤ 12 by omega) p k 0 (by omega)
    refine e.trans ?_
    unfold fhS
    by_cases hc : phS (rv S 266) p 0 p = -1
    · rw [if_pos hc, if_pos hc]
      exact r_first0 h hN q k (p + 1) (by omega) (by omega) (by omega)
    · rw [if_neg hc, if_neg hc]
theorem fh_lp (A : Nat → Int) : ∀ q p, (lpS A p q = -1 → fhS A p q = -1) ∧ (∀ k : Nat, lpS A p q = k → fhS A p q = 100 * k + phS A k 0 k)
  | 0, p => ⟨fun _ => rfl, fun k hk => by
      have : (-1 : Int) = k := hk
      omega⟩
  | q + 1, p => by
    unfold lpS fhS
    by_cases hc : phS A p 0 p = -1
    · rw [if_pos hc, if_pos hc]; exact fh_lp A q (p + 1)
    · rw [if_neg hc, if_neg hc]
      refine ⟨fun hk => by omega, fun k hk => ?_⟩
      have : p = k := by omega
      subst this
      rfl
/-- the latest of the mornings -/
def mxS (A : Nat → Int) : Nat → Nat → Int → Int
  | _, 0, x => x
  | i, m + 1, x => mxS A (i + 1) m (if x < A (54 + 2 * i) then A (54 + 2 * i) else x)
theorem mxS_rng (h : Rel T S) : ∀ (m i : Nat) (x : Int), (i : Int) + m = rv S 266 4 → -1 ≤ x → x ≤ 99 → -1 ≤ mxS (rv S 266) i m x ∧ mxS (rv S 266) i m x ≤ 99
  | 0, i, x, _, h1, h2 => ⟨h1, h2⟩
  | m + 1, i, x, hm, h1, h2 => by
    have h4 := R_i4 h
    have hd := R_mday h (show i < 12 by omega)
    unfold mxS
    split
    · exact mxS_rng h m (i + 1) _ (by omega) (by omega) (by omega)
    · exact mxS_rng h m (i + 1) _ (by omega) (by omega) (by omega)
theorem nx_ex {p f d : Int} (hp : 1 ≤ p ∧ p ≤ 12) (hf : 0 ≤ f ∧ f < p) (hd : 0 ≤ d ∧ d ≤ 100) : ∃ iz : Nat, (iz : Int) < p ∧ (d + iz) % p = f ∧ ∀ i : Nat, i < iz → (d + i) % p ≠ f := by
  have hc : p = 1 ∨ p = 2 ∨ p = 3 ∨ p = 4 ∨ p = 5 ∨ p = 6 ∨ p = 7 ∨ p = 8 ∨ p = 9 ∨ p = 10 ∨ p = 11 ∨ p = 12 := by omega
  refine ⟨((f - d) % p).toNat, ?_, ?_, ?_⟩
  · rcases hc with rfl | rfl | rfl | rfl | rfl | rfl | rfl | rfl | rfl | rfl | rfl | rfl <;> omega
  · rcases hc with rfl | rfl | rfl | rfl | rfl | rfl | rfl | rfl | rfl | rfl | rfl | rfl <;> omega
  · intro i hi
    rcases hc with rfl | rfl | rfl | rfl | rfl | rfl | rfl | rfl | rfl | rfl | rfl | rfl <;> omega
theorem c_fo1 {N : Nat} {p f d : Int} (hp : 1 ≤ p ∧ p ≤ 12) (hf : 0 ≤ f ∧ f < p) (hd : 0 ≤ d ∧ d ≤ 100) {iz : Nat} (h1 : (iz : Int) < p) (h2 : (d + iz) % p = f) (h3 : ∀ i : Nat, i < iz → (d + i) % p ≠ f) : ∀ (k n i : Nat), i + k = iz → k < n → lX11_firstOfHabit N n (Int32.ofInt d) (Int32.ofInt 1) (Int32.ofInt p) (Int32.ofInt f) (Int32.ofInt (i : Int)) S = some (Int32.ofInt (d + iz))
  | 0, n + 1, i, hk, _ => by
    have : i = iz := by omega
    subst this
    rw [lX11_firstOfHabit, i_mul, Int.mul_one, i_add, i_rem (by omega) (by omega) (by omega) (by omega), h2]
    exact h_neg (by first | omega | ((simp (disch := omega) only [i0, i1, i_lt, i_le, i_eq, i_add, i_sub, i_mul, i_neg, i_ofNat, i_rem, i_div, w_in, w_in2, w_cnt, w_cnt2, z01, z01', il, li, lc_ge, lc_le, lc_gt, lc_lt, lc_eq, l_ofNat, l0, l_eq, l_lt, l_le]) <;> omega)) (h_neg (by first | omega | ((simp (disch := omega) only [i0, i1, i_lt, i_le, i_eq, i_add, i_sub, i_mul, i_neg, i_ofNat, i_rem, i_div, w_in, w_in2, w_cnt, w_cnt2, z01, z01', il, li, lc_ge, lc_le, lc_gt, lc_lt, lc_eq, l_ofNat, l0, l_eq, l_lt, l_le]) <;> omega)) (h_neg (by first | omega | ((simp (disch := omega) only [i0, i1, i_lt, i_le, i_eq, i_add, i_sub, i_mul, i_neg, i_ofNat, i_rem, i_div, w_in, w_in2, w_cnt, w_cnt2, z01, z01', il, li, lc_ge, lc_le, lc_gt, lc_lt, lc_eq, l_ofNat, l0, l_eq, l_lt, l_le]) <;> omega)) (h_neg (fun q => q rfl) rfl)))
  | k + 1, n + 1, i, hk, hn => by
    have hq := h3 i (by omega)
    have hm : 0 ≤ (d + i) % p ∧ (d + i) % p < p := ⟨Int.emod_nonneg _ (by omega), Int.emod_lt_of_pos _ (by omega)⟩
    rw [lX11_firstOfHabit, i_mul, Int.mul_one, i_add, i_rem (by omega) (by omega) (by omega) (by omega), i_add, show (i : Int) + 1 = ((i + 1 : Nat) : Int) by omega]
    exact h_neg (by first | omega | ((simp (disch := omega) only [i0, i1, i_lt, i_le, i_eq, i_add, i_sub, i_mul, i_neg, i_ofNat, i_rem, i_div, w_in, w_in2, w_cnt, w_cnt2, z01, z01', il, li, lc_ge, lc_le, lc_gt, lc_lt, lc_eq, l_ofNat, l0, l_eq, l_lt, l_le]) <;> omega)) (h_neg (by first | omega | ((simp (disch := omega) only [i0, i1, i_lt, i_le, i_eq, i_add, i_sub, i_mul, i_neg, i_ofNat, i_rem, i_div, w_in, w_in2, w_cnt, w_cnt2, z01, z01', il, li, lc_ge, lc_le, lc_gt, lc_lt, lc_eq, l_ofNat, l0, l_eq, l_lt, l_le]) <;> omega)) (h_neg (by first | omega | ((simp (disch := omega) only [i0, i1, i_lt, i_le, i_eq, i_add, i_sub, i_mul, i_neg, i_ofNat, i_rem, i_div, w_in, w_in2, w_cnt, w_cnt2, z01, z01', il, li, lc_ge, lc_le, lc_gt, lc_lt, lc_eq, l_ofNat, l0, l_eq, l_lt, l_le]) <;> omega)) (h_pos (by first | omega | ((simp (disch := omega) only [i0, i1, i_lt, i_le, i_eq, i_add, i_sub, i_mul, i_neg, i_ofNat, i_rem, i_div, w_in, w_in2, w_cnt, w_cnt2, z01, z01', il, li, lc_ge, lc_le, lc_gt, lc_lt, lc_eq, l_ofNat, l0, l_eq, l_lt, l_le]) <;> omega)) (c_fo1 hp hf hd h1 h2 h3 k n (i + 1) (by omega) (by omega)))))
theorem c_next (h : Rel T S) {N : Nat} (hN : 2000000 ≤ N) {p f : Int} (hp : 1 ≤ p ∧ p ≤ 12) (hf : 0 ≤ f ∧ f < p) : ∀ (m n i : Nat) (x : Int), (i : Int) + m = rv S 266 4 → m < n → -1 ≤ x → x ≤ 99 → ∃ iz : Nat, ((iz : Int) < p ∧ (mxS (rv S 266) i m x + 1 + iz) % p = f ∧ ∀ i' : Nat, i' < iz → (mxS (rv S 266) i m x + 1 + i') % p ≠ f) ∧ lX3_nextDay N n (Int32.ofInt p) (Int32.ofInt f) (Int32.ofInt x) (Int32.ofInt (i : Int)) S = some (Int32.ofInt (mxS (rv S 266) i m x + 1 + iz))
  | 0, n + 1, i, x, hm, _, hx1, hx2 => by
    have h4 := R_i4 h
    obtain ⟨iz, e1, e2, e3⟩ := nx_ex (d := x + 1) hp hf (by omega)
    refine ⟨iz, ⟨e1, e2, e3⟩, ?_⟩
    rw [lX3_nextDay, C_morns h, i_add]
    refine h_pos (by first | omega | ((simp (disch := omega) only [i0, i1, i_lt, i_le, i_eq, i_add, i_sub, i_mul, i_neg, i_ofNat, i_rem, i_div, w_in, w_in2, w_cnt, w_cnt2, z01, z01', il, li, lc_ge, lc_le, lc_gt, lc_lt, lc_eq, l_ofNat, l0, l_eq, l_lt, l_le]) <;> omega)) ?_
    exact h_bind (c_fo1 hp hf (by omega) e1 e2 e3 iz N 0 (by omega) (by omega)) rfl
  | m + 1, n + 1, i, x, hm, hn, hx1, hx2 => by
    have h4 := R_i4 h
    have hd := R_mday h (show i < 12 by omega)
    obtain ⟨iz, e1, e2⟩ := c_next h hN hp hf m n (i + 1) (if x < rv S 266 (54 + 2 * i) then rv S 266 (54 + 2 * i) else x) (by omega) (by omega) (by split <;> omega) (by split <;> omega)
    refine ⟨iz, e1, ?_⟩
    rw [lX3_nextDay, C_morns h]
    refine h_neg (by first | omega | ((simp (disch := omega) only [i0, i1, i_lt, i_le, i_eq, i_add, i_sub, i_mul, i_neg, i_ofNat, i_rem, i_div, w_in, w_in2, w_cnt, w_cnt2, z01, z01', il, li, lc_ge, lc_le, lc_gt, lc_lt, lc_eq, l_ofNat, l0, l_eq, l_lt, l_le]) <;> omega)) (h_ainN (by omega) (by omega) (h_pst ?_))
    rw [C_mday h (by omega), i_add, show (i : Int) + 1 = ((i + 1 : Nat) : Int) by omega]
    simp (disch := omega) only [i_lt]
    have e : (if x < rv S 266 (54 + 2 * i) then Int32.ofInt (rv S 266 (54 + 2 * i)) else Int32.ofInt x) = Int32.ofInt (if x < rv S 266 (54 + 2 * i) then rv S 266 (54 + 2 * i) else x) := by split <;> rfl
    rw [e]
    exact e2
theorem r_fo1 {N : Nat} {p f d : Int} (hp : 1 ≤ p ∧ p ≤ 12) (hf : 0 ≤ f ∧ f < p) (hd : 0 ≤ d ∧ d ≤ 100) {iz : Nat} (h1 : (iz : Int) < p) (h2 : (d + iz) % p = f) (h3 : ∀ i : Nat, i < iz → (d + i) % p ≠ f) : ∀ (k n i : Nat), i + k = iz → k < n → lX12_habit N n 1 (Int32.ofInt (100 * p + f)) (Int32.ofInt (d + i)) 0 S = some (Int32.ofInt (d + iz))
  | 0, n + 1, i, hk, _ => by
    have : i = iz := by omega
    subst this
    rw [lX12_habit, i_div (by omega) (by omega) (by omega) (by omega), show (100 * p + f) / 100 = p by omega, i_rem (by omega) (by omega) (by omega) (by omega), i_mul, i_sub, show 100 * p + f - p * 100 = f by omega, h2]
    exact h_neg (by omega) (h_neg (by first | omega | ((simp (disch := omega) only [i0, i1, i_lt, i_le, i_eq, i_add, i_sub, i_mul, i_neg, i_ofNat, i_rem, i_div, w_in, w_in2, w_cnt, w_cnt2, z01, z01', il, li, lc_ge, lc_le, lc_gt, lc_lt, lc_eq, l_ofNat, l0, l_eq, l_lt, l_le]) <;> omega)) (h_pos rfl rfl))
  | k + 1, n + 1, i, hk, hn => by
    have hq := h3 i (by omega)
    have hm : 0 ≤ (d + i) % p ∧ (d + i) % p < p := ⟨Int.emod_nonneg _ (by omega), Int.emod_lt_of_pos _ (by omega)⟩
    rw [lX12_habit, i_div (by omega) (by omega) (by omega) (by omega), show (100 * p + f) / 100 = p by omega, i_rem (by omega) (by omega) (by omega) (by omega), i_mul, i_sub, show 100 * p + f - p * 100 = f by omega, i_add, show d + (i : Int) + 1 = d + ((i + 1 : Nat) : Int) by omega]
    exact h_neg (by omega) (h_neg (by first | omega | ((simp (disch := omega) only [i0, i1, i_lt, i_le, i_eq, i_add, i_sub, i_mul, i_neg, i_ofNat, i_rem, i_div, w_in, w_in2, w_cnt, w_cnt2, z01, z01', il, li, lc_ge, lc_le, lc_gt, lc_lt, lc_eq, l_ofNat, l0, l_eq, l_lt, l_le]) <;> omega)) (h_neg (by first | omega | ((simp (disch := omega) only [i0, i1, i_lt, i_le, i_eq, i_add, i_sub, i_mul, i_neg, i_ofNat, i_rem, i_div, w_in, w_in2, w_cnt, w_cnt2, z01, z01', il, li, lc_ge, lc_le, lc_gt, lc_lt, lc_eq, l_ofNat, l0, l_eq, l_lt, l_le]) <;> omega)) (r_fo1 hp hf hd h1 h2 h3 k n (i + 1) (by omega) (by omega))))
theorem r_next (h : Rel T S) {N : Nat} {p f : Int} (hp : 1 ≤ p ∧ p ≤ 12) (hf : 0 ≤ f ∧ f < p) : ∀ (m n i : Nat) (x : Int), (i : Int) + m = rv S 266 4 → m + 20 < n → -1 ≤ x → x ≤ 99 → ∀ iz : Nat, ((iz : Int) < p ∧ (mxS (rv S 266) i m x + 1 + iz) % p = f ∧ ∀ i' : Nat, i' < iz → (mxS (rv S 266) i m x + 1 + i') % p ≠ f) → lX12_habit N n 0 (Int32.ofInt (100 * p + f)) (Int32.ofInt (x + 1)) (Int32.ofInt ((54 + 2 * i : Nat) : Int)) S = some (Int32.ofInt (mxS (rv S 266) i m x + 1 + iz))
  | 0, n + 1, i, x, hm, hn, hx1, hx2, iz, ⟨e1, e2, e3⟩ => by
    have h4 := R_i4 h
    rw [lX12_habit, rv_eq S 266 4]
    refine h_pos rfl (h_pos (by first | omega | ((simp (disch := omega) only [i0, i1, i_lt, i_le, i_eq, i_add, i_sub, i_mul, i_neg, i_ofNat, i_rem, i_div, w_in, w_in2, w_cnt, w_cnt2, z01, z01', il, li, lc_ge, lc_le, lc_gt, lc_lt, lc_eq, l_ofNat, l0, l_eq, l_lt, l_le]) <;> omega)) ?_)
    have := r_fo1 (S := S) (N := N) (d := x + 1) hp hf (by omega) e1 e2 e3 iz n 0 (by omega) (by omega)
    rw [show x + 1 + ((0 : Nat) : Int) = x + 1 by omega] at this
    exact this
  | m + 1, n + 1, i, x, hm, hn, hx1, hx2, iz, he => by
    have h4 := R_i4 h
    have hd := R_mday h (show i < 12 by omega)
    rw [lX12_habit, rv_eq S 266 4]
    simp only [i_add, i_mul]
    refine h_pos (by trivial) (h_neg (by first | omega | ((simp (disch := omega) only [i0, i1, i_lt, i_le, i_eq, i_add, i_sub, i_mul, i_neg, i_ofNat, i_rem, i_div, w_in, w_in2, w_cnt, w_cnt2, z01, z01', il, li, lc_ge, lc_le, lc_gt, lc_lt, lc_eq, l_ofNat, l0, l_eq, l_lt, l_le]) <;> omega)) (h_ainN (by omega) (by omega) ?_))
    rw [rv_eq S 266 (54 + 2 * i), show ((54 + 2 * i : Nat) : Int) + 2 = ((54 + 2 * (i + 1) : Nat) : Int) by omega]
    have ih := r_next h (N := N) hp hf m n (i + 1) (if x < rv S 266 (54 + 2 * i) then rv S 266 (54 + 2 * i) else x) (by omega) (by omega) (by split <;> omega) (by split <;> omega) iz he
    by_cases hc : x < rv S 266 (54 + 2 * i)
    · rw [if_pos hc] at ih
      refine h_neg (by first | omega | ((simp (disch := omega) only [i0, i1, i_lt, i_le, i_eq, i_add, i_sub, i_mul, i_neg, i_ofNat, i_rem, i_div, w_in, w_in2, w_cnt, w_cnt2, z01, z01', il, li, lc_ge, lc_le, lc_gt, lc_lt, lc_eq, l_ofNat, l0, l_eq, l_lt, l_le]) <;> omega)) (h_ainN (by omega) (by omega) (h_pst ?_))
      rw [rv_eq S 266 (54 + 2 * i), i_add]
      unfold mxS
      rw [if_pos hc]
      exact ih
    · rw [if_neg hc] at ih
      refine h_pos (by first | omega | ((simp (disch := omega) only [i0, i1, i_lt, i_le, i_eq, i_add, i_sub, i_mul, i_neg, i_ofNat, i_rem, i_div, w_in, w_in2, w_cnt, w_cnt2, z01, z01', il, li, lc_ge, lc_le, lc_gt, lc_lt, lc_eq, l_ofNat, l0, l_eq, l_lt, l_le]) <;> omega)) ?_
      unfold mxS
      rw [if_neg hc]
      exact ih
theorem pm_habit (h : Rel T S) {N : Nat} (hN : 2000000 ≤ N) (v0 : Int32) : PM0 S (fX11_habit N v0) (fX12_habit N v0) := by
  obtain ⟨a, a1, a2, rfl⟩ := i_ex v0
  have h4 := R_i4 h
  have c1 := c_period h hN 12 N 1 (by omega) (by omega) (by omega)
  have r1 := r_first0 h hN 12 N 1 (by omega) (by omega) (by omega)
  unfold PM0 fX11_habit fX12_habit
  rcases lpS_rng (rv S 266) 12 1 with e | ⟨p, p1, p2, p3, p4⟩
  · have e2 := (fh_lp (rv S 266) 12 1).1 e
    rw [e] at c1
    rw [e2] at r1
    exact ⟨_, h_bind c1 (h_neg (by decide) rfl), h_bind r1 (h_pos rfl rfl)⟩
  · have e2 := (fh_lp (rv S 266) 12 1).2 p p3
    rw [p3] at c1
    rw [e2] at r1
    have cp := c_phaseF h hN (show 1 ≤ p ∧ p ≤ 12 by omega)
    have hr := phS_rng (rv S 266) p p 0
    generalize phS (rv S 266) p 0 p = f at *
    have hmx := mxS_rng h (rv S 266 4).toNat 0 (-1) (by omega) (by omega) (by omega)
    by_cases ha : a = 0 ∨ a = 1 ∨ a = 2
    · rcases ha with rfl | rfl | rfl
      · refine ⟨Int32.ofInt p, h_bind c1 (h_pos (by first | omega | ((simp (disch := omega) only [i0, i1, i_lt, i_le, i_eq, i_add, i_sub, i_mul, i_neg, i_ofNat, i_rem, i_div, w_in, w_in2, w_cnt, w_cnt2, z01, z01', il, li, lc_ge, lc_le, lc_gt, lc_lt, lc_eq, l_ofNat, l0, l_eq, l_lt, l_le]) <;> omega)) (h_bind cp (h_pos rfl rfl))), h_bind r1 (h_neg (by first | omega | ((simp (disch := omega) only [i0, i1, i_lt, i_le, i_eq, i_add, i_sub, i_mul, i_neg, i_ofNat, i_rem, i_div, w_in, w_in2, w_cnt, w_cnt2, z01, z01', il, li, lc_ge, lc_le, lc_gt, lc_lt, lc_eq, l_ofNat, l0, l_eq, l_lt, l_le]) <;> omega)) (h_pos (by decide) (h_neg (by decide) (h_neg (by decide) ?_))))⟩
        rw [i_div (by omega) (by omega) (by omega) (by omega), show (100 * (p : Int) + f) / 100 = p by omega]
      · refine ⟨Int32.ofInt f, h_bind c1 (h_pos (by first | omega | ((simp (disch := omega) only [i0, i1, i_lt, i_le, i_eq, i_add, i_sub, i_mul, i_neg, i_ofNat, i_rem, i_div, w_in, w_in2, w_cnt, w_cnt2, z01, z01', il, li, lc_ge, lc_le, lc_gt, lc_lt, lc_eq, l_ofNat, l0, l_eq, l_lt, l_le]) <;> omega)) (h_bind cp (h_neg (by decide) (h_pos rfl rfl)))), h_bind r1 (h_neg (by first | omega | ((simp (disch := omega) only [i0, i1, i_lt, i_le, i_eq, i_add, i_sub, i_mul, i_neg, i_ofNat, i_rem, i_div, w_in, w_in2, w_cnt, w_cnt2, z01, z01', il, li, lc_ge, lc_le, lc_gt, lc_lt, lc_eq, l_ofNat, l0, l_eq, l_lt, l_le]) <;> omega)) (h_pos (by decide) (h_neg (by decide) (h_pos (by decide) ?_))))⟩
        rw [i_rem (by omega) (by omega) (by omega) (by omega), show (100 * (p : Int) + f) % 100 = f by omega]
      · obtain ⟨iz, e1, e3⟩ := c_next h hN (p := (p : Int)) (f := f) (by omega) (by omega) (rv S 266 4).toNat N 0 (-1) (by omega) (by omega) (by omega) (by omega)
        have e4 := r_next h (N := N) (p := (p : Int)) (f := f) (by omega) (by omega) (rv S 266 4).toNat N 0 (-1) (by omega) (by omega) (by omega) (by omega) iz e1
        exact ⟨_, h_bind c1 (h_pos (by first | omega | ((simp (disch := omega) only [i0, i1, i_lt, i_le, i_eq, i_add, i_sub, i_mul, i_neg, i_ofNat, i_rem, i_div, w_in, w_in2, w_cnt, w_cnt2, z01, z01', il, li, lc_ge, lc_le, lc_gt, lc_lt, lc_eq, l_ofNat, l0, l_eq, l_lt, l_le]) <;> omega)) (h_bind cp (h_neg (by decide) (h_neg (by decide) (h_pos rfl (h_bind e3 rfl)))))), h_bind r1 (h_neg (by first | omega | ((simp (disch := omega) only [i0, i1, i_lt, i_le, i_eq, i_add, i_sub, i_mul, i_neg, i_ofNat, i_rem, i_div, w_in, w_in2, w_cnt, w_cnt2, z01, z01', il, li, lc_ge, lc_le, lc_gt, lc_lt, lc_eq, l_ofNat, l0, l_eq, l_lt, l_le]) <;> omega)) (h_pos (by decide) (h_pos (by decide) e4)))⟩
    · exact ⟨_, h_bind c1 (h_pos (by first | omega | ((simp (disch := omega) only [i0, i1, i_lt, i_le, i_eq, i_add, i_sub, i_mul, i_neg, i_ofNat, i_rem, i_div, w_in, w_in2, w_cnt, w_cnt2, z01, z01', il, li, lc_ge, lc_le, lc_gt, lc_lt, lc_eq, l_ofNat, l0, l_eq, l_lt, l_le]) <;> omega)) (h_bind cp (h_neg (by first | omega | ((simp (disch := omega) only [i0, i1, i_lt, i_le, i_eq, i_add, i_sub, i_mul, i_neg, i_ofNat, i_rem, i_div, w_in, w_in2, w_cnt, w_cnt2, z01, z01', il, li, lc_ge, lc_le, lc_gt, lc_lt, lc_eq, l_ofNat, l0, l_eq, l_lt, l_le]) <;> omega)) (h_neg (by first | omega | ((simp (disch := omega) only [i0, i1, i_lt, i_le, i_eq, i_add, i_sub, i_mul, i_neg, i_ofNat, i_rem, i_div, w_in, w_in2, w_cnt, w_cnt2, z01, z01', il, li, lc_ge, lc_le, lc_gt, lc_lt, lc_eq, l_ofNat, l0, l_eq, l_lt, l_le]) <;> omega)) (h_neg (by first | omega | ((simp (disch := omega) only [i0, i1, i_lt, i_le, i_eq, i_add, i_sub, i_mul, i_neg, i_ofNat, i_rem, i_div, w_in, w_in2, w_cnt, w_cnt2, z01, z01', il, li, lc_ge, lc_le, lc_gt, lc_lt, lc_eq, l_ofNat, l0, l_eq, l_lt, l_le]) <;> omega)) rfl))))), h_bind r1 (h_neg (by first | omega | ((simp (disch := omega) only [i0, i1, i_lt, i_le, i_eq, i_add, i_sub, i_mul, i_neg, i_ofNat, i_rem, i_div, w_in, w_in2, w_cnt, w_cnt2, z01, z01', il, li, lc_ge, lc_le, lc_gt, lc_lt, lc_eq, l_ofNat, l0, l_eq, l_lt, l_le]) <;> omega)) (h_neg (by first | omega | ((simp (disch := omega) only [i0, i1, i_lt, i_le, i_eq, i_add, i_sub, i_mul, i_neg, i_ofNat, i_rem, i_div, w_in, w_in2, w_cnt, w_cnt2, z01, z01', il, li, lc_ge, lc_le, lc_gt, lc_lt, lc_eq, l_ofNat, l0, l_eq, l_lt, l_le]) <;> omega)) rfl))⟩
end PMS
