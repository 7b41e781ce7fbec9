/-! ===== the game ===== -/
def zkL : List Nat → Nat → Nat → Nat
  | [], _, l => l
  | p :: r, x, l => if p ≤ x then zkL r (x - p) p else zkL r x l
def zk (n : Nat) : Nat := zkL [34, 21, 13, 8, 5, 3, 2, 1] n 0
def wnT (k m : Nat) : Bool := decide (0 < k ∧ zk k ≤ m)
theorem zk_ok : ∀ n, n ≤ 40 → 1 ≤ n → (1 ≤ zk n ∧ zk n ≤ n) ∧ wnT (n - zk n) (min (2 * zk n) 80) = false ∧ ∀ t, t < zk n → 1 ≤ t → wnT (n - t) (min (2 * t) 80) = true := by decide +kernel
def pLp : Nat → Int32 → Int32 → Int32 → Int32 → Option Int32
  | 0, _, _, _, _ => none
  | n + 1, l1, l2, l4, l5 => if l4 ≤ l5 then some l2 else (ain 8 l5).bind fun j1 => if l1 < xGp j1 then pLp n l1 l2 l4 (l5 + Int32.ofInt 1) else pLp n (l1 - xGp j1) (xGp j1) l4 (l5 + Int32.ofInt 1)
theorem pLp_eq {N : Nat} {S : yS} : ∀ n l1 l2 l4 l5, lX11_leastPart N n l1 l2 l4 l5 S = pLp n l1 l2 l4 l5
  | 0, _, _, _, _ => rfl
  | n + 1, l1, l2, l4, l5 => by
    rw [lX11_leastPart, pLp]
    split
    · rfl
    · congr 1
      funext j
      split
      · exact pLp_eq n _ _ _ _
      · exact pLp_eq n _ _ _ _
theorem pLp_more : ∀ n d l1 l2 l4 l5 v, pLp n l1 l2 l4 l5 = some v → pLp (n + d) l1 l2 l4 l5 = some v
  | 0, d, l1, l2, l4, l5, v, h => by cases h
  | n + 1, d, l1, l2, l4, l5, v, h => by
    rw [show n + 1 + d = (n + d) + 1 by omega]
    rw [pLp] at h ⊢
    split
    · rename_i q; rw [if_pos q] at h; exact h
    · rename_i q; rw [if_neg q] at h
      obtain ⟨j, hj, h⟩ := Option.bind_eq_some_iff.mp h
      rw [hj]
      show (if l1 < xGp j then pLp (n + d) l1 l2 l4 (l5 + Int32.ofInt 1) else pLp (n + d) (l1 - xGp j) (xGp j) l4 (l5 + Int32.ofInt 1)) = some v
      split
      · rename_i q2; rw [if_pos q2] at h; exact pLp_more n d _ _ _ _ v h
      · rename_i q2; rw [if_neg q2] at h; exact pLp_more n d _ _ _ _ v h
theorem pLp_v : ∀ n : Nat, n ≤ 40 → pLp 10 (Int32.ofInt (n : Int)) (Int32.ofInt 0) (Int32.ofNat 8) (Int32.ofInt 0) = some (Int32.ofInt (zk n : Nat)) := by decide +kernel
theorem zk_le : ∀ n : Nat, n ≤ 40 → zk n ≤ n := by decide +kernel
theorem c_lp {N : Nat} (hN : 2000000 ≤ N) {S : yS} {n : Nat} (hn : n ≤ 40) : fX11_leastPart N (Int32.ofInt (n : Int)) S = some (Int32.ofInt (zk n : Nat)) := by
  unfold fX11_leastPart
  rw [pLp_eq]
  have := pLp_more 10 (N - 10) _ _ _ _ _ (pLp_v n hn)
  rw [show 10 + (N - 10) = N by omega] at this
  exact this
/-- the table of what wins is right for rows below n, and in row n below m -/
def wTab (g : Nat → Int32) (n m : Nat) : Prop := ∀ k q, q ≤ 80 → (k < n ∨ (k = n ∧ q < m)) → g (81 * k + q) = Int32.ofInt (if wnT k q = true then 1 else 0)
def tkV (n : Nat) (most : Int) : Int := if 0 < n ∧ (zk n : Int) ≤ most then (zk n : Nat) else -1
theorem tkV_t {n : Nat} {most : Int} (h : 0 < n ∧ (zk n : Int) ≤ most) : tkV n most = (zk n : Nat) := if_pos h
theorem tkV_f {n : Nat} {most : Int} (h : ¬ (0 < n ∧ (zk n : Int) ≤ most)) : tkV n most = -1 := if_neg h
theorem winAt_i {k q : Nat} (hk : k ≤ 40) (hq : q ≤ 200) : fX12_winAt (Int32.ofInt (k : Int)) (Int32.ofInt (q : Int)) = Int32.ofInt ((81 * k + min q 80 : Nat) : Int) := by
  unfold fX12_winAt
  rw [i_mul, i_add, i_add]
  by_cases h : q ≤ 80
  · refine h_pos (by first | omega | ((simp (disch := omega) only [i0, i1, i_lt, i_le, i_eq, i_add, i_sub, i_mul, i_neg, i_ofNat, i_rem, i_div, w_in, w_in2, w_cnt, w_cnt2, z01, z01', il, li, lc_ge, lc_le, lc_gt, lc_lt, lc_eq, l_ofNat, l0, l_eq, l_lt, l_le]) <;> omega)) ?_
    congr 1; omega
  · refine h_neg (by first | omega | ((simp (disch := omega) only [i0, i1, i_lt, i_le, i_eq, i_add, i_sub, i_mul, i_neg, i_ofNat, i_rem, i_div, w_in, w_in2, w_cnt, w_cnt2, z01, z01', il, li, lc_ge, lc_le, lc_gt, lc_lt, lc_eq, l_ofNat, l0, l_eq, l_lt, l_le]) <;> omega)) ?_
    congr 1; omega
theorem r_tkL {N : Nat} {S : yS} {n : Nat} (hn : n ≤ 40) (hn1 : 1 ≤ n) {most : Int} (hm : -1 ≤ most ∧ most ≤ 80) {m0 : Nat} (hg : wTab (S.2.2.1 280) n m0) : ∀ (k fu t : Nat), t + k = zk n → 1 ≤ t → k < fu → lX12_takeOf N fu (Int32.ofInt (n : Int)) (Int32.ofInt most) (Int32.ofInt (t : Int)) S = some (Int32.ofInt (tkV n most))
  | 0, fu + 1, t, hk, ht, _ => by
    obtain ⟨⟨z1, z2⟩, z3, z4⟩ := zk_ok n hn hn1
    have : t = zk n := by omega
    subst this
    rw [lX12_takeOf]
    by_cases hc : (zk n : Int) ≤ most
    · rw [tkV_t ⟨hn1, hc⟩]
      refine h_neg (by first | omega | ((simp (disch := omega) only [i0, i1, i_lt, i_le, i_eq, i_add, i_sub, i_mul, i_neg, i_ofNat, i_rem, i_div, w_in, w_in2, w_cnt, w_cnt2, z01, z01', il, li, lc_ge, lc_le, lc_gt, lc_lt, lc_eq, l_ofNat, l0, l_eq, l_lt, l_le]) <;> omega)) (h_neg (by first | omega | ((simp (disch := omega) only [i0, i1, i_lt, i_le, i_eq, i_add, i_sub, i_mul, i_neg, i_ofNat, i_rem, i_div, w_in, w_in2, w_cnt, w_cnt2, z01, z01', il, li, lc_ge, lc_le, lc_gt, lc_lt, lc_eq, l_ofNat, l0, l_eq, l_lt, l_le]) <;> omega)) ?_)
      rw [i_sub, i_mul, show (n : Int) - (zk n : Nat) = ((n - zk n : Nat) : Int) by omega, show 2 * ((zk n : Nat) : Int) = ((2 * zk n : Nat) : Int) by omega, winAt_i (by omega) (by omega)]
      refine h_ainN (by omega) (by omega) ?_
      rw [hg (n - zk n) (min (2 * zk n) 80) (by omega) (Or.inl (by omega)), z3]
      exact h_neg (by decide) rfl
    · rw [tkV_f (fun q => hc q.2)]
      exact h_pos (by first | omega | ((simp (disch := omega) only [i0, i1, i_lt, i_le, i_eq, i_add, i_sub, i_mul, i_neg, i_ofNat, i_rem, i_div, w_in, w_in2, w_cnt, w_cnt2, z01, z01', il, li, lc_ge, lc_le, lc_gt, lc_lt, lc_eq, l_ofNat, l0, l_eq, l_lt, l_le]) <;> omega)) rfl
  | k + 1, fu + 1, t, hk, ht, hfu => by
    obtain ⟨⟨z1, z2⟩, z3, z4⟩ := zk_ok n hn hn1
    rw [lX12_takeOf]
    by_cases hc : most < t
    · refine h_pos (by first | omega | ((simp (disch := omega) only [i0, i1, i_lt, i_le, i_eq, i_add, i_sub, i_mul, i_neg, i_ofNat, i_rem, i_div, w_in, w_in2, w_cnt, w_cnt2, z01, z01', il, li, lc_ge, lc_le, lc_gt, lc_lt, lc_eq, l_ofNat, l0, l_eq, l_lt, l_le]) <;> omega)) ?_
      unfold tkV
      rw [if_neg (fun q => by omega)]
    · refine h_neg (by first | omega | ((simp (disch := omega) only [i0, i1, i_lt, i_le, i_eq, i_add, i_sub, i_mul, i_neg, i_ofNat, i_rem, i_div, w_in, w_in2, w_cnt, w_cnt2, z01, z01', il, li, lc_ge, lc_le, lc_gt, lc_lt, lc_eq, l_ofNat, l0, l_eq, l_lt, l_le]) <;> omega)) (h_neg (by first | omega | ((simp (disch := omega) only [i0, i1, i_lt, i_le, i_eq, i_add, i_sub, i_mul, i_neg, i_ofNat, i_rem, i_div, w_in, w_in2, w_cnt, w_cnt2, z01, z01', il, li, lc_ge, lc_le, lc_gt, lc_lt, lc_eq, l_ofNat, l0, l_eq, l_lt, l_le]) <;> omega)) ?_)
      rw [i_sub, i_mul, show (n : Int) - (t : Int) = ((n - t : Nat) : Int) by omega, show 2 * (t : Int) = ((2 * t : Nat) : Int) by omega, winAt_i (by omega) (by omega)]
      refine h_ainN (by omega) (by omega) ?_
      rw [hg (n - t) (min (2 * t) 80) (by omega) (Or.inl (by omega)), z4 t (by omega) ht, i_add, show (t : Int) + 1 = ((t + 1 : Nat) : Int) by omega]
      exact h_pos (by decide) (r_tkL hn hn1 hm hg k fu (t + 1) (by omega) (by omega) (by omega))
theorem r_tk {N : Nat} (hN : 2000000 ≤ N) {S : yS} {n : Nat} (hn : n ≤ 40) {most : Int} (hm : -1 ≤ most ∧ most ≤ 80) {m0 : Nat} (hg : wTab (S.2.2.1 280) n m0) : fX12_takeOf N (Int32.ofInt (n : Int)) (Int32.ofInt most) S = some (Int32.ofInt (tkV n most)) := by
  by_cases h0 : n = 0
  · subst h0
    unfold fX12_takeOf tkV
    rw [if_neg (fun q => by omega)]
    have key : ∀ M, 1 ≤ M → lX12_takeOf N M (Int32.ofInt ((0 : Nat) : Int)) (Int32.ofInt most) (Int32.ofInt 1) S = some (Int32.ofInt (-1)) := by
      intro M hM
      obtain ⟨j, rfl⟩ : ∃ j, M = j + 1 := ⟨M - 1, by omega⟩
      rw [lX12_takeOf]
      by_cases hc : most < 1
      · exact h_pos (by first | omega | ((simp (disch := omega) only [i0, i1, i_lt, i_le, i_eq, i_add, i_sub, i_mul, i_neg, i_ofNat, i_rem, i_div, w_in, w_in2, w_cnt, w_cnt2, z01, z01', il, li, lc_ge, lc_le, lc_gt, lc_lt, lc_eq, l_ofNat, l0, l_eq, l_lt, l_le]) <;> omega)) rfl
      · exact h_neg (by first | omega | ((simp (disch := omega) only [i0, i1, i_lt, i_le, i_eq, i_add, i_sub, i_mul, i_neg, i_ofNat, i_rem, i_div, w_in, w_in2, w_cnt, w_cnt2, z01, z01', il, li, lc_ge, lc_le, lc_gt, lc_lt, lc_eq, l_ofNat, l0, l_eq, l_lt, l_le]) <;> omega)) (h_pos (by decide) rfl)
    exact key N (by omega)
  · have hz := zk_ok n hn (by omega)
    exact r_tkL hn (by omega) hm hg (zk n - 1) N 1 (by omega) (by omega) (by omega)
theorem tkV_wn {k q : Nat} : (tkV k q = -1) = (wnT k q = false) := by
  unfold tkV wnT
  by_cases h : 0 < k ∧ zk k ≤ q
  · rw [if_pos ⟨h.1, by omega⟩, decide_eq_true h]
    simp
  · rw [if_neg (fun e => h ⟨e.1, by omega⟩), decide_eq_false h]
    simp
theorem r_wn1 {N : Nat} (hN : 2000000 ≤ N) {S : yS} {n0 r : Nat} (hn0 : n0 ≤ 40) (hr : r < n0) : ∀ (m q : Nat) (g : Nat → Int32), q + m = 81 → wTab g r q → ∃ g', wTab g' (r + 1) 0 ∧ ∀ n, lX12_layWins N (n + m + 1) 1 (Int32.ofInt (n0 : Int)) (Int32.ofInt (r : Int)) (Int32.ofInt (q : Int)) (ySa S 280 g) = lX12_layWins N n 0 (Int32.ofInt (n0 : Int)) (Int32.ofInt ((r + 1 : Nat) : Int)) 0 (ySa S 280 g')
  | 0, q, g, hq, hg => by
    refine ⟨g, fun k x hx hk => hg k x hx (by omega), fun n => ?_⟩
    rw [lX12_layWins, i_add, show (r : Int) + 1 = ((r + 1 : Nat) : Int) by omega]
    exact h_neg (by omega) (h_pos (by first | omega | ((simp (disch := omega) only [i0, i1, i_lt, i_le, i_eq, i_add, i_sub, i_mul, i_neg, i_ofNat, i_rem, i_div, w_in, w_in2, w_cnt, w_cnt2, z01, z01', il, li, lc_ge, lc_le, lc_gt, lc_lt, lc_eq, l_ofNat, l0, l_eq, l_lt, l_le]) <;> omega)) rfl)
  | m + 1, q, g, hq, hg => by
    obtain ⟨g', e1, e2⟩ := r_wn1 hN (S := S) hn0 hr m (q + 1) (upd g (81 * r + q) (Int32.ofInt (if wnT r q = true then 1 else 0))) (by omega) (fun k x hx hk => by
      by_cases he : k = r ∧ x = q
      · rw [he.1, he.2, upd_at]
      · rw [upd_ne (by omega)]
        exact hg k x hx (by omega))
    refine ⟨g', e1, fun n => ?_⟩
    rw [show n + (m + 1) + 1 = (n + m + 1) + 1 by omega, lX12_layWins]
    refine h_neg (by omega) (h_neg (by first | omega | ((simp (disch := omega) only [i0, i1, i_lt, i_le, i_eq, i_add, i_sub, i_mul, i_neg, i_ofNat, i_rem, i_div, w_in, w_in2, w_cnt, w_cnt2, z01, z01', il, li, lc_ge, lc_le, lc_gt, lc_lt, lc_eq, l_ofNat, l0, l_eq, l_lt, l_le]) <;> omega)) ?_)
    have ht := r_tk hN (S := ySa S 280 g) (n := r) (by omega) (most := (q : Int)) (by omega) (m0 := q) (by rw [ySa_at]; exact hg)
    refine h_bind ht ?_
    rw [winAt_i (by omega) (by omega), show min q 80 = q by omega, i_add, show (q : Int) + 1 = ((q + 1 : Nat) : Int) by omega]
    have hz := zk_le r (by omega)
    have hw := tkV_wn (k := r) (q := q)
    have ht2 : tkV r q = -1 ∨ (0 ≤ tkV r q ∧ tkV r q ≤ 40) := by unfold tkV; split <;> omega
    cases hb : wnT r q with
    | false =>
      have hc : tkV r q = -1 := by rw [hw]; exact hb
      rw [hb] at e2
      refine h_pos (by rw [hc]) (h_ainN (by omega) (by omega) (h_pos (Or.inl rfl) (h_pst ?_)))
      rw [ySa_at, ySa_ySa]
      exact e2 n
    | true =>
      have hc : ¬ tkV r q = -1 := by rw [hw, hb]; decide
      rw [hb] at e2
      refine h_neg (by first | omega | ((simp (disch := omega) only [i0, i1, i_lt, i_le, i_eq, i_add, i_sub, i_mul, i_neg, i_ofNat, i_rem, i_div, w_in, w_in2, w_cnt, w_cnt2, z01, z01', il, li, lc_ge, lc_le, lc_gt, lc_lt, lc_eq, l_ofNat, l0, l_eq, l_lt, l_le]) <;> omega)) (h_ainN (by omega) (by omega) (h_pos (Or.inr rfl) (h_pst ?_)))
      rw [ySa_at, ySa_ySa]
      exact e2 n
theorem r_wn0 {N : Nat} (hN : 2000000 ≤ N) {S : yS} {n0 : Nat} (hn0 : n0 ≤ 40) : ∀ (k n r : Nat) (g : Nat → Int32), r + k = n0 → 100 * k < n → wTab g r 0 → ∃ g', wTab g' n0 0 ∧ lX12_layWins N n 0 (Int32.ofInt (n0 : Int)) (Int32.ofInt (r : Int)) 0 (ySa S 280 g) = some (ySa S 280 g')
  | 0, n, r, g, hk, hn, hg => by
    obtain ⟨n, rfl⟩ : ∃ k, n = k + 1 := ⟨n - 1, by omega⟩
    have : r = n0 := by omega
    subst this
    refine ⟨g, hg, ?_⟩
    rw [lX12_layWins]
    exact h_pos rfl (h_pos (by first | omega | ((simp (disch := omega) only [i0, i1, i_lt, i_le, i_eq, i_add, i_sub, i_mul, i_neg, i_ofNat, i_rem, i_div, w_in, w_in2, w_cnt, w_cnt2, z01, z01', il, li, lc_ge, lc_le, lc_gt, lc_lt, lc_eq, l_ofNat, l0, l_eq, l_lt, l_le]) <;> omega)) rfl)
  | k + 1, n, r, g, hk, hn, hg => by
    obtain ⟨g1, e1, e2⟩ := r_wn1 hN (S := S) hn0 (show r < n0 by omega) 81 0 g (by omega) hg
    obtain ⟨n, rfl⟩ : ∃ j, n = j + 81 + 1 + 1 := ⟨n - 83, by omega⟩
    obtain ⟨g2, e3, e4⟩ := r_wn0 hN (S := S) hn0 k n (r + 1) g1 (by omega) (by omega) e1
    refine ⟨g2, e3, ?_⟩
    rw [lX12_layWins]
    exact h_pos rfl (h_neg (by first | omega | ((simp (disch := omega) only [i0, i1, i_lt, i_le, i_eq, i_add, i_sub, i_mul, i_neg, i_ofNat, i_rem, i_div, w_in, w_in2, w_cnt, w_cnt2, z01, z01', il, li, lc_ge, lc_le, lc_gt, lc_lt, lc_eq, l_ofNat, l0, l_eq, l_lt, l_le]) <;> omega)) ((e2 n).trans e4))
theorem r_wn {N : Nat} (hN : 2000000 ≤ N) (S : yS) {n0 : Nat} (hn0 : n0 ≤ 40) : ∃ g, wTab g n0 0 ∧ fX12_layWins N (Int32.ofInt (n0 : Int)) S = some (ySa S 280 g) := by
  obtain ⟨g, e1, e2⟩ := r_wn0 hN (S := S) hn0 n0 N 0 (S.2.2.1 280) (by omega) (by omega) (fun k q hq hk => by omega)
  rw [ySa_self] at e2
  exact ⟨g, e1, e2⟩
section PMS
variable {T : yK} {S : yS}
def PMg (T : yK) (S : yS) (f : yS → Option Int32) (g : yS → Option (Int32 × yS)) : Prop := ∃ q S2, f S = some q ∧ g S = some (q, S2) ∧ Rel T S2
theorem Fq_280 (S : yS) (f : Nat → Int32) : Fq S (ySa S 280 f) := Fq_a (by unfold kA; omega)
theorem pm_game (h : Rel T S) {N : Nat} (hN : 2000000 ≤ N) (v0 : Int32) : PMg T S (fX11_game N v0) (fX12_game N v0) := by
  obtain ⟨a, a1, a2, rfl⟩ := i_ex v0
  unfold PMg
  by_cases ha : 0 ≤ a ∧ a ≤ 40
  · obtain ⟨n, rfl⟩ := Int.eq_ofNat_of_zero_le ha.1
    obtain ⟨g, e1, e2⟩ := r_wn hN S (show n ≤ 40 by omega)
    have hz := zk_le n (by omega)
    have hz0 : n = 0 → zk n = 0 := fun e => by rw [e]; decide
    have hz1 : 1 ≤ n → 1 ≤ zk n := fun e => (zk_ok n (by omega) e).1.1
    by_cases h1 : n = 1
    · subst h1
      refine ⟨Int32.ofInt 1, ySa S 280 g, ?_, ?_, Rel_Fq h (Fq_280 S g)⟩
      · unfold fX11_game
        exact h_pos (by first | omega | ((simp (disch := omega) only [i0, i1, i_lt, i_le, i_eq, i_add, i_sub, i_mul, i_neg, i_ofNat, i_rem, i_div, w_in, w_in2, w_cnt, w_cnt2, z01, z01', il, li, lc_ge, lc_le, lc_gt, lc_lt, lc_eq, l_ofNat, l0, l_eq, l_lt, l_le]) <;> omega)) (h_pos rfl rfl)
      · unfold fX12_game
        exact h_pos (by first | omega | ((simp (disch := omega) only [i0, i1, i_lt, i_le, i_eq, i_add, i_sub, i_mul, i_neg, i_ofNat, i_rem, i_div, w_in, w_in2, w_cnt, w_cnt2, z01, z01', il, li, lc_ge, lc_le, lc_gt, lc_lt, lc_eq, l_ofNat, l0, l_eq, l_lt, l_le]) <;> omega)) (h_bind e2 (h_pos rfl rfl))
    · have ht := r_tk hN (S := ySa S 280 g) (n := n) (by omega) (most := (n : Int) - 1) (by omega) (m0 := 0) (by rw [ySa_at]; exact e1)
      have hv : tkV n ((n : Int) - 1) = if zk n < n then (zk n : Int) else -1 := by
        unfold tkV
        by_cases hc : zk n < n
        · rw [if_pos hc, if_pos ⟨by omega, by omega⟩]
        · rw [if_neg hc, if_neg (fun q => by omega)]
      rw [hv] at ht
      by_cases hc : zk n < n
      · rw [if_pos hc] at ht
        refine ⟨Int32.ofInt 1, ySa S 280 g, ?_, ?_, Rel_Fq h (Fq_280 S g)⟩
        · unfold fX11_game
          exact h_pos (by first | omega | ((simp (disch := omega) only [i0, i1, i_lt, i_le, i_eq, i_add, i_sub, i_mul, i_neg, i_ofNat, i_rem, i_div, w_in, w_in2, w_cnt, w_cnt2, z01, z01', il, li, lc_ge, lc_le, lc_gt, lc_lt, lc_eq, l_ofNat, l0, l_eq, l_lt, l_le]) <;> omega)) (h_neg (by first | omega | ((simp (disch := omega) only [i0, i1, i_lt, i_le, i_eq, i_add, i_sub, i_mul, i_neg, i_ofNat, i_rem, i_div, w_in, w_in2, w_cnt, w_cnt2, z01, z01', il, li, lc_ge, lc_le, lc_gt, lc_lt, lc_eq, l_ofNat, l0, l_eq, l_lt, l_le]) <;> omega)) (h_bind (c_lp hN (by omega)) (h_neg (by first | omega | ((simp (disch := omega) only [i0, i1, i_lt, i_le, i_eq, i_add, i_sub, i_mul, i_neg, i_ofNat, i_rem, i_div, w_in, w_in2, w_cnt, w_cnt2, z01, z01', il, li, lc_ge, lc_le, lc_gt, lc_lt, lc_eq, l_ofNat, l0, l_eq, l_lt, l_le]) <;> omega)) rfl)))
        · unfold fX12_game
          rw [i_sub]
          exact h_pos (by first | omega | ((simp (disch := omega) only [i0, i1, i_lt, i_le, i_eq, i_add, i_sub, i_mul, i_neg, i_ofNat, i_rem, i_div, w_in, w_in2, w_cnt, w_cnt2, z01, z01', il, li, lc_ge, lc_le, lc_gt, lc_lt, lc_eq, l_ofNat, l0, l_eq, l_lt, l_le]) <;> omega)) (h_bind e2 (h_neg (by first | omega | ((simp (disch := omega) only [i0, i1, i_lt, i_le, i_eq, i_add, i_sub, i_mul, i_neg, i_ofNat, i_rem, i_div, w_in, w_in2, w_cnt, w_cnt2, z01, z01', il, li, lc_ge, lc_le, lc_gt, lc_lt, lc_eq, l_ofNat, l0, l_eq, l_lt, l_le]) <;> omega)) (h_bind ht (h_neg (by first | omega | ((simp (disch := omega) only [i0, i1, i_lt, i_le, i_eq, i_add, i_sub, i_mul, i_neg, i_ofNat, i_rem, i_div, w_in, w_in2, w_cnt, w_cnt2, z01, z01', il, li, lc_ge, lc_le, lc_gt, lc_lt, lc_eq, l_ofNat, l0, l_eq, l_lt, l_le]) <;> omega)) rfl))))
      · rw [if_neg hc] at ht
        refine ⟨Int32.ofInt 0, ySa S 280 g, ?_, ?_, Rel_Fq h (Fq_280 S g)⟩
        · unfold fX11_game
          exact h_pos (by first | omega | ((simp (disch := omega) only [i0, i1, i_lt, i_le, i_eq, i_add, i_sub, i_mul, i_neg, i_ofNat, i_rem, i_div, w_in, w_in2, w_cnt, w_cnt2, z01, z01', il, li, lc_ge, lc_le, lc_gt, lc_lt, lc_eq, l_ofNat, l0, l_eq, l_lt, l_le]) <;> omega)) (h_neg (by first | omega | ((simp (disch := omega) only [i0, i1, i_lt, i_le, i_eq, i_add, i_sub, i_mul, i_neg, i_ofNat, i_rem, i_div, w_in, w_in2, w_cnt, w_cnt2, z01, z01', il, li, lc_ge, lc_le, lc_gt, lc_lt, lc_eq, l_ofNat, l0, l_eq, l_lt, l_le]) <;> omega)) (h_bind (c_lp hN (by omega)) (h_pos (by first | omega | ((simp (disch := omega) only [i0, i1, i_lt, i_le, i_eq, i_add, i_sub, i_mul, i_neg, i_ofNat, i_rem, i_div, w_in, w_in2, w_cnt, w_cnt2, z01, z01', il, li, lc_ge, lc_le, lc_gt, lc_lt, lc_eq, l_ofNat, l0, l_eq, l_lt, l_le]) <;> omega)) rfl)))
        · unfold fX12_game
          rw [i_sub]
          exact h_pos (by first | omega | ((simp (disch := omega) only [i0, i1, i_lt, i_le, i_eq, i_add, i_sub, i_mul, i_neg, i_ofNat, i_rem, i_div, w_in, w_in2, w_cnt, w_cnt2, z01, z01', il, li, lc_ge, lc_le, lc_gt, lc_lt, lc_eq, l_ofNat, l0, l_eq, l_lt, l_le]) <;> omega)) (h_bind e2 (h_neg (by first | omega | ((simp (disch := omega) only [i0, i1, i_lt, i_le, i_eq, i_add, i_sub, i_mul, i_neg, i_ofNat, i_rem, i_div, w_in, w_in2, w_cnt, w_cnt2, z01, z01', il, li, lc_ge, lc_le, lc_gt, lc_lt, lc_eq, l_ofNat, l0, l_eq, l_lt, l_le]) <;> omega)) (h_bind ht (h_pos rfl rfl))))
  · refine ⟨Int32.ofInt (-1), S, ?_, ?_, h⟩
    · unfold fX11_game
      exact h_neg (by first | omega | ((simp (disch := omega) only [i0, i1, i_lt, i_le, i_eq, i_add, i_sub, i_mul, i_neg, i_ofNat, i_rem, i_div, w_in, w_in2, w_cnt, w_cnt2, z01, z01', il, li, lc_ge, lc_le, lc_gt, lc_lt, lc_eq, l_ofNat, l0, l_eq, l_lt, l_le]) <;> omega)) rfl
    · unfold fX12_game
      exact h_neg (by first | omega | ((simp (disch := omega) only [i0, i1, i_lt, i_le, i_eq, i_add, i_sub, i_mul, i_neg, i_ofNat, i_rem, i_div, w_in, w_in2, w_cnt, w_cnt2, z01, z01', il, li, lc_ge, lc_le, lc_gt, lc_lt, lc_eq, l_ofNat, l0, l_eq, l_lt, l_le]) <;> omega)) rfl
theorem pm_take (h : Rel T S) {N : Nat} (hN : 2000000 ≤ N) (v0 v1 : Int32) : PMg T S (fX11_take N v0 v1) (fX12_take N v0 v1) := by
  obtain ⟨a, a1, a2, rfl⟩ := i_ex v0
  obtain ⟨b, b1, b2, rfl⟩ := i_ex v1
  unfold PMg
  by_cases ha : 0 ≤ a ∧ a ≤ 40
  · obtain ⟨n, rfl⟩ := Int.eq_ofNat_of_zero_le ha.1
    by_cases hb : 1 ≤ b ∧ b ≤ 40
    · obtain ⟨g, e1, e2⟩ := r_wn hN S (show n ≤ 40 by omega)
      have hz := zk_le n (by omega)
      have ht := r_tk hN (S := ySa S 280 g) (n := n) (by omega) (most := b) (by omega) (m0 := 0) (by rw [ySa_at]; exact e1)
      refine ⟨Int32.ofInt (tkV n b), ySa S 280 g, ?_, ?_, Rel_Fq h (Fq_280 S g)⟩
      · unfold fX11_take
        by_cases h0 : n = 0
        · rw [tkV_f (fun q => by omega)]
          exact h_pos (by first | omega | ((simp (disch := omega) only [i0, i1, i_lt, i_le, i_eq, i_add, i_sub, i_mul, i_neg, i_ofNat, i_rem, i_div, w_in, w_in2, w_cnt, w_cnt2, z01, z01', il, li, lc_ge, lc_le, lc_gt, lc_lt, lc_eq, l_ofNat, l0, l_eq, l_lt, l_le]) <;> omega)) rfl
        · refine h_neg (by first | omega | ((simp (disch := omega) only [i0, i1, i_lt, i_le, i_eq, i_add, i_sub, i_mul, i_neg, i_ofNat, i_rem, i_div, w_in, w_in2, w_cnt, w_cnt2, z01, z01', il, li, lc_ge, lc_le, lc_gt, lc_lt, lc_eq, l_ofNat, l0, l_eq, l_lt, l_le]) <;> omega)) (h_pos (by first | omega | ((simp (disch := omega) only [i0, i1, i_lt, i_le, i_eq, i_add, i_sub, i_mul, i_neg, i_ofNat, i_rem, i_div, w_in, w_in2, w_cnt, w_cnt2, z01, z01', il, li, lc_ge, lc_le, lc_gt, lc_lt, lc_eq, l_ofNat, l0, l_eq, l_lt, l_le]) <;> omega)) (h_bind (c_lp hN (by omega)) ?_))
          by_cases hc : (zk n : Int) ≤ b
          · rw [tkV_t ⟨by omega, hc⟩]
            exact h_neg (by first | omega | ((simp (disch := omega) only [i0, i1, i_lt, i_le, i_eq, i_add, i_sub, i_mul, i_neg, i_ofNat, i_rem, i_div, w_in, w_in2, w_cnt, w_cnt2, z01, z01', il, li, lc_ge, lc_le, lc_gt, lc_lt, lc_eq, l_ofNat, l0, l_eq, l_lt, l_le]) <;> omega)) rfl
          · rw [tkV_f (fun q => hc q.2)]
            exact h_pos (by first | omega | ((simp (disch := omega) only [i0, i1, i_lt, i_le, i_eq, i_add, i_sub, i_mul, i_neg, i_ofNat, i_rem, i_div, w_in, w_in2, w_cnt, w_cnt2, z01, z01', il, li, lc_ge, lc_le, lc_gt, lc_lt, lc_eq, l_ofNat, l0, l_eq, l_lt, l_le]) <;> omega)) rfl
      · unfold fX12_take
        exact h_neg (by first | omega | ((simp (disch := omega) only [i0, i1, i_lt, i_le, i_eq, i_add, i_sub, i_mul, i_neg, i_ofNat, i_rem, i_div, w_in, w_in2, w_cnt, w_cnt2, z01, z01', il, li, lc_ge, lc_le, lc_gt, lc_lt, lc_eq, l_ofNat, l0, l_eq, l_lt, l_le]) <;> omega)) (h_pos (by first | omega | ((simp (disch := omega) only [i0, i1, i_lt, i_le, i_eq, i_add, i_sub, i_mul, i_neg, i_ofNat, i_rem, i_div, w_in, w_in2, w_cnt, w_cnt2, z01, z01', il, li, lc_ge, lc_le, lc_gt, lc_lt, lc_eq, l_ofNat, l0, l_eq, l_lt, l_le]) <;> omega)) (h_bind e2 (h_bind ht rfl)))
    · refine ⟨Int32.ofInt (-1), S, ?_, ?_, h⟩
      · unfold fX11_take
        by_cases h0 : n = 0
        · exact h_pos (by first | omega | ((simp (disch := omega) only [i0, i1, i_lt, i_le, i_eq, i_add, i_sub, i_mul, i_neg, i_ofNat, i_rem, i_div, w_in, w_in2, w_cnt, w_cnt2, z01, z01', il, li, lc_ge, lc_le, lc_gt, lc_lt, lc_eq, l_ofNat, l0, l_eq, l_lt, l_le]) <;> omega)) rfl
        · exact h_neg (by first | omega | ((simp (disch := omega) only [i0, i1, i_lt, i_le, i_eq, i_add, i_sub, i_mul, i_neg, i_ofNat, i_rem, i_div, w_in, w_in2, w_cnt, w_cnt2, z01, z01', il, li, lc_ge, lc_le, lc_gt, lc_lt, lc_eq, l_ofNat, l0, l_eq, l_lt, l_le]) <;> omega)) (h_neg (by first | omega | ((simp (disch := omega) only [i0, i1, i_lt, i_le, i_eq, i_add, i_sub, i_mul, i_neg, i_ofNat, i_rem, i_div, w_in, w_in2, w_cnt, w_cnt2, z01, z01', il, li, lc_ge, lc_le, lc_gt, lc_lt, lc_eq, l_ofNat, l0, l_eq, l_lt, l_le]) <;> omega)) rfl)
      · unfold fX12_take
        exact h_neg (by first | omega | ((simp (disch := omega) only [i0, i1, i_lt, i_le, i_eq, i_add, i_sub, i_mul, i_neg, i_ofNat, i_rem, i_div, w_in, w_in2, w_cnt, w_cnt2, z01, z01', il, li, lc_ge, lc_le, lc_gt, lc_lt, lc_eq, l_ofNat, l0, l_eq, l_lt, l_le]) <;> omega)) (h_neg (by first | omega | ((simp (disch := omega) only [i0, i1, i_lt, i_le, i_eq, i_add, i_sub, i_mul, i_neg, i_ofNat, i_rem, i_div, w_in, w_in2, w_cnt, w_cnt2, z01, z01', il, li, lc_ge, lc_le, lc_gt, lc_lt, lc_eq, l_ofNat, l0, l_eq, l_lt, l_le]) <;> omega)) rfl)
  · refine ⟨Int32.ofInt (-1), S, ?_, ?_, h⟩
    · unfold fX11_take
      exact h_pos (by first | omega | ((simp (disch := omega) only [i0, i1, i_lt, i_le, i_eq, i_add, i_sub, i_mul, i_neg, i_ofNat, i_rem, i_div, w_in, w_in2, w_cnt, w_cnt2, z01, z01', il, li, lc_ge, lc_le, lc_gt, lc_lt, lc_eq, l_ofNat, l0, l_eq, l_lt, l_le]) <;> omega)) rfl
    · unfold fX12_take
      exact h_pos (by first | omega | ((simp (disch := omega) only [i0, i1, i_lt, i_le, i_eq, i_add, i_sub, i_mul, i_neg, i_ofNat, i_rem, i_div, w_in, w_in2, w_cnt, w_cnt2, z01, z01', il, li, lc_ge, lc_le, lc_gt, lc_lt, lc_eq, l_ofNat, l0, l_eq, l_lt, l_le]) <;> omega)) rfl
end PMS
