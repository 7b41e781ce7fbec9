/-! ===== causes by ranks ===== -/
def cau (o p : Nat) : Nat := ((xBy2.getD (4 * o + p) 0).toInt - 48).toNat
def plc (o c : Nat) : Nat := if cau o 0 = c then 0 else if cau o 1 = c then 1 else if cau o 2 = c then 2 else 3
theorem cau_c : ∀ j, j < 96 → xBy2.getD j 0 - Int32.ofInt 48 = Int32.ofInt (cau (j / 4) (j % 4) : Nat) := by decide +kernel
theorem cau_lt : ∀ o, o < 24 → ∀ p, p < 4 → cau o p < 4 := by decide +kernel
theorem plc_at : ∀ o, o < 24 → ∀ c, c < 4 → cau o (plc o c) = c := by decide +kernel
theorem plc_lt (o c : Nat) : plc o c < 4 := by unfold plc; repeat' split
                                               all_goals omega
theorem plc_ne {o c : Nat} : ∀ p, p < plc o c → cau o p ≠ c := by
  intro p hp
  unfold plc at hp
  by_cases h0 : cau o 0 = c
  · rw [if_pos h0] at hp; omega
  · rw [if_neg h0] at hp
    by_cases h1 : cau o 1 = c
    · rw [if_pos h1] at hp
      have : p = 0 := by omega
      rw [this]; exact h0
    · rw [if_neg h1] at hp
      by_cases h2 : cau o 2 = c
      · rw [if_pos h2] at hp
        have : p = 0 ∨ p = 1 := by omega
        rcases this with e | e
        · rw [e]; exact h0
        · rw [e]; exact h1
      · rw [if_neg h2] at hp
        have : p = 0 ∨ p = 1 ∨ p = 2 := by omega
        rcases this with e | e | e
        · rw [e]; exact h0
        · rw [e]; exact h1
        · rw [e]; exact h2
/-- the factorial of 0 .. 3 -/
def fcT (k : Nat) : Int := if k = 0 then 6 else if k = 1 then 2 else 1
theorem r_fac {N : Nat} (hN : 2000000 ≤ N) {S : yS} {k : Nat} (hk : k ≤ 3) : fX12_factorial N (Int32.ofInt 3 - Int32.ofInt (k : Int)) S = some (Int32.ofInt (fcT k)) := by
  unfold fX12_factorial
  have key : ∀ M, 4 ≤ M → lX12_factorial N M (Int32.ofInt 3 - Int32.ofInt (k : Int)) (Int32.ofInt 1) (Int32.ofInt 2) S = some (Int32.ofInt (fcT k)) := by
    intro M hM
    obtain ⟨j, rfl⟩ : ∃ j, M = j + 1 + 1 + 1 + 1 := ⟨M - 4, by omega⟩
    have hc : k = 0 ∨ k = 1 ∨ k = 2 ∨ k = 3 := by omega
    rcases hc with rfl | rfl | rfl | rfl
    · rw [lX12_factorial]; refine h_neg (by decide) ?_
      rw [lX12_factorial]; refine h_neg (by decide) ?_
      rw [lX12_factorial]; exact h_pos (by decide) rfl
    · rw [lX12_factorial]; refine h_neg (by decide) ?_
      rw [lX12_factorial]; exact h_pos (by decide) rfl
    · rw [lX12_factorial]; exact h_pos (by decide) rfl
    · rw [lX12_factorial]; exact h_pos (by decide) rfl
  exact key N (by omega)
def pCa : Nat → Nat → Nat → Int32 → Int32 → Int32 → Nat → Int32 → Option Int32
  | 0, _, _, _, _, _, _, _ => none
  | n + 1, m, p, l2, l3, l4, k, l6 => if m = 0 then (if p < k then some l4 else pCa n 1 p (l2 - l2 / Int32.ofInt (fcT k) * Int32.ofInt (fcT k)) l3 (Int32.ofInt 0) k (l2 / Int32.ofInt (fcT k))) else (if ¬ (fX12_has l3 l4) = 0 then pCa n 1 p l2 l3 (l4 + Int32.ofInt 1) k (l6 - Int32.ofInt 0) else (if l6 ≤ 0 then pCa n 0 p l2 (l3 ||| (Int32.ofInt 1 <<< (l4 &&& 31))) l4 (k + 1) 0 else pCa n 1 p l2 l3 (l4 + Int32.ofInt 1) k (l6 - Int32.ofInt 1)))
theorem fcT_ne (k : Nat) : ¬ Int32.ofInt (fcT k) = 0 := by
  unfold fcT
  split
  · decide
  · split <;> decide
theorem pCa_eq {N : Nat} (hN : 2000000 ≤ N) {S : yS} {p : Nat} (hp : p ≤ 3) : ∀ (n m : Nat) (l2 l3 l4 : Int32) (k : Nat) (l6 : Int32), k ≤ 4 → (m ≠ 0 → k ≤ 3) → lX12_causeAt N n m (Int32.ofInt (p : Int)) l2 l3 l4 (Int32.ofInt (k : Int)) l6 S = pCa n m p l2 l3 l4 k l6
  | 0, m, l2, l3, l4, k, l6, _, _ => rfl
  | n + 1, m, l2, l3, l4, k, l6, hk, hm => by
    rw [lX12_causeAt, pCa]
    by_cases h0 : m = 0
    · rw [if_pos h0, if_pos h0]
      by_cases hpk : p < k
      · rw [if_pos hpk]
        exact h_pos (by first | omega | ((simp (disch := omega) only [i0, i1, i_lt, i_le, i_eq, i_add, i_sub, i_mul, i_neg, i_ofNat, i_rem, i_div, w_in, w_in2, w_cnt, w_cnt2, z01, z01', il, li, lc_ge, lc_le, lc_gt, lc_lt, lc_eq, l_ofNat, l0, l_eq, l_lt, l_le]) <;> omega)) rfl
      · rw [if_neg hpk]
        refine h_neg (by first | omega | ((simp (disch := omega) only [i0, i1, i_lt, i_le, i_eq, i_add, i_sub, i_mul, i_neg, i_ofNat, i_rem, i_div, w_in, w_in2, w_cnt, w_cnt2, z01, z01', il, li, lc_ge, lc_le, lc_gt, lc_lt, lc_eq, l_ofNat, l0, l_eq, l_lt, l_le]) <;> omega)) (h_bind (r_fac hN (by omega)) (h_neg (fcT_ne k) (h_bind (r_fac hN (by omega)) (h_neg (fcT_ne k) ?_))))
        exact pCa_eq hN hp n 1 _ _ _ k _ hk (fun _ => by omega)
    · rw [if_neg h0, if_neg h0]
      have hk3 := hm h0
      by_cases hh : fX12_has l3 l4 = 0
      · refine h_neg (fun q => q hh) (Eq.symm (h_neg (fun q => q hh) ?_))
        by_cases h6 : l6 ≤ 0
        · refine h_pos h6 (Eq.symm (h_pos h6 (h_pst ?_)))
          rw [i_add, show (k : Int) + 1 = ((k + 1 : Nat) : Int) by omega]
          exact pCa_eq hN hp n 0 _ _ _ (k + 1) _ (by omega) (fun q => absurd rfl q)
        · exact h_neg h6 (Eq.symm (h_neg h6 (h_pos hh (pCa_eq hN hp n 1 _ _ _ k _ hk (fun _ => hk3)))))
      · exact h_pos hh (h_neg hh ((pCa_eq hN hp n 1 _ _ _ k _ hk (fun _ => hk3)).trans (Eq.symm (h_pos hh rfl))))
theorem pCa_more : ∀ n d m p l2 l3 l4 k l6 v, pCa n m p l2 l3 l4 k l6 = some v → pCa (n + d) m p l2 l3 l4 k l6 = some v
  | 0, d, m, p, l2, l3, l4, k, l6, v, h => by cases h
  | n + 1, d, m, p, l2, l3, l4, k, l6, v, h => by
    rw [show n + 1 + d = (n + d) + 1 by omega]
    rw [pCa] at h ⊢
    split
    · rename_i q; rw [if_pos q] at h
      split
      · rename_i q2; rw [if_pos q2] at h; exact h
      · rename_i q2; rw [if_neg q2] at h; exact pCa_more n d _ _ _ _ _ _ _ v h
    · rename_i q; rw [if_neg q] at h
      split
      · rename_i q2; rw [if_pos q2] at h; exact pCa_more n d _ _ _ _ _ _ _ v h
      · rename_i q2; rw [if_neg q2] at h
        split
        · rename_i q3; rw [if_pos q3] at h; exact pCa_more n d _ _ _ _ _ _ _ v h
        · rename_i q3; rw [if_neg q3] at h; exact pCa_more n d _ _ _ _ _ _ _ v h
theorem pCa_v : ∀ o : Nat, o < 24 → ∀ p, p < 4 → pCa 40 0 p (Int32.ofInt (o : Int)) (Int32.ofInt 0) (Int32.ofInt 0) 0 0 = some (Int32.ofInt (cau o p : Nat)) := by decide +kernel
theorem r_cau {N : Nat} (hN : 2000000 ≤ N) {S : yS} {o p : Nat} (ho : o < 24) (hp : p < 4) : fX12_causeAt N (Int32.ofInt (o : Int)) (Int32.ofInt (p : Int)) S = some (Int32.ofInt (cau o p : Nat)) := by
  unfold fX12_causeAt
  have e := pCa_eq hN (S := S) (p := p) (by omega) N 0 (Int32.ofInt (o : Int)) (Int32.ofInt 0) (Int32.ofInt 0) 0 0 (by omega) (fun q => absurd rfl q)
  refine e.trans ?_
  have e2 := pCa_more 40 (N - 40) _ _ _ _ _ _ _ _ (pCa_v o ho p hp)
  rw [show 40 + (N - 40) = N by omega] at e2
  exact e2
section PMS
variable {T : yK} {S : yS}
/-- the number of a parish's row -/
def ordP (A : Nat → Int) (p : Nat) : Nat := (A (108 + p)).toNat
theorem ord_lt (h : Rel T S) {p : Nat} (hp : p < 5) : ordP (rv S 266) p < 24 ∧ rv S 266 (108 + p) = (ordP (rv S 266) p : Nat) := by
  have := R_ord h hp
  unfold ordP
  omega
theorem c_cau (h : Rel T S) {p l : Nat} (hp : p < 5) (hl : l < 4) : fX4_causeAt (Int32.ofInt (p : Int)) (Int32.ofInt (l : Int)) S = some (Int32.ofInt (cau (ordP (rv S 266) p) l : Nat)) := by
  have ho := ord_lt h hp
  unfold fX4_causeAt
  refine h_ainN hp (by omega) (h_pst (h_pst ?_))
  rw [C_ord h hp, ho.2, i_mul, i_add, show (96 : Int32) = Int32.ofInt 96 from rfl, i_sub]
  generalize ordP (rv S 266) p = o at ho
  rw [show (o : Int) * 4 + (l : Int) = ((4 * o + l : Nat) : Int) by omega]
  refine h_neg (by first | omega | ((simp (disch := omega) only [i0, i1, i_lt, i_le, i_eq, i_add, i_sub, i_mul, i_neg, i_ofNat, i_rem, i_div, w_in, w_in2, w_cnt, w_cnt2, z01, z01', il, li, lc_ge, lc_le, lc_gt, lc_lt, lc_eq, l_ofNat, l0, l_eq, l_lt, l_le]) <;> omega)) ?_
  refine h_bind (h_ainN (by omega) (by omega) rfl) ?_
  have e := cau_c (4 * o + l) (by omega)
  rw [show (4 * o + l) / 4 = o by omega, show (4 * o + l) % 4 = l by omega] at e
  rw [e]
theorem c_plL (h : Rel T S) {N : Nat} {p c : Nat} (hp : p < 5) (hc : c < 4) : ∀ (m n k : Nat), k + m = plc (ordP (rv S 266) p) c → m < n → lX4_placeOf N n (Int32.ofInt (p : Int)) (Int32.ofInt (c : Int)) (Int32.ofInt (k : Int)) S = some (Int32.ofInt (plc (ordP (rv S 266) p) c : Nat))
  | 0, n + 1, k, hm, _ => by
    have ho := ord_lt h hp
    have hl := plc_lt (ordP (rv S 266) p) c
    have ha := plc_at _ ho.1 c hc
    have : k = plc (ordP (rv S 266) p) c := by omega
    subst this
    rw [lX4_placeOf]
    by_cases h3 : plc (ordP (rv S 266) p) c = 3
    · exact h_pos (by first | omega | ((simp (disch := omega) only [i0, i1, i_lt, i_le, i_eq, i_add, i_sub, i_mul, i_neg, i_ofNat, i_rem, i_div, w_in, w_in2, w_cnt, w_cnt2, z01, z01', il, li, lc_ge, lc_le, lc_gt, lc_lt, lc_eq, l_ofNat, l0, l_eq, l_lt, l_le]) <;> omega)) rfl
    · refine h_neg (by first | omega | ((simp (disch := omega) only [i0, i1, i_lt, i_le, i_eq, i_add, i_sub, i_mul, i_neg, i_ofNat, i_rem, i_div, w_in, w_in2, w_cnt, w_cnt2, z01, z01', il, li, lc_ge, lc_le, lc_gt, lc_lt, lc_eq, l_ofNat, l0, l_eq, l_lt, l_le]) <;> omega)) (h_bind (c_cau h hp hl) ?_)
      rw [ha]
      exact h_pos rfl rfl
  | m + 1, n + 1, k, hm, hn => by
    have ho := ord_lt h hp
    have hl := plc_lt (ordP (rv S 266) p) c
    have hne := plc_ne (o := ordP (rv S 266) p) (c := c) k (by omega)
    have hq := cau_lt _ ho.1 k (by omega)
    rw [lX4_placeOf]
    refine h_neg (by first | omega | ((simp (disch := omega) only [i0, i1, i_lt, i_le, i_eq, i_add, i_sub, i_mul, i_neg, i_ofNat, i_rem, i_div, w_in, w_in2, w_cnt, w_cnt2, z01, z01', il, li, lc_ge, lc_le, lc_gt, lc_lt, lc_eq, l_ofNat, l0, l_eq, l_lt, l_le]) <;> omega)) (h_bind (c_cau h hp (by omega)) (h_neg (by first | omega | ((simp (disch := omega) only [i0, i1, i_lt, i_le, i_eq, i_add, i_sub, i_mul, i_neg, i_ofNat, i_rem, i_div, w_in, w_in2, w_cnt, w_cnt2, z01, z01', il, li, lc_ge, lc_le, lc_gt, lc_lt, lc_eq, l_ofNat, l0, l_eq, l_lt, l_le]) <;> omega)) ?_))
    rw [i_add, show (k : Int) + 1 = ((k + 1 : Nat) : Int) by omega]
    exact c_plL h hp hc m n (k + 1) (by omega) (by omega)
theorem c_pl (h : Rel T S) {N : Nat} (hN : 2000000 ≤ N) {p c : Nat} (hp : p < 5) (hc : c < 4) : fX4_placeOf N (Int32.ofInt (p : Int)) (Int32.ofInt (c : Int)) S = some (Int32.ofInt (plc (ordP (rv S 266) p) c : Nat)) := by
  have hl := plc_lt (ordP (rv S 266) p) c
  exact c_plL h hp hc _ N 0 (Nat.zero_add _) (by omega)
theorem r_plL (h : Rel T S) {N : Nat} (hN : 2000000 ≤ N) {p c : Nat} (hp : p < 5) (hc : c < 4) : ∀ (m n k : Nat), k + m = plc (ordP (rv S 266) p) c → m < n → lX12_placeBy N n (Int32.ofInt (p : Int)) (Int32.ofInt (c : Int)) (Int32.ofInt (k : Int)) S = some (Int32.ofInt (plc (ordP (rv S 266) p) c : Nat))
  | 0, n + 1, k, hm, _ => by
    have ho := ord_lt h hp
    have hl := plc_lt (ordP (rv S 266) p) c
    have ha := plc_at _ ho.1 c hc
    have : k = plc (ordP (rv S 266) p) c := by omega
    subst this
    rw [lX12_placeBy, i_add, show (108 : Int) + (p : Int) = ((108 + p : Nat) : Int) by omega]
    refine h_ainN (by omega) (by omega) ?_
    rw [rv_eq S 266 (108 + p), ho.2]
    refine h_bind (r_cau hN ho.1 hl) ?_
    rw [ha]
    exact h_pos rfl rfl
  | m + 1, n + 1, k, hm, hn => by
    have ho := ord_lt h hp
    have hl := plc_lt (ordP (rv S 266) p) c
    have hne := plc_ne (o := ordP (rv S 266) p) (c := c) k (by omega)
    have hq := cau_lt _ ho.1 k (by omega)
    rw [lX12_placeBy, i_add, i_add, show (108 : Int) + (p : Int) = ((108 + p : Nat) : Int) by omega, show (k : Int) + 1 = ((k + 1 : Nat) : Int) by omega]
    refine h_ainN (by omega) (by omega) ?_
    rw [rv_eq S 266 (108 + p), ho.2]
    refine h_bind (r_cau hN ho.1 (by omega)) (h_neg (by first | omega | ((simp (disch := omega) only [i0, i1, i_lt, i_le, i_eq, i_add, i_sub, i_mul, i_neg, i_ofNat, i_rem, i_div, w_in, w_in2, w_cnt, w_cnt2, z01, z01', il, li, lc_ge, lc_le, lc_gt, lc_lt, lc_eq, l_ofNat, l0, l_eq, l_lt, l_le]) <;> omega)) ?_)
    exact r_plL h hN hp hc m n (k + 1) (by omega) (by omega)
theorem r_pl (h : Rel T S) {N : Nat} (hN : 2000000 ≤ N) {p c : Nat} (hp : p < 5) (hc : c < 4) : fX12_placeBy N (Int32.ofInt (p : Int)) (Int32.ofInt (c : Int)) S = some (Int32.ofInt (plc (ordP (rv S 266) p) c : Nat)) := by
  have hl := plc_lt (ordP (rv S 266) p) c
  exact r_plL h hN hp hc _ N 0 (Nat.zero_add _) (by omega)
/-- by how much one is ahead of another -/
def btS (A : Nat → Int) (c d : Nat) : Nat → Nat → Int → Int
  | _, 0, x => x
  | p, m + 1, x => btS A c d (p + 1) m (x + (if plc (ordP A p) d ≤ plc (ordP A p) c then -A (87 + p) else A (87 + p)))
def btB (A : Nat → Int) (c d : Nat) : Bool := decide (0 < btS A c d 0 5 0)
theorem btS_rng (h : Rel T S) {c d : Nat} : ∀ (m p : Nat) (x : Int), p + m = 5 → btS (rv S 266) c d p m x ≤ x + 999 * m ∧ x - 999 * m ≤ btS (rv S 266) c d p m x
  | 0, p, x, _ => by unfold btS; omega
  | m + 1, p, x, hm => by
    have hv := R_vot h (show p < 5 by omega)
    have ih := btS_rng h (c := c) (d := d) m (p + 1) (x + (if plc (ordP (rv S 266) p) d ≤ plc (ordP (rv S 266) p) c then -rv S 266 (87 + p) else rv S 266 (87 + p))) (by omega)
    unfold btS
    split at ih <;> (rename_i q; simp only [q, if_true, if_false]; omega)
theorem c_bt (h : Rel T S) {N : Nat} (hN : 2000000 ≤ N) {c d : Nat} (hc : c < 4) (hd : d < 4) : ∀ (m n p : Nat) (x : Int), p + m = 5 → m < n → -10000 ≤ x - 999 * m → x + 999 * m ≤ 10000 → lX4_isAhead N n (Int32.ofInt (c : Int)) (Int32.ofInt (d : Int)) (Int32.ofInt x) (Int32.ofInt (p : Int)) S = some (Int32.ofInt (if 0 < btS (rv S 266) c d p m x then 1 else 0))
  | 0, n + 1, p, x, hm, _, _, _ => by
    rw [lX4_isAhead]
    refine h_pos (by first | omega | ((simp (disch := omega) only [i0, i1, i_lt, i_le, i_eq, i_add, i_sub, i_mul, i_neg, i_ofNat, i_rem, i_div, w_in, w_in2, w_cnt, w_cnt2, z01, z01', il, li, lc_ge, lc_le, lc_gt, lc_lt, lc_eq, l_ofNat, l0, l_eq, l_lt, l_le]) <;> omega)) ?_
    show _ = some (Int32.ofInt (if 0 < x then 1 else 0))
    by_cases hx : 0 < x
    · rw [if_pos hx]; exact h_neg (by first | omega | ((simp (disch := omega) only [i0, i1, i_lt, i_le, i_eq, i_add, i_sub, i_mul, i_neg, i_ofNat, i_rem, i_div, w_in, w_in2, w_cnt, w_cnt2, z01, z01', il, li, lc_ge, lc_le, lc_gt, lc_lt, lc_eq, l_ofNat, l0, l_eq, l_lt, l_le]) <;> omega)) rfl
    · rw [if_neg hx]; exact h_pos (by first | omega | ((simp (disch := omega) only [i0, i1, i_lt, i_le, i_eq, i_add, i_sub, i_mul, i_neg, i_ofNat, i_rem, i_div, w_in, w_in2, w_cnt, w_cnt2, z01, z01', il, li, lc_ge, lc_le, lc_gt, lc_lt, lc_eq, l_ofNat, l0, l_eq, l_lt, l_le]) <;> omega)) rfl
  | m + 1, n + 1, p, x, hm, hn, h1, h2 => by
    have hv := R_vot h (show p < 5 by omega)
    have l1 := plc_lt (ordP (rv S 266) p) c
    have l2 := plc_lt (ordP (rv S 266) p) d
    rw [lX4_isAhead]
    refine h_neg (by first | omega | ((simp (disch := omega) only [i0, i1, i_lt, i_le, i_eq, i_add, i_sub, i_mul, i_neg, i_ofNat, i_rem, i_div, w_in, w_in2, w_cnt, w_cnt2, z01, z01', il, li, lc_ge, lc_le, lc_gt, lc_lt, lc_eq, l_ofNat, l0, l_eq, l_lt, l_le]) <;> omega)) (h_bind (c_pl h hN (by omega) hc) (h_bind (c_pl h hN (by omega) hd) ?_))
    rw [i_add, show (p : Int) + 1 = ((p + 1 : Nat) : Int) by omega]
    unfold btS
    by_cases hq : plc (ordP (rv S 266) p) d ≤ plc (ordP (rv S 266) p) c
    · refine h_pos (by first | omega | ((simp (disch := omega) only [i0, i1, i_lt, i_le, i_eq, i_add, i_sub, i_mul, i_neg, i_ofNat, i_rem, i_div, w_in, w_in2, w_cnt, w_cnt2, z01, z01', il, li, lc_ge, lc_le, lc_gt, lc_lt, lc_eq, l_ofNat, l0, l_eq, l_lt, l_le]) <;> omega)) (h_ainN (by omega) (by omega) ?_)
      rw [C_vot h (by omega), i_neg, i_add]
      simp only [hq, if_true]
      exact c_bt h hN hc hd m n (p + 1) _ (by omega) (by omega) (by omega) (by omega)
    · refine h_neg (by first | omega | ((simp (disch := omega) only [i0, i1, i_lt, i_le, i_eq, i_add, i_sub, i_mul, i_neg, i_ofNat, i_rem, i_div, w_in, w_in2, w_cnt, w_cnt2, z01, z01', il, li, lc_ge, lc_le, lc_gt, lc_lt, lc_eq, l_ofNat, l0, l_eq, l_lt, l_le]) <;> omega)) (h_ainN (by omega) (by omega) ?_)
      rw [C_vot h (by omega), i_add]
      simp only [hq, if_false]
      exact c_bt h hN hc hd m n (p + 1) _ (by omega) (by omega) (by omega) (by omega)
theorem r_bt (h : Rel T S) {N : Nat} (hN : 2000000 ≤ N) {c d : Nat} (hc : c < 4) (hd : d < 4) : ∀ (m n p : Nat) (x : Int), p + m = 5 → m < n → -10000 ≤ x - 999 * m → x + 999 * m ≤ 10000 → lX12_doesBeat N n (Int32.ofInt (c : Int)) (Int32.ofInt (d : Int)) (Int32.ofInt x) (Int32.ofInt (p : Int)) S = some (Int32.ofInt (if 0 < btS (rv S 266) c d p m x then 1 else 0))
  | 0, n + 1, p, x, hm, _, _, _ => by
    rw [lX12_doesBeat]
    refine h_pos (by first | omega | ((simp (disch := omega) only [i0, i1, i_lt, i_le, i_eq, i_add, i_sub, i_mul, i_neg, i_ofNat, i_rem, i_div, w_in, w_in2, w_cnt, w_cnt2, z01, z01', il, li, lc_ge, lc_le, lc_gt, lc_lt, lc_eq, l_ofNat, l0, l_eq, l_lt, l_le]) <;> omega)) ?_
    show _ = some (Int32.ofInt (if 0 < x then 1 else 0))
    by_cases hx : 0 < x
    · rw [if_pos hx]; exact h_neg (by first | omega | ((simp (disch := omega) only [i0, i1, i_lt, i_le, i_eq, i_add, i_sub, i_mul, i_neg, i_ofNat, i_rem, i_div, w_in, w_in2, w_cnt, w_cnt2, z01, z01', il, li, lc_ge, lc_le, lc_gt, lc_lt, lc_eq, l_ofNat, l0, l_eq, l_lt, l_le]) <;> omega)) rfl
    · rw [if_neg hx]; exact h_pos (by first | omega | ((simp (disch := omega) only [i0, i1, i_lt, i_le, i_eq, i_add, i_sub, i_mul, i_neg, i_ofNat, i_rem, i_div, w_in, w_in2, w_cnt, w_cnt2, z01, z01', il, li, lc_ge, lc_le, lc_gt, lc_lt, lc_eq, l_ofNat, l0, l_eq, l_lt, l_le]) <;> omega)) rfl
  | m + 1, n + 1, p, x, hm, hn, h1, h2 => by
    have hv := R_vot h (show p < 5 by omega)
    have l1 := plc_lt (ordP (rv S 266) p) c
    have l2 := plc_lt (ordP (rv S 266) p) d
    rw [lX12_doesBeat]
    refine h_neg (by first | omega | ((simp (disch := omega) only [i0, i1, i_lt, i_le, i_eq, i_add, i_sub, i_mul, i_neg, i_ofNat, i_rem, i_div, w_in, w_in2, w_cnt, w_cnt2, z01, z01', il, li, lc_ge, lc_le, lc_gt, lc_lt, lc_eq, l_ofNat, l0, l_eq, l_lt, l_le]) <;> omega)) (h_bind (r_pl h hN (by omega) hc) (h_bind (r_pl h hN (by omega) hd) ?_))
    simp only [i_add]
    rw [show (p : Int) + 1 = ((p + 1 : Nat) : Int) by omega, show (87 : Int) + (p : Int) = ((87 + p : Nat) : Int) by omega]
    unfold btS
    by_cases hq : plc (ordP (rv S 266) p) d ≤ plc (ordP (rv S 266) p) c
    · refine h_pos (by first | omega | ((simp (disch := omega) only [i0, i1, i_lt, i_le, i_eq, i_add, i_sub, i_mul, i_neg, i_ofNat, i_rem, i_div, w_in, w_in2, w_cnt, w_cnt2, z01, z01', il, li, lc_ge, lc_le, lc_gt, lc_lt, lc_eq, l_ofNat, l0, l_eq, l_lt, l_le]) <;> omega)) (h_ainN (by omega) (by omega) ?_)
      rw [rv_eq S 266 (87 + p), i_neg, i_add]
      simp only [hq, if_true]
      exact r_bt h hN hc hd m n (p + 1) _ (by omega) (by omega) (by omega) (by omega)
    · refine h_neg (by first | omega | ((simp (disch := omega) only [i0, i1, i_lt, i_le, i_eq, i_add, i_sub, i_mul, i_neg, i_ofNat, i_rem, i_div, w_in, w_in2, w_cnt, w_cnt2, z01, z01', il, li, lc_ge, lc_le, lc_gt, lc_lt, lc_eq, l_ofNat, l0, l_eq, l_lt, l_le]) <;> omega)) (h_ainN (by omega) (by omega) ?_)
      rw [rv_eq S 266 (87 + p), i_add]
      simp only [hq, if_false]
      exact r_bt h hN hc hd m n (p + 1) _ (by omega) (by omega) (by omega) (by omega)
theorem c_btF (h : Rel T S) {N : Nat} (hN : 2000000 ≤ N) {c d : Nat} (hc : c < 4) (hd : d < 4) : fX4_isAhead N (Int32.ofInt (c : Int)) (Int32.ofInt (d : Int)) S = some (Int32.ofInt (if btB (rv S 266) c d = true then 1 else 0)) := by
  refine (c_bt h hN hc hd 5 N 0 0 (by omega) (by omega) (by omega) (by omega)).trans ?_
  unfold btB
  simp only [decide_eq_true_eq]
theorem r_btF (h : Rel T S) {N : Nat} (hN : 2000000 ≤ N) {c d : Nat} (hc : c < 4) (hd : d < 4) : fX12_doesBeat N (Int32.ofInt (c : Int)) (Int32.ofInt (d : Int)) S = some (Int32.ofInt (if btB (rv S 266) c d = true then 1 else 0)) := by
  refine (r_bt h hN hc hd 5 N 0 0 (by omega) (by omega) (by omega) (by omega)).trans ?_
  unfold btB
  simp only [decide_eq_true_eq]
theorem pm_beats (h : Rel T S) {N : Nat} (hN : 2000000 ≤ N) (v0 v1 : Int32) : PM0 S (fX11_beats N v0 v1) (fX12_beats N v0 v1) := by
  obtain ⟨a, a1, a2, rfl⟩ := i_ex v0
  obtain ⟨b, b1, b2, rfl⟩ := i_ex v1
  unfold PM0 fX11_beats fX12_beats fX11_isCause fX12_isCause
  by_cases ha : 0 ≤ a ∧ a ≤ 3
  · by_cases hb : 0 ≤ b ∧ b ≤ 3
    · by_cases hab : a = b
      · exact ⟨_, h_neg (by first | omega | ((simp (disch := omega) only [i0, i1, i_lt, i_le, i_eq, i_add, i_sub, i_mul, i_neg, i_ofNat, i_rem, i_div, w_in, w_in2, w_cnt, w_cnt2, z01, z01', il, li, lc_ge, lc_le, lc_gt, lc_lt, lc_eq, l_ofNat, l0, l_eq, l_lt, l_le]) <;> omega)) (h_neg (by first | omega | ((simp (disch := omega) only [i0, i1, i_lt, i_le, i_eq, i_add, i_sub, i_mul, i_neg, i_ofNat, i_rem, i_div, w_in, w_in2, w_cnt, w_cnt2, z01, z01', il, li, lc_ge, lc_le, lc_gt, lc_lt, lc_eq, l_ofNat, l0, l_eq, l_lt, l_le]) <;> omega)) (h_pos (by first | omega | ((simp (disch := omega) only [i0, i1, i_lt, i_le, i_eq, i_add, i_sub, i_mul, i_neg, i_ofNat, i_rem, i_div, w_in, w_in2, w_cnt, w_cnt2, z01, z01', il, li, lc_ge, lc_le, lc_gt, lc_lt, lc_eq, l_ofNat, l0, l_eq, l_lt, l_le]) <;> omega)) rfl)), h_neg (by first | omega | ((simp (disch := omega) only [i0, i1, i_lt, i_le, i_eq, i_add, i_sub, i_mul, i_neg, i_ofNat, i_rem, i_div, w_in, w_in2, w_cnt, w_cnt2, z01, z01', il, li, lc_ge, lc_le, lc_gt, lc_lt, lc_eq, l_ofNat, l0, l_eq, l_lt, l_le]) <;> omega)) (h_neg (by first | omega | ((simp (disch := omega) only [i0, i1, i_lt, i_le, i_eq, i_add, i_sub, i_mul, i_neg, i_ofNat, i_rem, i_div, w_in, w_in2, w_cnt, w_cnt2, z01, z01', il, li, lc_ge, lc_le, lc_gt, lc_lt, lc_eq, l_ofNat, l0, l_eq, l_lt, l_le]) <;> omega)) (h_pos (by first | omega | ((simp (disch := omega) only [i0, i1, i_lt, i_le, i_eq, i_add, i_sub, i_mul, i_neg, i_ofNat, i_rem, i_div, w_in, w_in2, w_cnt, w_cnt2, z01, z01', il, li, lc_ge, lc_le, lc_gt, lc_lt, lc_eq, l_ofNat, l0, l_eq, l_lt, l_le]) <;> omega)) rfl))⟩
      · obtain ⟨c, rfl⟩ := Int.eq_ofNat_of_zero_le ha.1
        obtain ⟨d, rfl⟩ := Int.eq_ofNat_of_zero_le hb.1
        have e1 := c_btF h hN (show c < 4 by omega) (show d < 4 by omega)
        have e2 := r_btF h hN (show c < 4 by omega) (show d < 4 by omega)
        cases hB : btB (rv S 266) c d with
        | true =>
          rw [hB] at e1 e2
          exact ⟨_, h_neg (by first | omega | ((simp (disch := omega) only [i0, i1, i_lt, i_le, i_eq, i_add, i_sub, i_mul, i_neg, i_ofNat, i_rem, i_div, w_in, w_in2, w_cnt, w_cnt2, z01, z01', il, li, lc_ge, lc_le, lc_gt, lc_lt, lc_eq, l_ofNat, l0, l_eq, l_lt, l_le]) <;> omega)) (h_neg (by first | omega | ((simp (disch := omega) only [i0, i1, i_lt, i_le, i_eq, i_add, i_sub, i_mul, i_neg, i_ofNat, i_rem, i_div, w_in, w_in2, w_cnt, w_cnt2, z01, z01', il, li, lc_ge, lc_le, lc_gt, lc_lt, lc_eq, l_ofNat, l0, l_eq, l_lt, l_le]) <;> omega)) (h_neg (by first | omega | ((simp (disch := omega) only [i0, i1, i_lt, i_le, i_eq, i_add, i_sub, i_mul, i_neg, i_ofNat, i_rem, i_div, w_in, w_in2, w_cnt, w_cnt2, z01, z01', il, li, lc_ge, lc_le, lc_gt, lc_lt, lc_eq, l_ofNat, l0, l_eq, l_lt, l_le]) <;> omega)) (h_bind e1 (h_neg (by decide) rfl)))), h_neg (by first | omega | ((simp (disch := omega) only [i0, i1, i_lt, i_le, i_eq, i_add, i_sub, i_mul, i_neg, i_ofNat, i_rem, i_div, w_in, w_in2, w_cnt, w_cnt2, z01, z01', il, li, lc_ge, lc_le, lc_gt, lc_lt, lc_eq, l_ofNat, l0, l_eq, l_lt, l_le]) <;> omega)) (h_neg (by first | omega | ((simp (disch := omega) only [i0, i1, i_lt, i_le, i_eq, i_add, i_sub, i_mul, i_neg, i_ofNat, i_rem, i_div, w_in, w_in2, w_cnt, w_cnt2, z01, z01', il, li, lc_ge, lc_le, lc_gt, lc_lt, lc_eq, l_ofNat, l0, l_eq, l_lt, l_le]) <;> omega)) (h_neg (by first | omega | ((simp (disch := omega) only [i0, i1, i_lt, i_le, i_eq, i_add, i_sub, i_mul, i_neg, i_ofNat, i_rem, i_div, w_in, w_in2, w_cnt, w_cnt2, z01, z01', il, li, lc_ge, lc_le, lc_gt, lc_lt, lc_eq, l_ofNat, l0, l_eq, l_lt, l_le]) <;> omega)) (h_bind e2 (h_neg (by decide) rfl))))⟩
        | false =>
          rw [hB] at e1 e2
          exact ⟨_, h_neg (by first | omega | ((simp (disch := omega) only [i0, i1, i_lt, i_le, i_eq, i_add, i_sub, i_mul, i_neg, i_ofNat, i_rem, i_div, w_in, w_in2, w_cnt, w_cnt2, z01, z01', il, li, lc_ge, lc_le, lc_gt, lc_lt, lc_eq, l_ofNat, l0, l_eq, l_lt, l_le]) <;> omega)) (h_neg (by first | omega | ((simp (disch := omega) only [i0, i1, i_lt, i_le, i_eq, i_add, i_sub, i_mul, i_neg, i_ofNat, i_rem, i_div, w_in, w_in2, w_cnt, w_cnt2, z01, z01', il, li, lc_ge, lc_le, lc_gt, lc_lt, lc_eq, l_ofNat, l0, l_eq, l_lt, l_le]) <;> omega)) (h_neg (by first | omega | ((simp (disch := omega) only [i0, i1, i_lt, i_le, i_eq, i_add, i_sub, i_mul, i_neg, i_ofNat, i_rem, i_div, w_in, w_in2, w_cnt, w_cnt2, z01, z01', il, li, lc_ge, lc_le, lc_gt, lc_lt, lc_eq, l_ofNat, l0, l_eq, l_lt, l_le]) <;> omega)) (h_bind e1 (h_pos (by decide) rfl)))), h_neg (by first | omega | ((simp (disch := omega) only [i0, i1, i_lt, i_le, i_eq, i_add, i_sub, i_mul, i_neg, i_ofNat, i_rem, i_div, w_in, w_in2, w_cnt, w_cnt2, z01, z01', il, li, lc_ge, lc_le, lc_gt, lc_lt, lc_eq, l_ofNat, l0, l_eq, l_lt, l_le]) <;> omega)) (h_neg (by first | omega | ((simp (disch := omega) only [i0, i1, i_lt, i_le, i_eq, i_add, i_sub, i_mul, i_neg, i_ofNat, i_rem, i_div, w_in, w_in2, w_cnt, w_cnt2, z01, z01', il, li, lc_ge, lc_le, lc_gt, lc_lt, lc_eq, l_ofNat, l0, l_eq, l_lt, l_le]) <;> omega)) (h_neg (by first | omega | ((simp (disch := omega) only [i0, i1, i_lt, i_le, i_eq, i_add, i_sub, i_mul, i_neg, i_ofNat, i_rem, i_div, w_in, w_in2, w_cnt, w_cnt2, z01, z01', il, li, lc_ge, lc_le, lc_gt, lc_lt, lc_eq, l_ofNat, l0, l_eq, l_lt, l_le]) <;> omega)) (h_bind e2 (h_pos (by decide) rfl))))⟩
    · exact ⟨_, h_neg (by first | omega | ((simp (disch := omega) only [i0, i1, i_lt, i_le, i_eq, i_add, i_sub, i_mul, i_neg, i_ofNat, i_rem, i_div, w_in, w_in2, w_cnt, w_cnt2, z01, z01', il, li, lc_ge, lc_le, lc_gt, lc_lt, lc_eq, l_ofNat, l0, l_eq, l_lt, l_le]) <;> omega)) (h_pos (by first | omega | ((simp (disch := omega) only [i0, i1, i_lt, i_le, i_eq, i_add, i_sub, i_mul, i_neg, i_ofNat, i_rem, i_div, w_in, w_in2, w_cnt, w_cnt2, z01, z01', il, li, lc_ge, lc_le, lc_gt, lc_lt, lc_eq, l_ofNat, l0, l_eq, l_lt, l_le]) <;> omega)) rfl), h_neg (by first | omega | ((simp (disch := omega) only [i0, i1, i_lt, i_le, i_eq, i_add, i_sub, i_mul, i_neg, i_ofNat, i_rem, i_div, w_in, w_in2, w_cnt, w_cnt2, z01, z01', il, li, lc_ge, lc_le, lc_gt, lc_lt, lc_eq, l_ofNat, l0, l_eq, l_lt, l_le]) <;> omega)) (h_pos (by first | omega | ((simp (disch := omega) only [i0, i1, i_lt, i_le, i_eq, i_add, i_sub, i_mul, i_neg, i_ofNat, i_rem, i_div, w_in, w_in2, w_cnt, w_cnt2, z01, z01', il, li, lc_ge, lc_le, lc_gt, lc_lt, lc_eq, l_ofNat, l0, l_eq, l_lt, l_le]) <;> omega)) rfl)⟩
  · exact ⟨_, h_pos (by first | omega | ((simp (disch := omega) only [i0, i1, i_lt, i_le, i_eq, i_add, i_sub, i_mul, i_neg, i_ofNat, i_rem, i_div, w_in, w_in2, w_cnt, w_cnt2, z01, z01', il, li, lc_ge, lc_le, lc_gt, lc_lt, lc_eq, l_ofNat, l0, l_eq, l_lt, l_le]) <;> omega)) rfl, h_pos (by first | omega | ((simp (disch := omega) only [i0, i1, i_lt, i_le, i_eq, i_add, i_sub, i_mul, i_neg, i_ofNat, i_rem, i_div, w_in, w_in2, w_cnt, w_cnt2, z01, z01', il, li, lc_ge, lc_le, lc_gt, lc_lt, lc_eq, l_ofNat, l0, l_eq, l_lt, l_le]) <;> omega)) rfl⟩
def ptS (A : Nat → Int) (c : Nat) : Nat → Nat → Int → Int
  | _, 0, x => x
  | p, m + 1, x => ptS A c (p + 1) m (x + A (87 + p) * (3 - (plc (ordP A p) c : Nat)))
theorem c_pt (h : Rel T S) {N : Nat} (hN : 2000000 ≤ N) {c : Nat} (hc : c < 4) : ∀ (m n p : Nat) (x : Int), p + m = 5 → m < n → lX4_pointsFor N n (Int32.ofInt (c : Int)) (Int32.ofInt x) (Int32.ofInt (p : Int)) S = some (Int32.ofInt (ptS (rv S 266) c p m x))
  | 0, n + 1, p, x, hm, _ => by
    rw [lX4_pointsFor]
    exact h_pos (by first | omega | ((simp (disch := omega) only [i0, i1, i_lt, i_le, i_eq, i_add, i_sub, i_mul, i_neg, i_ofNat, i_rem, i_div, w_in, w_in2, w_cnt, w_cnt2, z01, z01', il, li, lc_ge, lc_le, lc_gt, lc_lt, lc_eq, l_ofNat, l0, l_eq, l_lt, l_le]) <;> omega)) rfl
  | m + 1, n + 1, p, x, hm, hn => by
    rw [lX4_pointsFor]
    refine h_neg (by first | omega | ((simp (disch := omega) only [i0, i1, i_lt, i_le, i_eq, i_add, i_sub, i_mul, i_neg, i_ofNat, i_rem, i_div, w_in, w_in2, w_cnt, w_cnt2, z01, z01', il, li, lc_ge, lc_le, lc_gt, lc_lt, lc_eq, l_ofNat, l0, l_eq, l_lt, l_le]) <;> omega)) (h_ainN (by omega) (by omega) (h_bind (c_pl h hN (by omega) hc) (h_pst ?_)))
    rw [C_vot h (by omega), i_sub, i_mul, i_add, i_add, show (p : Int) + 1 = ((p + 1 : Nat) : Int) by omega]
    exact c_pt h hN hc m n (p + 1) _ (by omega) (by omega)
theorem r_pt (h : Rel T S) {N : Nat} (hN : 2000000 ≤ N) {c : Nat} (hc : c < 4) : ∀ (m n p : Nat) (x : Int), p + m = 5 → m < n → lX12_points N n (Int32.ofInt (c : Int)) (Int32.ofInt x) (Int32.ofInt (p : Int)) S = some (Int32.ofInt (ptS (rv S 266) c p m x))
  | 0, n + 1, p, x, hm, _ => by
    rw [lX12_points]
    exact h_pos (by first | omega | ((simp (disch := omega) only [i0, i1, i_lt, i_le, i_eq, i_add, i_sub, i_mul, i_neg, i_ofNat, i_rem, i_div, w_in, w_in2, w_cnt, w_cnt2, z01, z01', il, li, lc_ge, lc_le, lc_gt, lc_lt, lc_eq, l_ofNat, l0, l_eq, l_lt, l_le]) <;> omega)) rfl
  | m + 1, n + 1, p, x, hm, hn => by
    rw [lX12_points, i_add (87 : Int), show (87 : Int) + (p : Int) = ((87 + p : Nat) : Int) by omega]
    refine h_neg (by first | omega | ((simp (disch := omega) only [i0, i1, i_lt, i_le, i_eq, i_add, i_sub, i_mul, i_neg, i_ofNat, i_rem, i_div, w_in, w_in2, w_cnt, w_cnt2, z01, z01', il, li, lc_ge, lc_le, lc_gt, lc_lt, lc_eq, l_ofNat, l0, l_eq, l_lt, l_le]) <;> omega)) (h_ainN (by omega) (by omega) (h_bind (r_pl h hN (by omega) hc) (h_pst ?_)))
    rw [rv_eq S 266 (87 + p), i_sub, i_mul, i_add, i_add, show (p : Int) + 1 = ((p + 1 : Nat) : Int) by omega]
    exact r_pt h hN hc m n (p + 1) _ (by omega) (by omega)
theorem pm_points (h : Rel T S) {N : Nat} (hN : 2000000 ≤ N) (v0 : Int32) : PM0 S (fX11_points N v0) (fX12_points N v0) := by
  obtain ⟨a, a1, a2, rfl⟩ := i_ex v0
  unfold PM0 fX11_points fX12_points fX11_isCause fX12_isCause
  by_cases ha : 0 ≤ a ∧ a ≤ 3
  · obtain ⟨c, rfl⟩ := Int.eq_ofNat_of_zero_le ha.1
    exact ⟨_, h_neg (by first | omega | ((simp (disch := omega) only [i0, i1, i_lt, i_le, i_eq, i_add, i_sub, i_mul, i_neg, i_ofNat, i_rem, i_div, w_in, w_in2, w_cnt, w_cnt2, z01, z01', il, li, lc_ge, lc_le, lc_gt, lc_lt, lc_eq, l_ofNat, l0, l_eq, l_lt, l_le]) <;> omega)) (h_bind (c_pt h hN (by omega) 5 N 0 0 (by omega) (by omega)) rfl), h_pos (by first | omega | ((simp (disch := omega) only [i0, i1, i_lt, i_le, i_eq, i_add, i_sub, i_mul, i_neg, i_ofNat, i_rem, i_div, w_in, w_in2, w_cnt, w_cnt2, z01, z01', il, li, lc_ge, lc_le, lc_gt, lc_lt, lc_eq, l_ofNat, l0, l_eq, l_lt, l_le]) <;> omega)) (r_pt h hN (by omega) 5 N 0 0 (by omega) (by omega))⟩
  · exact ⟨_, h_pos (by first | omega | ((simp (disch := omega) only [i0, i1, i_lt, i_le, i_eq, i_add, i_sub, i_mul, i_neg, i_ofNat, i_rem, i_div, w_in, w_in2, w_cnt, w_cnt2, z01, z01', il, li, lc_ge, lc_le, lc_gt, lc_lt, lc_eq, l_ofNat, l0, l_eq, l_lt, l_le]) <;> omega)) rfl, h_neg (by first | omega | ((simp (disch := omega) only [i0, i1, i_lt, i_le, i_eq, i_add, i_sub, i_mul, i_neg, i_ofNat, i_rem, i_div, w_in, w_in2, w_cnt, w_cnt2, z01, z01', il, li, lc_ge, lc_le, lc_gt, lc_lt, lc_eq, l_ofNat, l0, l_eq, l_lt, l_le]) <;> omega)) rfl⟩
end PMS
