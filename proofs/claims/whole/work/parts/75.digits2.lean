/-! ===== digits, by both ===== -/
section PMS
variable {T : yK} {S : yS}
theorem c_mst {N : Nat} {a len i c d : Nat} {g : Nat → Int32} (ha : a ≤ 99) (hi : i < len) (hl : len ≤ 100) (hc : c ≤ 98) (hd : d ≤ 9) (hg : g i = Int32.ofInt (d : Int)) : ∀ n, lX11_multiply N (n + 1) (Int32.ofInt (a : Int)) (Int32.ofInt (len : Int)) (Int32.ofInt (c : Int)) (Int32.ofInt (i : Int)) (ySa S 264 g) = lX11_multiply N n (Int32.ofInt (a : Int)) (Int32.ofInt (len : Int)) (Int32.ofInt (((c + d * a) / 10 : Nat) : Int)) (Int32.ofInt ((i + 1 : Nat) : Int)) (ySa S 264 (upd g i (Int32.ofInt (((c + d * a) % 10 : Nat) : Int)))) := by
  intro n
  have hm : d * a ≤ 9 * 99 := Nat.mul_le_mul hd ha
  have e0 : (c : Int) + (d : Int) * (a : Int) = ((c + d * a : Nat) : Int) := by simp
  rw [lX11_multiply]
  refine h_neg (by first | omega | ((simp (disch := omega) only [i0, i1, i_lt, i_le, i_eq, i_add, i_sub, i_mul, i_neg, i_ofNat, i_rem, i_div, w_in, w_in2, w_cnt, w_cnt2, z01, z01', il, li, lc_ge, lc_le, lc_gt, lc_lt, lc_eq, l_ofNat, l0, l_eq, l_lt, l_le]) <;> omega)) (h_pos (by first | omega | ((simp (disch := omega) only [i0, i1, i_lt, i_le, i_eq, i_add, i_sub, i_mul, i_neg, i_ofNat, i_rem, i_div, w_in, w_in2, w_cnt, w_cnt2, z01, z01', il, li, lc_ge, lc_le, lc_gt, lc_lt, lc_eq, l_ofNat, l0, l_eq, l_lt, l_le]) <;> omega)) (h_neg (by first | omega | ((simp (disch := omega) only [i0, i1, i_lt, i_le, i_eq, i_add, i_sub, i_mul, i_neg, i_ofNat, i_rem, i_div, w_in, w_in2, w_cnt, w_cnt2, z01, z01', il, li, lc_ge, lc_le, lc_gt, lc_lt, lc_eq, l_ofNat, l0, l_eq, l_lt, l_le]) <;> omega)) (h_ainN (by omega) (by omega) (h_pst (h_ainN (by omega) (by omega) (h_pst ?_))))))
  rw [ySa_at, hg, i_mul, i_add, e0, ySa_ySa]
  generalize c + d * a = s at *
  rw [i_rem (by omega) (by omega) (by omega) (by omega), i_div (by omega) (by omega) (by omega) (by omega), i_add]
  rfl
theorem c_mcr {N : Nat} {a len i c : Nat} {g : Nat → Int32} (hi : len ≤ i) (hl : i < 100) (hc : 1 ≤ c ∧ c ≤ 98) : ∀ n, lX11_multiply N (n + 1) (Int32.ofInt (a : Int)) (Int32.ofInt (len : Int)) (Int32.ofInt (c : Int)) (Int32.ofInt (i : Int)) (ySa S 264 g) = lX11_multiply N n (Int32.ofInt (a : Int)) (Int32.ofInt (len : Int)) (Int32.ofInt ((c / 10 : Nat) : Int)) (Int32.ofInt ((i + 1 : Nat) : Int)) (ySa S 264 (upd g i (Int32.ofInt ((c % 10 : Nat) : Int)))) := by
  intro n
  rw [lX11_multiply]
  refine h_neg (by first | omega | ((simp (disch := omega) only [i0, i1, i_lt, i_le, i_eq, i_add, i_sub, i_mul, i_neg, i_ofNat, i_rem, i_div, w_in, w_in2, w_cnt, w_cnt2, z01, z01', il, li, lc_ge, lc_le, lc_gt, lc_lt, lc_eq, l_ofNat, l0, l_eq, l_lt, l_le]) <;> omega)) (h_neg (by first | omega | ((simp (disch := omega) only [i0, i1, i_lt, i_le, i_eq, i_add, i_sub, i_mul, i_neg, i_ofNat, i_rem, i_div, w_in, w_in2, w_cnt, w_cnt2, z01, z01', il, li, lc_ge, lc_le, lc_gt, lc_lt, lc_eq, l_ofNat, l0, l_eq, l_lt, l_le]) <;> omega)) (h_neg (by first | omega | ((simp (disch := omega) only [i0, i1, i_lt, i_le, i_eq, i_add, i_sub, i_mul, i_neg, i_ofNat, i_rem, i_div, w_in, w_in2, w_cnt, w_cnt2, z01, z01', il, li, lc_ge, lc_le, lc_gt, lc_lt, lc_eq, l_ofNat, l0, l_eq, l_lt, l_le]) <;> omega)) (h_pos (by first | omega | ((simp (disch := omega) only [i0, i1, i_lt, i_le, i_eq, i_add, i_sub, i_mul, i_neg, i_ofNat, i_rem, i_div, w_in, w_in2, w_cnt, w_cnt2, z01, z01', il, li, lc_ge, lc_le, lc_gt, lc_lt, lc_eq, l_ofNat, l0, l_eq, l_lt, l_le]) <;> omega)) (h_ainN (by omega) (by omega) (h_pst (h_pst ?_))))))
  rw [ySa_at, i_add, Int.add_zero, ySa_ySa, i_rem (by omega) (by omega) (by omega) (by omega), i_div (by omega) (by omega) (by omega) (by omega), i_add]
  rfl
theorem c_mend {N : Nat} {a len i : Nat} {g : Nat → Int32} (hi : len ≤ i) (hl : i ≤ 100) : ∀ n, lX11_multiply N (n + 1) (Int32.ofInt (a : Int)) (Int32.ofInt (len : Int)) (Int32.ofInt ((0 : Nat) : Int)) (Int32.ofInt (i : Int)) (ySa S 264 g) = some (Int32.ofInt (i : Int), ySa S 264 g) := by
  intro n
  rw [lX11_multiply]
  by_cases h : 100 ≤ i
  · exact h_pos (by first | omega | ((simp (disch := omega) only [i0, i1, i_lt, i_le, i_eq, i_add, i_sub, i_mul, i_neg, i_ofNat, i_rem, i_div, w_in, w_in2, w_cnt, w_cnt2, z01, z01', il, li, lc_ge, lc_le, lc_gt, lc_lt, lc_eq, l_ofNat, l0, l_eq, l_lt, l_le]) <;> omega)) rfl
  · exact h_neg (by first | omega | ((simp (disch := omega) only [i0, i1, i_lt, i_le, i_eq, i_add, i_sub, i_mul, i_neg, i_ofNat, i_rem, i_div, w_in, w_in2, w_cnt, w_cnt2, z01, z01', il, li, lc_ge, lc_le, lc_gt, lc_lt, lc_eq, l_ofNat, l0, l_eq, l_lt, l_le]) <;> omega)) (h_neg (by first | omega | ((simp (disch := omega) only [i0, i1, i_lt, i_le, i_eq, i_add, i_sub, i_mul, i_neg, i_ofNat, i_rem, i_div, w_in, w_in2, w_cnt, w_cnt2, z01, z01', il, li, lc_ge, lc_le, lc_gt, lc_lt, lc_eq, l_ofNat, l0, l_eq, l_lt, l_le]) <;> omega)) (h_pos (by decide) rfl))
theorem c_mcD {N : Nat} {a len i c : Nat} {g : Nat → Int32} (hi : len ≤ i) (hc : c ≤ 98) (hl : i + (crD c).length ≤ 100) : ∃ g', hld g' i (crD c) ∧ (∀ k, k < i → g' k = g k) ∧ ∀ n, lX11_multiply N (n + (crD c).length + 1) (Int32.ofInt (a : Int)) (Int32.ofInt (len : Int)) (Int32.ofInt (c : Int)) (Int32.ofInt (i : Int)) (ySa S 264 g) = some (Int32.ofInt ((i + (crD c).length : Nat) : Int), ySa S 264 g') := by
  unfold crD at hl ⊢
  by_cases h0 : c = 0
  · subst h0
    simp only [if_true, List.length_nil, Nat.add_zero] at hl ⊢
    exact ⟨g, trivial, fun _ _ => rfl, c_mend hi hl⟩
  · by_cases h1 : c < 10
    · simp only [h0, h1, if_true, if_false, List.length_singleton] at hl ⊢
      refine ⟨upd g i (Int32.ofInt ((c % 10 : Nat) : Int)), ⟨?_, trivial⟩, fun k hk => upd_ne (by omega), fun n => ?_⟩
      · rw [upd_at, show c % 10 = c by omega]
      · rw [show n + 1 + 1 = (n + 1) + 1 by omega, c_mcr hi (by omega) (by omega), show c / 10 = 0 by omega]
        exact c_mend (by omega) (by omega) n
    · simp only [h0, h1, if_false, List.length_cons, List.length_nil] at hl ⊢
      refine ⟨upd (upd g i (Int32.ofInt ((c % 10 : Nat) : Int))) (i + 1) (Int32.ofInt ((c / 10 % 10 : Nat) : Int)), ⟨?_, ?_, trivial⟩, fun k hk => by rw [upd_ne (by omega), upd_ne (by omega)], fun n => ?_⟩
      · rw [upd_ne (by omega), upd_at]
      · rw [upd_at, show c / 10 % 10 = c / 10 by omega]
      · rw [show n + (0 + 1 + 1) + 1 = (n + 1 + 1) + 1 by omega, c_mcr hi (by omega) (by omega), c_mcr (by omega) (by omega) (by omega), show c / 10 / 10 = 0 by omega]
        exact c_mend (by omega) (by omega) n
theorem c_mul {N : Nat} {a len : Nat} (ha : a ≤ 99) (hlen : len ≤ 100) : ∀ (R : List Nat) (i c : Nat) (g : Nat → Int32), i + R.length = len → dgD R → c ≤ 98 → hld g i R → i + (mpD a c R ++ crD (mpC a c R)).length ≤ 100 → ∃ g', hld g' i (mpD a c R ++ crD (mpC a c R)) ∧ (∀ k, k < i → g' k = g k) ∧ ∀ n, lX11_multiply N (n + (mpD a c R ++ crD (mpC a c R)).length + 1) (Int32.ofInt (a : Int)) (Int32.ofInt (len : Int)) (Int32.ofInt (c : Int)) (Int32.ofInt (i : Int)) (ySa S 264 g) = some (Int32.ofInt ((i + (mpD a c R ++ crD (mpC a c R)).length : Nat) : Int), ySa S 264 g')
  | [], i, c, g, hi, hd, hc, hg, hl => by
    simp only [List.length_nil] at hi
    exact c_mcD (by omega) hc hl
  | d :: R, i, c, g, hi, hd, hc, hg, hl => by
    have h9 := hd d (List.mem_cons_self)
    have hm : d * a ≤ 9 * 99 := Nat.mul_le_mul h9 ha
    have hdR : dgD R := fun x hx => hd x (List.mem_cons_of_mem _ hx)
    simp only [List.length_cons] at hi
    have e1 : mpD a c (d :: R) ++ crD (mpC a c (d :: R)) = ((c + d * a) % 10) :: (mpD a ((c + d * a) / 10) R ++ crD (mpC a ((c + d * a) / 10) R)) := rfl
    rw [e1] at hl ⊢
    simp only [List.length_cons] at hl ⊢
    obtain ⟨g', q1, q2, q3⟩ := c_mul (N := N) ha hlen R (i + 1) ((c + d * a) / 10) (upd g i (Int32.ofInt (((c + d * a) % 10 : Nat) : Int))) (by omega) hdR (by omega) (hld_upd R (i + 1) hg.2 (by omega)) (by omega)
    refine ⟨g', ⟨?_, q1⟩, fun k hk => ?_, fun n => ?_⟩
    · rw [q2 i (by omega), upd_at]
    · rw [q2 k (by omega), upd_ne (by omega)]
    · rw [show ∀ x, n + (x + 1) + 1 = (n + x + 1) + 1 by intro x; omega, c_mst ha (by omega) hlen hc h9 hg.1, q3 n, show ∀ x : Nat, i + 1 + x = i + (x + 1) by intro x; omega]
/-- behind a product nothing is to be cut off -/
def okT (R : List Nat) : Prop := R.length = 1 ∨ tzD R
theorem pw_ok {a : Nat} (ha : a ≤ 99) (k : Nat) : okT (pwD a k) := by
  by_cases h0 : a = 0
  · subst h0
    match k with
    | 0 => exact Or.inl rfl
    | k + 1 => rw [pw_0]; exact Or.inl rfl
  · exact Or.inr (pw_tz ha (by omega) k)
theorem tz_get {R : List Nat} (h : tzD R) (hd : dgD R) : 1 ≤ R.getD (R.length - 1) 0 ∧ R.getD (R.length - 1) 0 ≤ 9 := by
  obtain ⟨L, d, rfl, h0⟩ := h
  have : (L ++ [d]).getD ((L ++ [d]).length - 1) 0 = d := by simp
  rw [this]
  exact ⟨by omega, hd d (by simp)⟩
theorem c_mulF {N : Nat} (hN : 2000000 ≤ N) {a k : Nat} (ha : a ≤ 99) (hk : k + 1 ≤ 50) {g : Nat → Int32} (hg : hld g 0 (pwD a k)) : ∃ g', hld g' 0 (pwD a (k + 1)) ∧ fX11_multiply N (Int32.ofInt (a : Int)) (Int32.ofInt ((pwD a k).length : Int)) (ySa S 264 g) = some (Int32.ofInt ((pwD a (k + 1)).length : Int), ySa S 264 g') := by
  have hl0 := pw_len ha (show k ≤ 50 by omega)
  have hl1 := pw_len ha hk
  have e : pwD a (k + 1) = mpD a 0 (pwD a k) ++ crD (mpC a 0 (pwD a k)) := rfl
  obtain ⟨g', q1, q2, q3⟩ := c_mul (N := N) (S := S) ha hl0.2 (pwD a k) 0 0 g (by omega) (pw_dg ha k) (by omega) hg (by rw [← e]; omega)
  rw [← e] at q1 q3
  refine ⟨g', q1, ?_⟩
  unfold fX11_multiply
  have key : ∀ M, 200 ≤ M → lX11_multiply N M (Int32.ofInt (a : Int)) (Int32.ofInt ((pwD a k).length : Int)) (Int32.ofInt 0) (Int32.ofInt 0) (ySa S 264 g) = some (Int32.ofInt ((pwD a (k + 1)).length : Int), ySa S 264 g') := by
    intro M hM
    obtain ⟨n, rfl⟩ : ∃ j, M = j + (pwD a (k + 1)).length + 1 := ⟨M - (pwD a (k + 1)).length - 1, by omega⟩
    refine (q3 n).trans ?_
    rw [Nat.zero_add]
  exact key N (by omega)
theorem c_raiL {N : Nat} (hN : 2000000 ≤ N) {a : Nat} (ha : a ≤ 99) : ∀ (m n k : Nat) (g : Nat → Int32), k + m ≤ 50 → m < n → hld g 0 (pwD a k) → ∃ g', hld g' 0 (pwD a (k + m)) ∧ lX11_raise N n (Int32.ofInt (a : Int)) (Int32.ofInt ((k + m : Nat) : Int)) (Int32.ofInt ((pwD a k).length : Int)) (Int32.ofInt (k : Int)) (ySa S 264 g) = some (Int32.ofInt ((pwD a (k + m)).length : Int), ySa S 264 g')
  | 0, n + 1, k, g, hk, _, hg => by
    refine ⟨g, hg, ?_⟩
    rw [lX11_raise]
    exact h_pos (by first | omega | ((simp (disch := omega) only [i0, i1, i_lt, i_le, i_eq, i_add, i_sub, i_mul, i_neg, i_ofNat, i_rem, i_div, w_in, w_in2, w_cnt, w_cnt2, z01, z01', il, li, lc_ge, lc_le, lc_gt, lc_lt, lc_eq, l_ofNat, l0, l_eq, l_lt, l_le]) <;> omega)) rfl
  | m + 1, n + 1, k, g, hk, hn, hg => by
    obtain ⟨g1, e1, e2⟩ := c_mulF hN (S := S) ha (show k + 1 ≤ 50 by omega) hg
    obtain ⟨g2, e3, e4⟩ := c_raiL hN ha m n (k + 1) g1 (by omega) (by omega) e1
    rw [show k + 1 + m = k + (m + 1) by omega] at e3 e4
    refine ⟨g2, e3, ?_⟩
    rw [lX11_raise]
    refine h_neg (by first | omega | ((simp (disch := omega) only [i0, i1, i_lt, i_le, i_eq, i_add, i_sub, i_mul, i_neg, i_ofNat, i_rem, i_div, w_in, w_in2, w_cnt, w_cnt2, z01, z01', il, li, lc_ge, lc_le, lc_gt, lc_lt, lc_eq, l_ofNat, l0, l_eq, l_lt, l_le]) <;> omega)) (h_bind e2 ?_)
    rw [i_add, show (k : Int) + 1 = ((k + 1 : Nat) : Int) by omega]
    exact e4
theorem c_rai {N : Nat} (hN : 2000000 ≤ N) (S : yS) {a m : Nat} (ha : a ≤ 99) (hm : m ≤ 50) : ∃ g, hld g 0 (pwD a m) ∧ fX11_raise N (Int32.ofInt (a : Int)) (Int32.ofInt (m : Int)) S = some (Int32.ofInt ((pwD a m).length : Int), ySa S 264 g) := by
  obtain ⟨g, e1, e2⟩ := c_raiL hN (S := S) ha m N 0 (upd (S.2.2.1 264) 0 (Int32.ofInt 1)) (by omega) (by omega) ⟨upd_at, trivial⟩
  rw [Nat.zero_add] at e1 e2
  exact ⟨g, e1, h_pst e2⟩
/-! the reference -/
theorem r_m1 {N : Nat} {a many : Nat} {l2 l4 : Int32} (ha : a ≤ 99) (hmn : many ≤ 100) : ∀ (R : List Nat) (i c : Nat) (g : Nat → Int32), i + R.length = many → dgD R → c ≤ 98 → hld g i R → ∃ g', hld g' i (mpD a c R) ∧ (∀ k, k < i → g' k = g k) ∧ ∀ n, lX12_layFigures N (n + R.length + 1) 1 (Int32.ofInt (a : Int)) l2 (Int32.ofInt (many : Int)) l4 (Int32.ofInt (c : Int)) (Int32.ofInt (i : Int)) (ySa S 279 g) = lX12_layFigures N n 2 (Int32.ofInt (a : Int)) l2 (Int32.ofInt (many : Int)) l4 (Int32.ofInt (mpC a c R : Nat)) 0 (ySa S 279 g')
  | [], i, c, g, hi, hd, hc, hg => by
    simp only [List.length_nil] at hi
    refine ⟨g, trivial, fun _ _ => rfl, fun n => ?_⟩
    rw [List.length_nil, Nat.add_zero, lX12_layFigures]
    exact h_neg (by omega) (h_pos rfl (h_pos (by first | omega | ((simp (disch := omega) only [i0, i1, i_lt, i_le, i_eq, i_add, i_sub, i_mul, i_neg, i_ofNat, i_rem, i_div, w_in, w_in2, w_cnt, w_cnt2, z01, z01', il, li, lc_ge, lc_le, lc_gt, lc_lt, lc_eq, l_ofNat, l0, l_eq, l_lt, l_le]) <;> omega)) rfl))
  | d :: R, i, c, g, hi, hd, hc, hg => by
    have h9 := hd d (List.mem_cons_self)
    have hm : d * a ≤ 9 * 99 := Nat.mul_le_mul h9 ha
    have hdR : dgD R := fun x hx => hd x (List.mem_cons_of_mem _ hx)
    simp only [List.length_cons] at hi
    obtain ⟨g', q1, q2, q3⟩ := r_m1 (N := N) (l2 := l2) (l4 := l4) ha hmn R (i + 1) ((c + d * a) / 10) (upd g i (Int32.ofInt (((c + d * a) % 10 : Nat) : Int))) (by omega) hdR (by omega) (hld_upd R (i + 1) hg.2 (by omega))
    refine ⟨g', ⟨?_, q1⟩, fun k hk => ?_, fun n => ?_⟩
    · rw [q2 i (by omega), upd_at]
    · rw [q2 k (by omega), upd_ne (by omega)]
    · have e0 : (c : Int) + (d : Int) * (a : Int) = ((c + d * a : Nat) : Int) := by simp
      rw [List.length_cons, show n + (R.length + 1) + 1 = (n + R.length + 1) + 1 by omega, lX12_layFigures]
      refine h_neg (by omega) (h_pos rfl (h_neg (by first | omega | ((simp (disch := omega) only [i0, i1, i_lt, i_le, i_eq, i_add, i_sub, i_mul, i_neg, i_ofNat, i_rem, i_div, w_in, w_in2, w_cnt, w_cnt2, z01, z01', il, li, lc_ge, lc_le, lc_gt, lc_lt, lc_eq, l_ofNat, l0, l_eq, l_lt, l_le]) <;> omega)) (h_ainN (by omega) (by omega) (h_pst (h_ainN (by omega) (by omega) (h_pst ?_))))))
      have q4 := q3 n
      show _ = lX12_layFigures N n 2 (Int32.ofInt (a : Int)) l2 (Int32.ofInt (many : Int)) l4 (Int32.ofInt (mpC a ((c + d * a) / 10) R : Nat)) 0 (ySa S 279 g')
      rw [← q4, ySa_at, hg.1, i_mul, i_add, e0, ySa_ySa]
      generalize c + d * a = s at *
      rw [i_rem (by omega) (by omega) (by omega) (by omega), i_div (by omega) (by omega) (by omega) (by omega), i_add]
      rfl
theorem r_m2s {N : Nat} {a i c : Nat} {l2 l4 : Int32} {g : Nat → Int32} (hl : i < 100) (hc : 1 ≤ c ∧ c ≤ 98) : ∀ n, lX12_layFigures N (n + 1) 2 (Int32.ofInt (a : Int)) l2 (Int32.ofInt (i : Int)) l4 (Int32.ofInt (c : Int)) 0 (ySa S 279 g) = lX12_layFigures N n 2 (Int32.ofInt (a : Int)) l2 (Int32.ofInt ((i + 1 : Nat) : Int)) l4 (Int32.ofInt ((c / 10 : Nat) : Int)) 0 (ySa S 279 (upd g i (Int32.ofInt ((c % 10 : Nat) : Int)))) := by
  intro n
  rw [lX12_layFigures]
  refine h_neg (by omega) (h_neg (by omega) (h_pos rfl (h_neg (by first | omega | ((simp (disch := omega) only [i0, i1, i_lt, i_le, i_eq, i_add, i_sub, i_mul, i_neg, i_ofNat, i_rem, i_div, w_in, w_in2, w_cnt, w_cnt2, z01, z01', il, li, lc_ge, lc_le, lc_gt, lc_lt, lc_eq, l_ofNat, l0, l_eq, l_lt, l_le]) <;> omega)) (h_ainN (by omega) (by omega) (h_pst ?_)))))
  rw [ySa_at, ySa_ySa, i_rem (by omega) (by omega) (by omega) (by omega), i_div (by omega) (by omega) (by omega) (by omega), i_add]
  rfl
theorem r_m2e {N : Nat} {a i : Nat} {l2 l4 : Int32} {g : Nat → Int32} : ∀ n, lX12_layFigures N (n + 1) 2 (Int32.ofInt (a : Int)) l2 (Int32.ofInt (i : Int)) l4 (Int32.ofInt ((0 : Nat) : Int)) 0 (ySa S 279 g) = lX12_layFigures N n 0 (Int32.ofInt (a : Int)) l2 (Int32.ofInt (i : Int)) (l4 + Int32.ofInt 1) 0 0 (ySa S 279 g) := by
  intro n
  rw [lX12_layFigures]
  exact h_neg (by omega) (h_neg (by omega) (h_pos rfl (h_pos (by decide) rfl)))
theorem r_m2 {N : Nat} {a i c : Nat} {l2 l4 : Int32} {g : Nat → Int32} (hc : c ≤ 98) (hl : i + (crD c).length ≤ 100) : ∃ g', hld g' i (crD c) ∧ (∀ k, k < i → g' k = g k) ∧ ∀ n, lX12_layFigures N (n + (crD c).length + 1) 2 (Int32.ofInt (a : Int)) l2 (Int32.ofInt (i : Int)) l4 (Int32.ofInt (c : Int)) 0 (ySa S 279 g) = lX12_layFigures N n 0 (Int32.ofInt (a : Int)) l2 (Int32.ofInt ((i + (crD c).length : Nat) : Int)) (l4 + Int32.ofInt 1) 0 0 (ySa S 279 g') := by
  unfold crD at hl ⊢
  by_cases h0 : c = 0
  · subst h0
    simp only [if_true, List.length_nil, Nat.add_zero] at hl ⊢
    exact ⟨g, trivial, fun _ _ => rfl, r_m2e⟩
  · by_cases h1 : c < 10
    · simp only [h0, h1, if_true, if_false, List.length_singleton] at hl ⊢
      refine ⟨upd g i (Int32.ofInt ((c % 10 : Nat) : Int)), ⟨?_, trivial⟩, fun k hk => upd_ne (by omega), fun n => ?_⟩
      · rw [upd_at, show c % 10 = c by omega]
      · rw [show n + 1 + 1 = (n + 1) + 1 by omega, r_m2s (by omega) (by omega), show c / 10 = 0 by omega]
        exact r_m2e n
    · simp only [h0, h1, if_false, List.length_cons, List.length_nil] at hl ⊢
      refine ⟨upd (upd g i (Int32.ofInt ((c % 10 : Nat) : Int))) (i + 1) (Int32.ofInt ((c / 10 % 10 : Nat) : Int)), ⟨?_, ?_, trivial⟩, fun k hk => by rw [upd_ne (by omega), upd_ne (by omega)], fun n => ?_⟩
      · rw [upd_ne (by omega), upd_at]
      · rw [upd_at, show c / 10 % 10 = c / 10 by omega]
      · rw [show n + (0 + 1 + 1) + 1 = (n + 1 + 1) + 1 by omega, r_m2s (by omega) (by omega), r_m2s (by omega) (by omega), show c / 10 / 10 = 0 by omega]
        exact r_m2e n
theorem r_m0 {N : Nat} {a k m0 : Nat} (ha : a ≤ 99) (hk : k + 1 ≤ m0) (hm0 : m0 ≤ 50) {g : Nat → Int32} (hg : hld g 0 (pwD a k)) : ∃ g' r, r ≤ 210 ∧ hld g' 0 (pwD a (k + 1)) ∧ ∀ n, lX12_layFigures N (n + r) 0 (Int32.ofInt (a : Int)) (Int32.ofInt (m0 : Int)) (Int32.ofInt ((pwD a k).length : Int)) (Int32.ofInt (k : Int)) 0 0 (ySa S 279 g) = lX12_layFigures N n 0 (Int32.ofInt (a : Int)) (Int32.ofInt (m0 : Int)) (Int32.ofInt ((pwD a (k + 1)).length : Int)) (Int32.ofInt ((k + 1 : Nat) : Int)) 0 0 (ySa S 279 g') := by
  have hl0 := pw_len ha (show k ≤ 50 by omega)
  have hl1 := pw_len ha (show k + 1 ≤ 50 by omega)
  have e : pwD a (k + 1) = mpD a 0 (pwD a k) ++ crD (mpC a 0 (pwD a k)) := rfl
  have hb := mp_b ha (pwD a k) 0 (pw_dg ha k) (by omega)
  have hlen : (pwD a (k + 1)).length = (pwD a k).length + (crD (mpC a 0 (pwD a k))).length := by rw [e, List.length_append, mpD_len]
  obtain ⟨g1, q1, q2, q3⟩ := r_m1 (N := N) (S := S) (l2 := Int32.ofInt (m0 : Int)) (l4 := Int32.ofInt (k : Int)) ha hl0.2 (pwD a k) 0 0 g (by omega) (pw_dg ha k) (by omega) hg
  obtain ⟨g2, q4, q5, q6⟩ := r_m2 (N := N) (S := S) (a := a) (l2 := Int32.ofInt (m0 : Int)) (l4 := Int32.ofInt (k : Int)) (g := g1) (i := (pwD a k).length) hb (by omega)
  refine ⟨g2, (crD (mpC a 0 (pwD a k))).length + 1 + (pwD a k).length + 1 + 1, by omega, ?_, fun n => ?_⟩
  · rw [e, hld_app, mpD_len, Nat.zero_add]
    refine ⟨hld_congr _ _ q1 (fun j h1 h2 => ?_), q4⟩
    rw [mpD_len] at h2
    exact q5 j (by omega)
  · rw [show n + ((crD (mpC a 0 (pwD a k))).length + 1 + (pwD a k).length + 1 + 1) = ((n + (crD (mpC a 0 (pwD a k))).length + 1) + (pwD a k).length + 1) + 1 by omega, lX12_layFigures]
    refine h_pos rfl (h_neg (by first | omega | ((simp (disch := omega) only [i0, i1, i_lt, i_le, i_eq, i_add, i_sub, i_mul, i_neg, i_ofNat, i_rem, i_div, w_in, w_in2, w_cnt, w_cnt2, z01, z01', il, li, lc_ge, lc_le, lc_gt, lc_lt, lc_eq, l_ofNat, l0, l_eq, l_lt, l_le]) <;> omega)) ((q3 _).trans ((q6 n).trans ?_)))
    rw [hlen, i_add, show (k : Int) + 1 = ((k + 1 : Nat) : Int) by omega]
theorem r_trim {N : Nat} {R : List Nat} {g : Nat → Int32} (hd : dgD R) (hR : okT R) (h1 : 1 ≤ R.length ∧ R.length ≤ 100) (hg : hld g 0 R) : ∀ n, lX12_layFigures N (n + 1) 3 0 0 (Int32.ofInt (R.length : Int)) 0 0 0 (ySa S 279 g) = some (Int32.ofInt (R.length : Int), ySa S 279 g) := by
  intro n
  rw [lX12_layFigures]
  refine h_neg (by omega) (h_neg (by omega) (h_neg (by omega) ?_))
  by_cases hl : R.length = 1
  · exact h_pos (by first | omega | ((simp (disch := omega) only [i0, i1, i_lt, i_le, i_eq, i_add, i_sub, i_mul, i_neg, i_ofNat, i_rem, i_div, w_in, w_in2, w_cnt, w_cnt2, z01, z01', il, li, lc_ge, lc_le, lc_gt, lc_lt, lc_eq, l_ofNat, l0, l_eq, l_lt, l_le]) <;> omega)) rfl
  · have hz := hR.resolve_left hl
    have hq := tz_get hz hd
    refine h_neg (by first | omega | ((simp (disch := omega) only [i0, i1, i_lt, i_le, i_eq, i_add, i_sub, i_mul, i_neg, i_ofNat, i_rem, i_div, w_in, w_in2, w_cnt, w_cnt2, z01, z01', il, li, lc_ge, lc_le, lc_gt, lc_lt, lc_eq, l_ofNat, l0, l_eq, l_lt, l_le]) <;> omega)) ?_
    rw [i_sub, show (R.length : Int) - 1 = ((R.length - 1 : Nat) : Int) by omega]
    refine h_ainN (by omega) (by omega) ?_
    have := hld_get R 0 (R.length - 1) hg (by omega)
    rw [Nat.zero_add] at this
    rw [ySa_at, this]
    exact h_pos (by first | omega | ((simp (disch := omega) only [i0, i1, i_lt, i_le, i_eq, i_add, i_sub, i_mul, i_neg, i_ofNat, i_rem, i_div, w_in, w_in2, w_cnt, w_cnt2, z01, z01', il, li, lc_ge, lc_le, lc_gt, lc_lt, lc_eq, l_ofNat, l0, l_eq, l_lt, l_le]) <;> omega)) rfl
theorem r_figL {N : Nat} {a m0 : Nat} (ha : a ≤ 99) (hm0 : m0 ≤ 50) : ∀ (m n k : Nat) (g : Nat → Int32), k + m = m0 → 220 * m + 10 < n → hld g 0 (pwD a k) → ∃ g', hld g' 0 (pwD a m0) ∧ lX12_layFigures N n 0 (Int32.ofInt (a : Int)) (Int32.ofInt (m0 : Int)) (Int32.ofInt ((pwD a k).length : Int)) (Int32.ofInt (k : Int)) 0 0 (ySa S 279 g) = some (Int32.ofInt ((pwD a m0).length : Int), ySa S 279 g')
  | 0, n, k, g, hk, hn, hg => by
    have : k = m0 := by omega
    subst this
    obtain ⟨n, rfl⟩ : ∃ j, n = j + 1 + 1 := ⟨n - 2, by omega⟩
    refine ⟨g, hg, ?_⟩
    rw [lX12_layFigures]
    exact h_pos rfl (h_pos (by first | omega | ((simp (disch := omega) only [i0, i1, i_lt, i_le, i_eq, i_add, i_sub, i_mul, i_neg, i_ofNat, i_rem, i_div, w_in, w_in2, w_cnt, w_cnt2, z01, z01', il, li, lc_ge, lc_le, lc_gt, lc_lt, lc_eq, l_ofNat, l0, l_eq, l_lt, l_le]) <;> omega)) (r_trim (pw_dg ha k) (pw_ok ha k) (pw_len ha hm0) hg n))
  | m + 1, n, k, g, hk, hn, hg => by
    obtain ⟨g1, r, hr, e1, e2⟩ := r_m0 (N := N) (S := S) ha (show k + 1 ≤ m0 by omega) hm0 hg
    obtain ⟨n, rfl⟩ : ∃ j, n = j + r := ⟨n - r, by omega⟩
    obtain ⟨g2, e3, e4⟩ := r_figL ha hm0 m n (k + 1) g1 (by omega) (by omega) e1
    exact ⟨g2, e3, (e2 n).trans e4⟩
theorem r_fig {N : Nat} (hN : 2000000 ≤ N) (S : yS) {a m : Nat} (ha : a ≤ 99) (hm : m ≤ 50) : ∃ g, hld g 0 (pwD a m) ∧ fX12_layFigures N (Int32.ofInt (a : Int)) (Int32.ofInt (m : Int)) S = some (Int32.ofInt ((pwD a m).length : Int), ySa S 279 g) := by
  obtain ⟨g, e1, e2⟩ := r_figL (N := N) (S := S) ha hm m N 0 (upd (S.2.2.1 279) 0 (Int32.ofInt 1)) (by omega) (by omega) ⟨upd_at, trivial⟩
  exact ⟨g, e1, h_pst e2⟩
theorem w_times {a b : Int} (a1 : -2147483648 ≤ a) (a2 : a < 2147483648) (b1 : -2147483648 ≤ b) (b2 : b < 2147483648) : fX12_areTimes (Int32.ofInt a) (Int32.ofInt b) = Int32.ofInt (if (0 ≤ a ∧ a ≤ 99) ∧ (0 ≤ b ∧ b ≤ 50) then 1 else 0) := by
  unfold fX12_areTimes
  by_cases ha : 0 ≤ a ∧ a ≤ 99
  · by_cases hb : 0 ≤ b ∧ b ≤ 50
    · refine h_neg (by first | omega | ((simp (disch := omega) only [i0, i1, i_lt, i_le, i_eq, i_add, i_sub, i_mul, i_neg, i_ofNat, i_rem, i_div, w_in, w_in2, w_cnt, w_cnt2, z01, z01', il, li, lc_ge, lc_le, lc_gt, lc_lt, lc_eq, l_ofNat, l0, l_eq, l_lt, l_le]) <;> omega)) (h_neg (by first | omega | ((simp (disch := omega) only [i0, i1, i_lt, i_le, i_eq, i_add, i_sub, i_mul, i_neg, i_ofNat, i_rem, i_div, w_in, w_in2, w_cnt, w_cnt2, z01, z01', il, li, lc_ge, lc_le, lc_gt, lc_lt, lc_eq, l_ofNat, l0, l_eq, l_lt, l_le]) <;> omega)) ?_)
      rw [if_pos ⟨ha, hb⟩]
    · refine h_neg (by first | omega | ((simp (disch := omega) only [i0, i1, i_lt, i_le, i_eq, i_add, i_sub, i_mul, i_neg, i_ofNat, i_rem, i_div, w_in, w_in2, w_cnt, w_cnt2, z01, z01', il, li, lc_ge, lc_le, lc_gt, lc_lt, lc_eq, l_ofNat, l0, l_eq, l_lt, l_le]) <;> omega)) (h_pos (by first | omega | ((simp (disch := omega) only [i0, i1, i_lt, i_le, i_eq, i_add, i_sub, i_mul, i_neg, i_ofNat, i_rem, i_div, w_in, w_in2, w_cnt, w_cnt2, z01, z01', il, li, lc_ge, lc_le, lc_gt, lc_lt, lc_eq, l_ofNat, l0, l_eq, l_lt, l_le]) <;> omega)) ?_)
      rw [if_neg (fun q => hb q.2)]
  · refine h_pos (by first | omega | ((simp (disch := omega) only [i0, i1, i_lt, i_le, i_eq, i_add, i_sub, i_mul, i_neg, i_ofNat, i_rem, i_div, w_in, w_in2, w_cnt, w_cnt2, z01, z01', il, li, lc_ge, lc_le, lc_gt, lc_lt, lc_eq, l_ofNat, l0, l_eq, l_lt, l_le]) <;> omega)) ?_
    rw [if_neg (fun q => ha q.1)]
theorem Fq_264 (S : yS) (f : Nat → Int32) : Fq S (ySa S 264 f) := Fq_a (by unfold kA; omega)
theorem Fq_279 (S : yS) (f : Nat → Int32) : Fq S (ySa S 279 f) := Fq_a (by unfold kA; omega)
theorem pm_digits (h : Rel T S) {N : Nat} (hN : 2000000 ≤ N) (v0 v1 : Int32) : PM T S (fX11_digits N v0 v1) (fX12_digits N v0 v1) := by
  obtain ⟨a, a1, a2, rfl⟩ := i_ex v0
  obtain ⟨b, b1, b2, rfl⟩ := i_ex v1
  have ht := w_times a1 a2 b1 b2
  unfold PM fX11_digits fX12_digits
  by_cases ha : 0 ≤ a ∧ a ≤ 99
  · by_cases hb : 0 ≤ b ∧ b ≤ 50
    · rw [if_pos ⟨ha, hb⟩] at ht
      obtain ⟨x, rfl⟩ := Int.eq_ofNat_of_zero_le ha.1
      obtain ⟨m, rfl⟩ := Int.eq_ofNat_of_zero_le hb.1
      obtain ⟨g, e1, e2⟩ := c_rai hN S (show x ≤ 99 by omega) (show m ≤ 50 by omega)
      obtain ⟨g2, e3, e4⟩ := r_fig hN (ySa S 264 g) (show x ≤ 99 by omega) (show m ≤ 50 by omega)
      refine ⟨_, _, _, h_neg (by first | omega | ((simp (disch := omega) only [i0, i1, i_lt, i_le, i_eq, i_add, i_sub, i_mul, i_neg, i_ofNat, i_rem, i_div, w_in, w_in2, w_cnt, w_cnt2, z01, z01', il, li, lc_ge, lc_le, lc_gt, lc_lt, lc_eq, l_ofNat, l0, l_eq, l_lt, l_le]) <;> omega)) (h_neg (by first | omega | ((simp (disch := omega) only [i0, i1, i_lt, i_le, i_eq, i_add, i_sub, i_mul, i_neg, i_ofNat, i_rem, i_div, w_in, w_in2, w_cnt, w_cnt2, z01, z01', il, li, lc_ge, lc_le, lc_gt, lc_lt, lc_eq, l_ofNat, l0, l_eq, l_lt, l_le]) <;> omega)) (h_bind e2 rfl)), h_neg (by rw [ht]; decide) (h_bind e4 rfl), Rel_Fq h (Fq_trans (Fq_264 _ _) (Fq_279 _ _))⟩
    · rw [if_neg (fun q => hb q.2)] at ht
      exact ⟨_, S, S, h_neg (by first | omega | ((simp (disch := omega) only [i0, i1, i_lt, i_le, i_eq, i_add, i_sub, i_mul, i_neg, i_ofNat, i_rem, i_div, w_in, w_in2, w_cnt, w_cnt2, z01, z01', il, li, lc_ge, lc_le, lc_gt, lc_lt, lc_eq, l_ofNat, l0, l_eq, l_lt, l_le]) <;> omega)) (h_pos (by first | omega | ((simp (disch := omega) only [i0, i1, i_lt, i_le, i_eq, i_add, i_sub, i_mul, i_neg, i_ofNat, i_rem, i_div, w_in, w_in2, w_cnt, w_cnt2, z01, z01', il, li, lc_ge, lc_le, lc_gt, lc_lt, lc_eq, l_ofNat, l0, l_eq, l_lt, l_le]) <;> omega)) rfl), h_pos (by rw [ht]; rfl) rfl, h⟩
  · rw [if_neg (fun q => ha q.1)] at ht
    exact ⟨_, S, S, h_pos (by first | omega | ((simp (disch := omega) only [i0, i1, i_lt, i_le, i_eq, i_add, i_sub, i_mul, i_neg, i_ofNat, i_rem, i_div, w_in, w_in2, w_cnt, w_cnt2, z01, z01', il, li, lc_ge, lc_le, lc_gt, lc_lt, lc_eq, l_ofNat, l0, l_eq, l_lt, l_le]) <;> omega)) rfl, h_pos (by rw [ht]; rfl) rfl, h⟩
theorem pm_digit (h : Rel T S) {N : Nat} (hN : 2000000 ≤ N) (v0 v1 v2 : Int32) : PM T S (fX11_digit N v0 v1 v2) (fX12_digit N v0 v1 v2) := by
  obtain ⟨a, a1, a2, rfl⟩ := i_ex v0
  obtain ⟨b, b1, b2, rfl⟩ := i_ex v1
  obtain ⟨c, c1, c2, rfl⟩ := i_ex v2
  have ht := w_times a1 a2 b1 b2
  unfold PM fX11_digit fX12_digit
  by_cases ha : 0 ≤ a ∧ a ≤ 99
  · by_cases hb : 0 ≤ b ∧ b ≤ 50
    · rw [if_pos ⟨ha, hb⟩] at ht
      obtain ⟨x, rfl⟩ := Int.eq_ofNat_of_zero_le ha.1
      obtain ⟨m, rfl⟩ := Int.eq_ofNat_of_zero_le hb.1
      obtain ⟨g, e1, e2⟩ := c_rai hN S (show x ≤ 99 by omega) (show m ≤ 50 by omega)
      obtain ⟨g2, e3, e4⟩ := r_fig hN (ySa S 264 g) (show x ≤ 99 by omega) (show m ≤ 50 by omega)
      have hl := pw_len (show x ≤ 99 by omega) (show m ≤ 50 by omega)
      have hR := Rel_Fq h (Fq_trans (Fq_264 S g) (Fq_279 _ g2))
      generalize pwD x m = R at *
      by_cases hc : 0 ≤ c ∧ c ≤ (R.length : Int) - 1
      · obtain ⟨i, rfl⟩ := Int.eq_ofNat_of_zero_le hc.1
        have q1 := hld_get R 0 (R.length - 1 - i) e1 (by omega)
        have q2 := hld_get R 0 (R.length - 1 - i) e3 (by omega)
        rw [Nat.zero_add] at q1 q2
        refine ⟨Int32.ofInt (R.getD (R.length - 1 - i) 0 : Nat), ySa S 264 g, ySa (ySa S 264 g) 279 g2, ?_, ?_, hR⟩
        · refine h_neg (by first | omega | ((simp (disch := omega) only [i0, i1, i_lt, i_le, i_eq, i_add, i_sub, i_mul, i_neg, i_ofNat, i_rem, i_div, w_in, w_in2, w_cnt, w_cnt2, z01, z01', il, li, lc_ge, lc_le, lc_gt, lc_lt, lc_eq, l_ofNat, l0, l_eq, l_lt, l_le]) <;> omega)) (h_pos (by first | omega | ((simp (disch := omega) only [i0, i1, i_lt, i_le, i_eq, i_add, i_sub, i_mul, i_neg, i_ofNat, i_rem, i_div, w_in, w_in2, w_cnt, w_cnt2, z01, z01', il, li, lc_ge, lc_le, lc_gt, lc_lt, lc_eq, l_ofNat, l0, l_eq, l_lt, l_le]) <;> omega)) (h_bind e2 ?_))
          dsimp only
          rw [i_sub, i_sub, show (R.length : Int) - 1 - (i : Int) = ((R.length - 1 - i : Nat) : Int) by omega]
          refine h_neg (by first | omega | ((simp (disch := omega) only [i0, i1, i_lt, i_le, i_eq, i_add, i_sub, i_mul, i_neg, i_ofNat, i_rem, i_div, w_in, w_in2, w_cnt, w_cnt2, z01, z01', il, li, lc_ge, lc_le, lc_gt, lc_lt, lc_eq, l_ofNat, l0, l_eq, l_lt, l_le]) <;> omega)) (h_ainN (by omega) (by omega) ?_)
          rw [ySa_at, q1]
        · refine h_pos (by rw [ht]; decide) (h_bind e4 ?_)
          dsimp only
          rw [i_sub, i_sub, show (R.length : Int) - 1 - (i : Int) = ((R.length - 1 - i : Nat) : Int) by omega]
          refine h_neg (by first | omega | ((simp (disch := omega) only [i0, i1, i_lt, i_le, i_eq, i_add, i_sub, i_mul, i_neg, i_ofNat, i_rem, i_div, w_in, w_in2, w_cnt, w_cnt2, z01, z01', il, li, lc_ge, lc_le, lc_gt, lc_lt, lc_eq, l_ofNat, l0, l_eq, l_lt, l_le]) <;> omega)) (h_ainN (by omega) (by omega) ?_)
          rw [ySa_at, q2]
      · refine ⟨Int32.ofInt (-1), ySa S 264 g, ySa (ySa S 264 g) 279 g2, ?_, ?_, hR⟩
        · refine h_neg (by first | omega | ((simp (disch := omega) only [i0, i1, i_lt, i_le, i_eq, i_add, i_sub, i_mul, i_neg, i_ofNat, i_rem, i_div, w_in, w_in2, w_cnt, w_cnt2, z01, z01', il, li, lc_ge, lc_le, lc_gt, lc_lt, lc_eq, l_ofNat, l0, l_eq, l_lt, l_le]) <;> omega)) (h_pos (by first | omega | ((simp (disch := omega) only [i0, i1, i_lt, i_le, i_eq, i_add, i_sub, i_mul, i_neg, i_ofNat, i_rem, i_div, w_in, w_in2, w_cnt, w_cnt2, z01, z01', il, li, lc_ge, lc_le, lc_gt, lc_lt, lc_eq, l_ofNat, l0, l_eq, l_lt, l_le]) <;> omega)) (h_bind e2 ?_))
          dsimp only
          rw [i_sub]
          exact h_pos (by first | omega | ((simp (disch := omega) only [i0, i1, i_lt, i_le, i_eq, i_add, i_sub, i_mul, i_neg, i_ofNat, i_rem, i_div, w_in, w_in2, w_cnt, w_cnt2, z01, z01', il, li, lc_ge, lc_le, lc_gt, lc_lt, lc_eq, l_ofNat, l0, l_eq, l_lt, l_le]) <;> omega)) rfl
        · refine h_pos (by rw [ht]; decide) (h_bind e4 ?_)
          dsimp only
          rw [i_sub]
          exact h_pos (by first | omega | ((simp (disch := omega) only [i0, i1, i_lt, i_le, i_eq, i_add, i_sub, i_mul, i_neg, i_ofNat, i_rem, i_div, w_in, w_in2, w_cnt, w_cnt2, z01, z01', il, li, lc_ge, lc_le, lc_gt, lc_lt, lc_eq, l_ofNat, l0, l_eq, l_lt, l_le]) <;> omega)) rfl
    · rw [if_neg (fun q => hb q.2)] at ht
      exact ⟨_, S, S, h_neg (by first | omega | ((simp (disch := omega) only [i0, i1, i_lt, i_le, i_eq, i_add, i_sub, i_mul, i_neg, i_ofNat, i_rem, i_div, w_in, w_in2, w_cnt, w_cnt2, z01, z01', il, li, lc_ge, lc_le, lc_gt, lc_lt, lc_eq, l_ofNat, l0, l_eq, l_lt, l_le]) <;> omega)) (h_neg (by first | omega | ((simp (disch := omega) only [i0, i1, i_lt, i_le, i_eq, i_add, i_sub, i_mul, i_neg, i_ofNat, i_rem, i_div, w_in, w_in2, w_cnt, w_cnt2, z01, z01', il, li, lc_ge, lc_le, lc_gt, lc_lt, lc_eq, l_ofNat, l0, l_eq, l_lt, l_le]) <;> omega)) rfl), h_neg (by rw [ht]; exact fun q => q rfl) rfl, h⟩
  · rw [if_neg (fun q => ha q.1)] at ht
    exact ⟨_, S, S, h_pos (by first | omega | ((simp (disch := omega) only [i0, i1, i_lt, i_le, i_eq, i_add, i_sub, i_mul, i_neg, i_ofNat, i_rem, i_div, w_in, w_in2, w_cnt, w_cnt2, z01, z01', il, li, lc_ge, lc_le, lc_gt, lc_lt, lc_eq, l_ofNat, l0, l_eq, l_lt, l_le]) <;> omega)) rfl, h_neg (by rw [ht]; exact fun q => q rfl) rfl, h⟩
end PMS
