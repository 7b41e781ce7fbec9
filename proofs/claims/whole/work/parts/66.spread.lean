/-! ===== how many of some come ===== -/
theorem lc_ge' {a b : Int} (h1 : -9223372036854775808 ≤ a) (h2 : a < 9223372036854775808) (h3 : -9223372036854775808 ≤ b) (h4 : b < 9223372036854775808) : (Int32.ofInt 0 ≤ lg_cmp (Int64.ofInt a) (Int64.ofInt b)) = (b ≤ a) := lc_ge h1 h2 h3 h4
theorem lc_le' {a b : Int} (h1 : -9223372036854775808 ≤ a) (h2 : a < 9223372036854775808) (h3 : -9223372036854775808 ≤ b) (h4 : b < 9223372036854775808) : (lg_cmp (Int64.ofInt a) (Int64.ofInt b) ≤ Int32.ofInt 0) = (a ≤ b) := lc_le h1 h2 h3 h4
theorem lc_gt' {a b : Int} (h1 : -9223372036854775808 ≤ a) (h2 : a < 9223372036854775808) (h3 : -9223372036854775808 ≤ b) (h4 : b < 9223372036854775808) : (Int32.ofInt 0 < lg_cmp (Int64.ofInt a) (Int64.ofInt b)) = (b < a) := lc_gt h1 h2 h3 h4
theorem lc_lt' {a b : Int} (h1 : -9223372036854775808 ≤ a) (h2 : a < 9223372036854775808) (h3 : -9223372036854775808 ≤ b) (h4 : b < 9223372036854775808) : (lg_cmp (Int64.ofInt a) (Int64.ofInt b) < Int32.ofInt 0) = (a < b) := lc_lt h1 h2 h3 h4
theorem lc_eq' {a b : Int} (h1 : -9223372036854775808 ≤ a) (h2 : a < 9223372036854775808) (h3 : -9223372036854775808 ≤ b) (h4 : b < 9223372036854775808) : (lg_cmp (Int64.ofInt a) (Int64.ofInt b) = Int32.ofInt 0) = (a = b) := lc_eq h1 h2 h3 h4
def spS (w : Nat → Int) (q : Int) (k : Nat) : Int := w k * (10 - q) + (if k = 0 then 0 else w (k - 1) * q)
def sp0 (k : Nat) : Int := if k = 0 then 1 else 0
def rp (f : Nat → Int64) (w : Nat → Int) : Prop := ∀ k, k < 13 → f k = Int64.ofInt (w k)
def s13 (w : Nat → Int) : Int := w 0 + w 1 + w 2 + w 3 + w 4 + w 5 + w 6 + w 7 + w 8 + w 9 + w 10 + w 11 + w 12
def wI (w : Nat → Int) (n : Nat) : Prop := (∀ k, 0 ≤ w k) ∧ (∀ k, n < k → w k = 0) ∧ s13 w = 10 ^ n
theorem wI_0 : wI sp0 0 := by
  refine ⟨fun k => ?_, fun k hk => if_neg (by omega), by decide⟩
  unfold sp0; split <;> omega
theorem wI_le {w : Nat → Int} {n k : Nat} (h : wI w n) (hk : k < 13) : w k ≤ 10 ^ n := by
  obtain ⟨h0, -, hs⟩ := h
  unfold s13 at hs
  have := h0 0; have := h0 1; have := h0 2; have := h0 3; have := h0 4; have := h0 5; have := h0 6; have := h0 7; have := h0 8; have := h0 9; have := h0 10; have := h0 11; have := h0 12
  have hc : k = 0 ∨ k = 1 ∨ k = 2 ∨ k = 3 ∨ k = 4 ∨ k = 5 ∨ k = 6 ∨ k = 7 ∨ k = 8 ∨ k = 9 ∨ k = 10 ∨ k = 11 ∨ k = 12 := by omega
  rcases hc with rfl | rfl | rfl | rfl | rfl | rfl | rfl | rfl | rfl | rfl | rfl | rfl | rfl <;> omega
theorem wI_s {w : Nat → Int} {n : Nat} (h : wI w n) (hn : n ≤ 11) {q : Int} (hq : 0 ≤ q ∧ q ≤ 10) : wI (spS w q) (n + 1) := by
  obtain ⟨h0, hz, hs⟩ := h
  have h12 := hz 12 (by omega)
  refine ⟨fun k => ?_, fun k hk => ?_, ?_⟩
  · unfold spS
    have a := Int.mul_nonneg (h0 k) (show 0 ≤ 10 - q by omega)
    have b := Int.mul_nonneg (h0 (k - 1)) hq.1
    split <;> omega
  · unfold spS
    rw [if_neg (by omega), hz k (by omega), hz (k - 1) (by omega)]
    omega
  · have e : s13 (spS w q) = 10 * s13 w - w 12 * q := by
      unfold s13 spS
      simp only [Nat.reduceEqDiff, ↓reduceIte, Nat.reduceSub, if_true]
      have hc : q = 0 ∨ q = 1 ∨ q = 2 ∨ q = 3 ∨ q = 4 ∨ q = 5 ∨ q = 6 ∨ q = 7 ∨ q = 8 ∨ q = 9 ∨ q = 10 := by omega
      rcases hc with rfl | rfl | rfl | rfl | rfl | rfl | rfl | rfl | rfl | rfl | rfl <;> simp <;> omega
    rw [e, hs, h12, Int.zero_mul, Int.pow_succ]
    omega
theorem p12 {n : Nat} (h : n ≤ 12) : (10 : Int) ^ n ≤ 1000000000000 ∧ 1 ≤ (10 : Int) ^ n := by
  have : ∀ n, n ≤ 12 → (10 : Int) ^ n ≤ 1000000000000 ∧ 1 ≤ (10 : Int) ^ n := by decide
  exact this n h
/-- the class's spread -/
def sQ (S : yS) (f : Nat → Int64) (n : Nat) (x : Int) : yS := ySj (ySi (ySl S 262 f) 261 1 (Int32.ofInt (n : Int))) 261 2 (Int64.ofInt x)
theorem sQ_f (S : yS) (f : Nat → Int64) (n : Nat) (x : Int) : (sQ S f n x).2.2.2.1 262 = f := ySl_at S 262 f
theorem sQ_n (S : yS) (f : Nat → Int64) (n : Nat) (x : Int) : (sQ S f n x).1 261 1 = Int32.ofInt (n : Int) := by
  show (ySi (ySl S 262 f) 261 1 (Int32.ofInt (n : Int))).1 261 1 = _
  exact fld_at
theorem fldj_at {S : yS} {i k : Nat} {v : Int64} : (ySj S i k v).2.1 i k = v := by
  show yU S.2.1 i (yU (S.2.1 i) k v) i k = v
  rw [yU_eq, yU_eq]
theorem sQ_x (S : yS) (f : Nat → Int64) (n : Nat) (x : Int) : (sQ S f n x).2.1 261 2 = Int64.ofInt x := fldj_at
theorem ySj_ySj (S : yS) (i k : Nat) (u v : Int64) : ySj (ySj S i k u) i k v = ySj S i k v := by
  have : yU (yU S.2.1 i (yU (S.2.1 i) k u)) i (yU (yU S.2.1 i (yU (S.2.1 i) k u) i) k v) = yU S.2.1 i (yU (S.2.1 i) k v) := by
    rw [yU_eq]
    have e : yU (yU (S.2.1 i) k u) k v = yU (S.2.1 i) k v := by
      funext j
      unfold yU
      by_cases h : j = k
      · rw [if_pos h, if_pos h]
      · rw [if_neg h, if_neg h, if_neg h]
    rw [e]
    funext j
    unfold yU
    by_cases h : j = i
    · rw [if_pos h, if_pos h]
    · rw [if_neg h, if_neg h, if_neg h]
  show (S.1, yU (yU S.2.1 i (yU (S.2.1 i) k u)) i (yU (yU S.2.1 i (yU (S.2.1 i) k u) i) k v), S.2.2) = _
  rw [this]
  rfl
theorem sQ_l (S : yS) (f g : Nat → Int64) (n : Nat) (x : Int) : ySl (sQ S f n x) 262 g = sQ S g n x := by
  have e : ySl (sQ S f n x) 262 g = ySj (ySi (ySl (ySl S 262 f) 262 g) 261 1 (Int32.ofInt (n : Int))) 261 2 (Int64.ofInt x) := rfl
  rw [e, ySl_ySl]; rfl
theorem sQ_i (S : yS) (f : Nat → Int64) (n m : Nat) (x : Int) : ySi (sQ S f n x) 261 1 (Int32.ofInt (m : Int)) = sQ S f m x := by
  have e : ySi (sQ S f n x) 261 1 (Int32.ofInt (m : Int)) = ySj (ySi (ySi (ySl S 262 f) 261 1 (Int32.ofInt (n : Int))) 261 1 (Int32.ofInt (m : Int))) 261 2 (Int64.ofInt x) := rfl
  rw [e, ySi_ySi]; rfl
theorem sQ_j (S : yS) (f : Nat → Int64) (n : Nat) (x y : Int) : ySj (sQ S f n x) 261 2 (Int64.ofInt y) = sQ S f n y := ySj_ySj _ _ _ _ _
theorem sQ_Fq (S : yS) (f : Nat → Int64) (n : Nat) (x : Int) : Fq S (sQ S f n x) := Fq_trans (Fq_trans Fq_l (Fq_i (by omega))) Fq_j
theorem vpL_at {f : Nat → Int64} {j : Nat} {x : Int64} : vp_updL f j x j = x := if_pos rfl
theorem vpL_ne {f : Nat → Int64} {j k : Nat} {x : Int64} (h : k ≠ j) : vp_updL f j x k = f k := if_neg h
theorem spS_b {w : Nat → Int} {n k : Nat} (h : wI w n) (hn : n ≤ 11) (hk : k < 13) {q : Int} (hq : 0 ≤ q ∧ q ≤ 10) : 0 ≤ spS w q k ∧ spS w q k ≤ 1000000000000 := by
  have h2 := wI_s h hn hq
  have := wI_le h2 hk
  have := p12 (show n + 1 ≤ 12 by omega)
  exact ⟨h2.1 k, by omega⟩
theorem c_one {N : Nat} {S : yS} {w : Nat → Int} {n : Nat} (hw : wI w n) (hn : n ≤ 11) {q : Int} (hq : 0 ≤ q ∧ q ≤ 10) : ∀ (m fu : Nat) (f : Nat → Int64), m ≤ n + 1 → m < fu → (∀ k, k < 13 → f k = Int64.ofInt (if m < k then spS w q k else w k)) → ∃ f', rp f' (spS w q) ∧ lX7_addOne N fu (Int32.ofInt q) (Int32.ofInt (m : Int)) (sQ S f (n + 1) (10 ^ n)) = some (sQ S f' (n + 1) (10 ^ (n + 1)))
  | 0, fu + 1, f, hm, _, hf => by
    have hp := p12 (show n ≤ 12 by omega)
    refine ⟨vp_updL f 0 (Int64.ofInt (w 0) * Int64.ofInt (10 - q)), fun k hk => ?_, ?_⟩
    · by_cases h0 : k = 0
      · subst h0
        rw [vpL_at, l_mul]
        unfold spS
        rw [if_pos rfl, Int.add_zero]
      · rw [vpL_ne h0, hf k hk, if_pos (by omega)]
    · rw [lX7_addOne]
      refine h_pos (by first | omega | ((simp (disch := omega) only [i0, i1, i_lt, i_le, i_eq, i_add, i_sub, i_mul, i_neg, i_ofNat, i_rem, i_div, w_in, w_in2, w_cnt, w_cnt2, z01, z01', il, li, lc_ge, lc_le, lc_gt, lc_lt, lc_eq, l_ofNat, l0, l_eq, l_lt, l_le]) <;> omega)) (h_pst (h_pst ?_))
      rw [sQ_f, hf 0 (by omega), if_neg (by omega), i_sub, il (by omega) (by omega), sQ_l, sQ_x, l_mul, l_mul, sQ_j, Int.pow_succ]
  | m + 1, fu + 1, f, hm, hfu, hf => by
    have b1 := spS_b hw hn (show m + 1 < 13 by omega) hq
    obtain ⟨f', e1, e2⟩ := c_one hw hn hq m fu (vp_updL f (m + 1) (Int64.ofInt (spS w q (m + 1)))) (by omega) (by omega) (fun k hk => by
      by_cases h0 : k = m + 1
      · subst h0
        rw [vpL_at, if_pos (by omega)]
      · rw [vpL_ne h0, hf k hk]
        by_cases hlt : m < k
        · rw [if_pos hlt, if_pos (by omega)]
        · rw [if_neg hlt, if_neg (by omega)])
    refine ⟨f', e1, ?_⟩
    rw [lX7_addOne]
    refine h_neg (by first | omega | ((simp (disch := omega) only [i0, i1, i_lt, i_le, i_eq, i_add, i_sub, i_mul, i_neg, i_ofNat, i_rem, i_div, w_in, w_in2, w_cnt, w_cnt2, z01, z01', il, li, lc_ge, lc_le, lc_gt, lc_lt, lc_eq, l_ofNat, l0, l_eq, l_lt, l_le]) <;> omega)) (h_ainN (by omega) (by omega) ?_)
    rw [i_sub, show ((m + 1 : Nat) : Int) - 1 = (m : Int) by omega]
    refine h_ainN (by omega) (by omega) (h_ainN (by omega) (by omega) (h_pst ?_))
    rw [sQ_f, hf (m + 1) (by omega), hf m (by omega), if_neg (by omega), if_neg (by omega), i_sub, il (by omega) (by omega), il (by omega) (by omega), l_mul, l_mul, l_add, i_add, show ((m + 1 : Nat) : Int) + -1 = (m : Int) by omega, sQ_l]
    have e : w (m + 1) * (10 - q) + w m * q = spS w q (m + 1) := by
      unfold spS
      rw [if_neg (by omega)]
      rfl
    rw [e]
    exact e2
theorem c_oneF {N : Nat} (hN : 2000000 ≤ N) {S : yS} {w : Nat → Int} {n : Nat} (hw : wI w n) (hn : n ≤ 11) {q : Int} (hq : 0 ≤ q ∧ q ≤ 10) {f : Nat → Int64} (hf : rp f w) : ∃ f', rp f' (spS w q) ∧ fX7_addOne N (Int32.ofInt q) (sQ S f n (10 ^ n)) = some (sQ S f' (n + 1) (10 ^ (n + 1))) := by
  obtain ⟨f', e1, e2⟩ := c_one (N := N) (S := S) hw hn hq (n + 1) N f (by omega) (by omega) (fun k hk => by
    rw [hf k hk]
    by_cases hlt : n + 1 < k
    · rw [if_pos hlt]
      unfold spS
      rw [if_neg (by omega), hw.2.1 k (by omega), hw.2.1 (k - 1) (by omega)]
      congr 1; omega
    · rw [if_neg hlt])
  refine ⟨f', e1, ?_⟩
  unfold fX7_addOne
  rw [sQ_n, i_add, show (n : Int) + 1 = ((n + 1 : Nat) : Int) by omega]
  refine h_pos (by first | omega | ((simp (disch := omega) only [i0, i1, i_lt, i_le, i_eq, i_add, i_sub, i_mul, i_neg, i_ofNat, i_rem, i_div, w_in, w_in2, w_cnt, w_cnt2, z01, z01', il, li, lc_ge, lc_le, lc_gt, lc_lt, lc_eq, l_ofNat, l0, l_eq, l_lt, l_le]) <;> omega)) (h_pst ?_)
  rw [sQ_i, sQ_n]
  exact e2
theorem c_fillL {N : Nat} {S : yS} : ∀ (m n k : Nat) (f : Nat → Int64), k + m = 13 → m < n → (∀ j, j < k → f j = Int64.ofInt 0) → ∃ f', (∀ j, j < 13 → f' j = Int64.ofInt 0) ∧ lJ7_fill_d0a16_262 N n (Int64.ofNat 0) (Int32.ofInt (k : Int)) (Int32.ofNat 13) (ySl S 262 f) = some (ySl S 262 f')
  | 0, n + 1, k, f, hm, _, hf => by
    refine ⟨f, fun j hj => hf j (by omega), ?_⟩
    rw [lJ7_fill_d0a16_262]
    exact h_pos (by first | omega | ((simp (disch := omega) only [i0, i1, i_lt, i_le, i_eq, i_add, i_sub, i_mul, i_neg, i_ofNat, i_rem, i_div, w_in, w_in2, w_cnt, w_cnt2, z01, z01', il, li, lc_ge, lc_le, lc_gt, lc_lt, lc_eq, l_ofNat, l0, l_eq, l_lt, l_le]) <;> omega)) rfl
  | m + 1, n + 1, k, f, hm, hn, hf => by
    obtain ⟨f', e1, e2⟩ := c_fillL m n (k + 1) (vp_updL f k (Int64.ofNat 0)) (by omega) (by omega) (fun j hj => by
      by_cases h0 : j = k
      · subst h0; rw [vpL_at]; rfl
      · rw [vpL_ne h0]; exact hf j (by omega))
    refine ⟨f', e1, ?_⟩
    rw [lJ7_fill_d0a16_262]
    refine h_neg (by first | omega | ((simp (disch := omega) only [i0, i1, i_lt, i_le, i_eq, i_add, i_sub, i_mul, i_neg, i_ofNat, i_rem, i_div, w_in, w_in2, w_cnt, w_cnt2, z01, z01', il, li, lc_ge, lc_le, lc_gt, lc_lt, lc_eq, l_ofNat, l0, l_eq, l_lt, l_le]) <;> omega)) (h_ainN (by omega) (by omega) (h_pst ?_))
    rw [ySl_at, ySl_ySl, i_add, show (k : Int) + 1 = ((k + 1 : Nat) : Int) by omega]
    exact e2
theorem c_begin {N : Nat} (hN : 2000000 ≤ N) (S : yS) : ∃ f, rp f sp0 ∧ fX7_begin N S = some (sQ S f 0 (10 ^ 0)) := by
  obtain ⟨f', e1, e2⟩ := c_fillL (N := N) (S := S) 13 N 0 (S.2.2.2.1 262) (by omega) (by omega) (fun j hj => by omega)
  rw [ySl_self] at e2
  refine ⟨vp_updL f' 0 (Int64.ofNat 1), fun k hk => ?_, ?_⟩
  · by_cases h0 : k = 0
    · subst h0; rw [vpL_at]; rfl
    · rw [vpL_ne h0, e1 k hk]; unfold sp0; rw [if_neg h0]
  · unfold fX7_begin
    refine h_bind e2 (h_pst (h_pst (h_pst ?_)))
    rw [ySl_at, ySl_ySl]
    rfl
/-- the reference's rows -/
def oQ (S : yS) (f : Nat → Int64) : yS := ySl S 275 f
theorem r_one {N : Nat} {S : yS} {w : Nat → Int} {n : Nat} (hw : wI w n) (hn : n ≤ 11) {q : Int} (hq : 0 ≤ q ∧ q ≤ 10) : ∀ (m fu : Nat) (f : Nat → Int64), m ≤ 13 → m < fu → (∀ k, k < 13 → f k = Int64.ofInt (if m ≤ k then spS w q k else w k)) → ∃ f', rp f' (spS w q) ∧ lX12_oneMore N fu (Int32.ofInt q) (Int32.ofInt ((m : Int) - 1)) (oQ S f) = some (oQ S f')
  | 0, fu + 1, f, hm, _, hf => by
    refine ⟨f, fun k hk => ?_, ?_⟩
    · rw [hf k hk, if_pos (by omega)]
    · rw [lX12_oneMore]
      exact h_pos (by first | omega | ((simp (disch := omega) only [i0, i1, i_lt, i_le, i_eq, i_add, i_sub, i_mul, i_neg, i_ofNat, i_rem, i_div, w_in, w_in2, w_cnt, w_cnt2, z01, z01', il, li, lc_ge, lc_le, lc_gt, lc_lt, lc_eq, l_ofNat, l0, l_eq, l_lt, l_le]) <;> omega)) rfl
  | m + 1, fu + 1, f, hm, hfu, hf => by
    have b1 := spS_b hw hn (show m < 13 by omega) hq
    obtain ⟨f', e1, e2⟩ := r_one hw hn hq m fu (vp_updL f m (Int64.ofInt (spS w q m))) (by omega) (by omega) (fun k hk => by
      by_cases h0 : k = m
      · subst h0
        rw [vpL_at, if_pos (by omega)]
      · rw [vpL_ne h0, hf k hk]
        by_cases hlt : m ≤ k
        · rw [if_pos hlt, if_pos (by omega)]
        · rw [if_neg hlt, if_neg (by omega)])
    refine ⟨f', e1, ?_⟩
    rw [lX12_oneMore, show ((m + 1 : Nat) : Int) - 1 = (m : Int) by omega]
    refine h_neg (by first | omega | ((simp (disch := omega) only [i0, i1, i_lt, i_le, i_eq, i_add, i_sub, i_mul, i_neg, i_ofNat, i_rem, i_div, w_in, w_in2, w_cnt, w_cnt2, z01, z01', il, li, lc_ge, lc_le, lc_gt, lc_lt, lc_eq, l_ofNat, l0, l_eq, l_lt, l_le]) <;> omega)) (h_ainN (by omega) (by omega) ?_)
    rw [i_add, show (m : Int) + -1 = (m : Int) - 1 by omega, i_sub (10 : Int) q, il (show -2147483648 ≤ 10 - q by omega) (by omega), il (show -2147483648 ≤ q by omega) (by omega)]
    unfold oQ
    rw [ySl_at]
    by_cases h0 : m = 0
    · subst h0
      refine h_pos (by first | omega | ((simp (disch := omega) only [i0, i1, i_lt, i_le, i_eq, i_add, i_sub, i_mul, i_neg, i_ofNat, i_rem, i_div, w_in, w_in2, w_cnt, w_cnt2, z01, z01', il, li, lc_ge, lc_le, lc_gt, lc_lt, lc_eq, l_ofNat, l0, l_eq, l_lt, l_le]) <;> omega)) (h_ainN (by omega) (by omega) (h_pst ?_))
      rw [hf 0 (by omega), if_neg (by omega), l_mul, ySl_ySl, show Int64.ofNat 0 = Int64.ofInt 0 from rfl, l_add]
      have e : w 0 * (10 - q) + 0 = spS w q 0 := rfl
      rw [e]
      exact e2
    · refine h_neg (by first | omega | ((simp (disch := omega) only [i0, i1, i_lt, i_le, i_eq, i_add, i_sub, i_mul, i_neg, i_ofNat, i_rem, i_div, w_in, w_in2, w_cnt, w_cnt2, z01, z01', il, li, lc_ge, lc_le, lc_gt, lc_lt, lc_eq, l_ofNat, l0, l_eq, l_lt, l_le]) <;> omega)) ?_
      rw [i_sub, show (m : Int) - 1 = ((m - 1 : Nat) : Int) by omega]
      refine h_ainN (by omega) (by omega) (h_ainN (by omega) (by omega) (h_pst ?_))
      rw [hf m (by omega), hf (m - 1) (by omega), if_neg (by omega), if_neg (by omega), l_mul, l_mul, l_add, ySl_ySl]
      have e : w m * (10 - q) + w (m - 1) * q = spS w q m := by unfold spS; rw [if_neg h0]
      rw [e, show ((m - 1 : Nat) : Int) = (m : Int) - 1 by omega]
      exact e2
theorem r_oneF {N : Nat} (hN : 2000000 ≤ N) {S : yS} {w : Nat → Int} {n : Nat} (hw : wI w n) (hn : n ≤ 11) {q : Int} (hq : 0 ≤ q ∧ q ≤ 10) {f : Nat → Int64} (hf : rp f w) : ∃ f', rp f' (spS w q) ∧ fX12_oneMore N (Int32.ofInt q) (oQ S f) = some (oQ S f') := r_one hw hn hq 13 N f (by omega) (by omega) (fun k hk => by rw [hf k hk, if_neg (by omega)])
theorem r_noL {N : Nat} {S : yS} : ∀ (m n k : Nat) (f : Nat → Int64), k + m = 13 → m < n → (∀ j, j < k → f j = Int64.ofInt (sp0 j)) → ∃ f', rp f' sp0 ∧ lX12_noRows N n (Int32.ofInt (k : Int)) (oQ S f) = some (oQ S f')
  | 0, n + 1, k, f, hm, _, hf => by
    refine ⟨f, fun j hj => hf j (by omega), ?_⟩
    rw [lX12_noRows]
    exact h_pos (by first | omega | ((simp (disch := omega) only [i0, i1, i_lt, i_le, i_eq, i_add, i_sub, i_mul, i_neg, i_ofNat, i_rem, i_div, w_in, w_in2, w_cnt, w_cnt2, z01, z01', il, li, lc_ge, lc_le, lc_gt, lc_lt, lc_eq, l_ofNat, l0, l_eq, l_lt, l_le]) <;> omega)) rfl
  | m + 1, n + 1, k, f, hm, hn, hf => by
    obtain ⟨f', e1, e2⟩ := r_noL m n (k + 1) (vp_updL f k (Int64.ofInt (sp0 k))) (by omega) (by omega) (fun j hj => by
      by_cases h0 : j = k
      · subst h0; rw [vpL_at]
      · rw [vpL_ne h0]; exact hf j (by omega))
    refine ⟨f', e1, ?_⟩
    rw [lX12_noRows]
    unfold oQ at e2 ⊢
    rw [i_add, show (k : Int) + 1 = ((k + 1 : Nat) : Int) by omega, ySl_at]
    refine h_neg (by first | omega | ((simp (disch := omega) only [i0, i1, i_lt, i_le, i_eq, i_add, i_sub, i_mul, i_neg, i_ofNat, i_rem, i_div, w_in, w_in2, w_cnt, w_cnt2, z01, z01', il, li, lc_ge, lc_le, lc_gt, lc_lt, lc_eq, l_ofNat, l0, l_eq, l_lt, l_le]) <;> omega)) ?_
    by_cases h0 : k = 0
    · subst h0
      refine h_neg (by decide) (h_ainN (by omega) (by omega) (h_pst ?_))
      rw [ySl_ySl]
      exact e2
    · refine h_pos (by first | omega | ((simp (disch := omega) only [i0, i1, i_lt, i_le, i_eq, i_add, i_sub, i_mul, i_neg, i_ofNat, i_rem, i_div, w_in, w_in2, w_cnt, w_cnt2, z01, z01', il, li, lc_ge, lc_le, lc_gt, lc_lt, lc_eq, l_ofNat, l0, l_eq, l_lt, l_le]) <;> omega)) (h_ainN (by omega) (by omega) (h_pst ?_))
      rw [ySl_ySl]
      have e : sp0 k = 0 := if_neg h0
      rw [e] at e2
      exact e2
theorem r_begin {N : Nat} (hN : 2000000 ≤ N) (S : yS) : ∃ f, rp f sp0 ∧ fX12_noRows N S = some (oQ S f) := by
  obtain ⟨f', e1, e2⟩ := r_noL (N := N) (S := S) 13 N 0 (S.2.2.2.1 275) (by omega) (by omega) (fun j hj => by omega)
  unfold oQ at e2
  rw [ySl_self] at e2
  exact ⟨f', e1, e2⟩
/-! the greatest common divisor -/
theorem mod_half {q r : Nat} (h0 : 0 < r) (h : r < q) : 2 * (q % r) < q := by
  have h1 := Nat.mod_lt q h0
  by_cases hc : 2 * r ≤ q
  · omega
  · have e : q % r = q - r := by
      rw [Nat.mod_eq_sub_mod (by omega)]
      exact Nat.mod_eq_of_lt (by omega)
    omega
theorem r_div {N : Nat} {S : yS} : ∀ (j n p q : Nat), p < 9000000000000000000 → q < 9000000000000000000 → q < 2 ^ j → 2 * j + 1 ≤ n → lX12_divisor N n (Int64.ofInt (p : Int)) (Int64.ofInt (q : Int)) S = some (Int64.ofInt (Nat.gcd p q : Nat))
  | 0, n, p, q, hp, hq, hj, hn => by
    obtain ⟨n, rfl⟩ : ∃ k, n = k + 1 := ⟨n - 1, by omega⟩
    have : q = 0 := by simp at hj; exact hj
    subst this
    rw [lX12_divisor, Nat.gcd_zero_right]
    exact h_pos (by first | omega | ((simp (disch := omega) only [i0, i1, i_lt, i_le, i_eq, i_add, i_sub, i_mul, i_neg, i_ofNat, i_rem, i_div, w_in, w_in2, w_cnt, w_cnt2, z01, z01', il, li, lc_ge', lc_le', lc_gt', lc_lt', lc_eq', l_ofNat, l0, l_eq, l_lt, l_le, l_add, l_mul]) <;> omega)) rfl
  | j + 1, n, p, q, hp, hq, hj, hn => by
    obtain ⟨n, rfl⟩ : ∃ k, n = k + 1 + 1 := ⟨n - 2, by omega⟩
    rw [lX12_divisor]
    by_cases h0 : q = 0
    · subst h0
      rw [Nat.gcd_zero_right]
      exact h_pos (by first | omega | ((simp (disch := omega) only [i0, i1, i_lt, i_le, i_eq, i_add, i_sub, i_mul, i_neg, i_ofNat, i_rem, i_div, w_in, w_in2, w_cnt, w_cnt2, z01, z01', il, li, lc_ge', lc_le', lc_gt', lc_lt', lc_eq', l_ofNat, l0, l_eq, l_lt, l_le, l_add, l_mul]) <;> omega)) rfl
    · refine h_neg (by first | omega | ((simp (disch := omega) only [i0, i1, i_lt, i_le, i_eq, i_add, i_sub, i_mul, i_neg, i_ofNat, i_rem, i_div, w_in, w_in2, w_cnt, w_cnt2, z01, z01', il, li, lc_ge', lc_le', lc_gt', lc_lt', lc_eq', l_ofNat, l0, l_eq, l_lt, l_le, l_add, l_mul]) <;> omega)) (h_neg (by first | omega | ((simp (disch := omega) only [i0, i1, i_lt, i_le, i_eq, i_add, i_sub, i_mul, i_neg, i_ofNat, i_rem, i_div, w_in, w_in2, w_cnt, w_cnt2, z01, z01', il, li, lc_ge', lc_le', lc_gt', lc_lt', lc_eq', l_ofNat, l0, l_eq, l_lt, l_le, l_add, l_mul]) <;> omega)) ?_)
      rw [l_rem (by omega) (by omega) (by omega) (by omega), show ((p : Int) % (q : Int)) = ((p % q : Nat) : Int) by omega]
      have hm := Nat.mod_lt p (show 0 < q by omega)
      have g1 : Nat.gcd p q = Nat.gcd q (p % q) := by rw [Nat.gcd_comm p q, Nat.gcd_rec q p, Nat.gcd_comm]
      rw [lX12_divisor, g1]
      generalize p % q = r at hm
      by_cases h1 : r = 0
      · subst h1
        rw [Nat.gcd_zero_right]
        exact h_pos (by first | omega | ((simp (disch := omega) only [i0, i1, i_lt, i_le, i_eq, i_add, i_sub, i_mul, i_neg, i_ofNat, i_rem, i_div, w_in, w_in2, w_cnt, w_cnt2, z01, z01', il, li, lc_ge', lc_le', lc_gt', lc_lt', lc_eq', l_ofNat, l0, l_eq, l_lt, l_le, l_add, l_mul]) <;> omega)) rfl
      · refine h_neg (by first | omega | ((simp (disch := omega) only [i0, i1, i_lt, i_le, i_eq, i_add, i_sub, i_mul, i_neg, i_ofNat, i_rem, i_div, w_in, w_in2, w_cnt, w_cnt2, z01, z01', il, li, lc_ge', lc_le', lc_gt', lc_lt', lc_eq', l_ofNat, l0, l_eq, l_lt, l_le, l_add, l_mul]) <;> omega)) (h_neg (by first | omega | ((simp (disch := omega) only [i0, i1, i_lt, i_le, i_eq, i_add, i_sub, i_mul, i_neg, i_ofNat, i_rem, i_div, w_in, w_in2, w_cnt, w_cnt2, z01, z01', il, li, lc_ge', lc_le', lc_gt', lc_lt', lc_eq', l_ofNat, l0, l_eq, l_lt, l_le, l_add, l_mul]) <;> omega)) ?_)
        have hh := mod_half (show 0 < r by omega) hm
        rw [l_rem (by omega) (by omega) (by omega) (by omega), show ((q : Int) % (r : Int)) = ((q % r : Nat) : Int) by omega]
        have g2 : Nat.gcd q r = Nat.gcd r (q % r) := by rw [Nat.gcd_comm q r, Nat.gcd_rec r q, Nat.gcd_comm]
        rw [g2]
        have e2 : 2 ^ (j + 1) = 2 * 2 ^ j := by rw [Nat.pow_succ]; omega
        exact r_div j n r (q % r) (by omega) (by omega) (by omega) (by omega)
theorem c_gcd {N : Nat} {S : yS} : ∀ (j n p q t : Nat), p < 9000000000000000000 → q < 9000000000000000000 → q < 2 ^ j → 2 * j + 1 ≤ n → t + 2 * j ≤ 90 → lX11_greatestCommon N n (Int64.ofInt (p : Int)) (Int64.ofInt (q : Int)) (Int32.ofInt (t : Int)) S = some (Int64.ofInt (Nat.gcd p q : Nat))
  | 0, n, p, q, t, hp, hq, hj, hn, ht => by
    obtain ⟨n, rfl⟩ : ∃ k, n = k + 1 := ⟨n - 1, by omega⟩
    have : q = 0 := by simp at hj; exact hj
    subst this
    rw [lX11_greatestCommon, Nat.gcd_zero_right]
    exact h_neg (by first | omega | ((simp (disch := omega) only [i0, i1, i_lt, i_le, i_eq, i_add, i_sub, i_mul, i_neg, i_ofNat, i_rem, i_div, w_in, w_in2, w_cnt, w_cnt2, z01, z01', il, li, lc_ge', lc_le', lc_gt', lc_lt', lc_eq', l_ofNat, l0, l_eq, l_lt, l_le, l_add, l_mul]) <;> omega)) (h_pos (by first | omega | ((simp (disch := omega) only [i0, i1, i_lt, i_le, i_eq, i_add, i_sub, i_mul, i_neg, i_ofNat, i_rem, i_div, w_in, w_in2, w_cnt, w_cnt2, z01, z01', il, li, lc_ge', lc_le', lc_gt', lc_lt', lc_eq', l_ofNat, l0, l_eq, l_lt, l_le, l_add, l_mul]) <;> omega)) rfl)
  | j + 1, n, p, q, t, hp, hq, hj, hn, ht => by
    obtain ⟨n, rfl⟩ : ∃ k, n = k + 1 + 1 := ⟨n - 2, by omega⟩
    rw [lX11_greatestCommon]
    refine h_neg (by first | omega | ((simp (disch := omega) only [i0, i1, i_lt, i_le, i_eq, i_add, i_sub, i_mul, i_neg, i_ofNat, i_rem, i_div, w_in, w_in2, w_cnt, w_cnt2, z01, z01', il, li, lc_ge', lc_le', lc_gt', lc_lt', lc_eq', l_ofNat, l0, l_eq, l_lt, l_le, l_add, l_mul]) <;> omega)) ?_
    by_cases h0 : q = 0
    · subst h0
      rw [Nat.gcd_zero_right]
      exact h_pos (by first | omega | ((simp (disch := omega) only [i0, i1, i_lt, i_le, i_eq, i_add, i_sub, i_mul, i_neg, i_ofNat, i_rem, i_div, w_in, w_in2, w_cnt, w_cnt2, z01, z01', il, li, lc_ge', lc_le', lc_gt', lc_lt', lc_eq', l_ofNat, l0, l_eq, l_lt, l_le, l_add, l_mul]) <;> omega)) rfl
    · refine h_neg (by first | omega | ((simp (disch := omega) only [i0, i1, i_lt, i_le, i_eq, i_add, i_sub, i_mul, i_neg, i_ofNat, i_rem, i_div, w_in, w_in2, w_cnt, w_cnt2, z01, z01', il, li, lc_ge', lc_le', lc_gt', lc_lt', lc_eq', l_ofNat, l0, l_eq, l_lt, l_le, l_add, l_mul]) <;> omega)) (h_neg (by first | omega | ((simp (disch := omega) only [i0, i1, i_lt, i_le, i_eq, i_add, i_sub, i_mul, i_neg, i_ofNat, i_rem, i_div, w_in, w_in2, w_cnt, w_cnt2, z01, z01', il, li, lc_ge', lc_le', lc_gt', lc_lt', lc_eq', l_ofNat, l0, l_eq, l_lt, l_le, l_add, l_mul]) <;> omega)) ?_)
      rw [l_rem (by omega) (by omega) (by omega) (by omega), show ((p : Int) % (q : Int)) = ((p % q : Nat) : Int) by omega, i_add]
      have hm := Nat.mod_lt p (show 0 < q by omega)
      have g1 : Nat.gcd p q = Nat.gcd q (p % q) := by rw [Nat.gcd_comm p q, Nat.gcd_rec q p, Nat.gcd_comm]
      rw [lX11_greatestCommon, g1]
      generalize p % q = r at hm
      refine h_neg (by first | omega | ((simp (disch := omega) only [i0, i1, i_lt, i_le, i_eq, i_add, i_sub, i_mul, i_neg, i_ofNat, i_rem, i_div, w_in, w_in2, w_cnt, w_cnt2, z01, z01', il, li, lc_ge', lc_le', lc_gt', lc_lt', lc_eq', l_ofNat, l0, l_eq, l_lt, l_le, l_add, l_mul]) <;> omega)) ?_
      by_cases h1 : r = 0
      · subst h1
        rw [Nat.gcd_zero_right]
        exact h_pos (by first | omega | ((simp (disch := omega) only [i0, i1, i_lt, i_le, i_eq, i_add, i_sub, i_mul, i_neg, i_ofNat, i_rem, i_div, w_in, w_in2, w_cnt, w_cnt2, z01, z01', il, li, lc_ge', lc_le', lc_gt', lc_lt', lc_eq', l_ofNat, l0, l_eq, l_lt, l_le, l_add, l_mul]) <;> omega)) rfl
      · refine h_neg (by first | omega | ((simp (disch := omega) only [i0, i1, i_lt, i_le, i_eq, i_add, i_sub, i_mul, i_neg, i_ofNat, i_rem, i_div, w_in, w_in2, w_cnt, w_cnt2, z01, z01', il, li, lc_ge', lc_le', lc_gt', lc_lt', lc_eq', l_ofNat, l0, l_eq, l_lt, l_le, l_add, l_mul]) <;> omega)) (h_neg (by first | omega | ((simp (disch := omega) only [i0, i1, i_lt, i_le, i_eq, i_add, i_sub, i_mul, i_neg, i_ofNat, i_rem, i_div, w_in, w_in2, w_cnt, w_cnt2, z01, z01', il, li, lc_ge', lc_le', lc_gt', lc_lt', lc_eq', l_ofNat, l0, l_eq, l_lt, l_le, l_add, l_mul]) <;> omega)) ?_)
        have hh := mod_half (show 0 < r by omega) hm
        rw [l_rem (by omega) (by omega) (by omega) (by omega), show ((q : Int) % (r : Int)) = ((q % r : Nat) : Int) by omega, i_add, show (t : Int) + 1 + 1 = ((t + 2 : Nat) : Int) by omega]
        have g2 : Nat.gcd q r = Nat.gcd r (q % r) := by rw [Nat.gcd_comm q r, Nat.gcd_rec r q, Nat.gcd_comm]
        rw [g2]
        have e2 : 2 ^ (j + 1) = 2 * 2 ^ j := by rw [Nat.pow_succ]; omega
        exact c_gcd j n r (q % r) (t + 2) (by omega) (by omega) (by omega) (by omega) (by omega)
def lwS (u l : Int) (z : Int) : Int := if z = 0 then u / (Nat.gcd u.toNat l.toNat : Nat) else l / (Nat.gcd u.toNat l.toNat : Nat)
theorem c_low {N : Nat} (hN : 2000000 ≤ N) {S : yS} {u l z : Int} (hu : 0 ≤ u ∧ u ≤ 1000000000000) (hl : 1 ≤ l ∧ l ≤ 1000000000000) (hz : z = 0 ∨ z = 1) : fX11_lowest N (Int64.ofInt u) (Int64.ofInt l) (Int32.ofInt z) S = some (Int64.ofInt (lwS u l z)) := by
  obtain ⟨p, rfl⟩ := Int.eq_ofNat_of_zero_le hu.1
  obtain ⟨q, rfl⟩ := Int.eq_ofNat_of_zero_le (show 0 ≤ l by omega)
  have hg : 0 < Nat.gcd p q := Nat.gcd_pos_of_pos_right _ (by omega)
  have hg2 : Nat.gcd p q ≤ q := Nat.gcd_le_right _ (by omega)
  unfold fX11_lowest fX11_greatestCommon lwS
  have e := c_gcd (N := N) (S := S) 40 N p q 0 (by omega) (by omega) (by omega) (by omega) (by omega)
  refine h_bind e ?_
  simp only [Int.toNat_natCast]
  generalize Nat.gcd p q = g at hg hg2
  refine h_pos (by first | omega | ((simp (disch := omega) only [i0, i1, i_lt, i_le, i_eq, i_add, i_sub, i_mul, i_neg, i_ofNat, i_rem, i_div, w_in, w_in2, w_cnt, w_cnt2, z01, z01', il, li, lc_ge', lc_le', lc_gt', lc_lt', lc_eq', l_ofNat, l0, l_eq, l_lt, l_le, l_add, l_mul]) <;> omega)) ?_
  rcases hz with rfl | rfl
  · refine h_pos rfl (h_neg (by first | omega | ((simp (disch := omega) only [i0, i1, i_lt, i_le, i_eq, i_add, i_sub, i_mul, i_neg, i_ofNat, i_rem, i_div, w_in, w_in2, w_cnt, w_cnt2, z01, z01', il, li, lc_ge', lc_le', lc_gt', lc_lt', lc_eq', l_ofNat, l0, l_eq, l_lt, l_le, l_add, l_mul]) <;> omega)) ?_)
    rw [l_div (by omega) (by omega) (by omega) (by omega)]
    rfl
  · refine h_neg (by decide) (h_neg (by first | omega | ((simp (disch := omega) only [i0, i1, i_lt, i_le, i_eq, i_add, i_sub, i_mul, i_neg, i_ofNat, i_rem, i_div, w_in, w_in2, w_cnt, w_cnt2, z01, z01', il, li, lc_ge', lc_le', lc_gt', lc_lt', lc_eq', l_ofNat, l0, l_eq, l_lt, l_le, l_add, l_mul]) <;> omega)) ?_)
    rw [l_div (by omega) (by omega) (by omega) (by omega)]
    rfl
theorem r_low {N : Nat} (hN : 2000000 ≤ N) {S : yS} {u l z : Int} (hu : 0 ≤ u ∧ u ≤ 1000000000000) (hl : 1 ≤ l ∧ l ≤ 1000000000000) (hz : z = 0 ∨ z = 1) : fX12_part N (Int64.ofInt u) (Int64.ofInt l) (Int32.ofInt z) S = some (Int64.ofInt (lwS u l z)) := by
  obtain ⟨p, rfl⟩ := Int.eq_ofNat_of_zero_le hu.1
  obtain ⟨q, rfl⟩ := Int.eq_ofNat_of_zero_le (show 0 ≤ l by omega)
  have hg : 0 < Nat.gcd p q := Nat.gcd_pos_of_pos_right _ (by omega)
  have hg2 : Nat.gcd p q ≤ q := Nat.gcd_le_right _ (by omega)
  unfold fX12_part fX12_divisor lwS
  have e := r_div (N := N) (S := S) 40 N p q (by omega) (by omega) (by omega) (by omega)
  simp only [Int.toNat_natCast]
  rcases hz with rfl | rfl
  · refine h_pos rfl (h_bind e ?_)
    generalize Nat.gcd p q = g at hg hg2
    refine h_neg (by first | omega | ((simp (disch := omega) only [i0, i1, i_lt, i_le, i_eq, i_add, i_sub, i_mul, i_neg, i_ofNat, i_rem, i_div, w_in, w_in2, w_cnt, w_cnt2, z01, z01', il, li, lc_ge', lc_le', lc_gt', lc_lt', lc_eq', l_ofNat, l0, l_eq, l_lt, l_le, l_add, l_mul]) <;> omega)) ?_
    rw [l_div (by omega) (by omega) (by omega) (by omega)]
    rfl
  · refine h_neg (by decide) (h_bind e ?_)
    generalize Nat.gcd p q = g at hg hg2
    refine h_neg (by first | omega | ((simp (disch := omega) only [i0, i1, i_lt, i_le, i_eq, i_add, i_sub, i_mul, i_neg, i_ofNat, i_rem, i_div, w_in, w_in2, w_cnt, w_cnt2, z01, z01', il, li, lc_ge', lc_le', lc_gt', lc_lt', lc_eq', l_ofNat, l0, l_eq, l_lt, l_le, l_add, l_mul]) <;> omega)) ?_
    rw [l_div (by omega) (by omega) (by omega) (by omega)]
    rfl
