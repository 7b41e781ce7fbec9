/-! ===== tests ===== -/
def spI (q : Int) : Nat → Nat → Int
  | 0 => sp0
  | n + 1 => spS (spI q n) q
theorem spI_I {q : Int} (hq : 0 ≤ q ∧ q ≤ 10) : ∀ n, n ≤ 12 → wI (spI q n) n
  | 0, _ => wI_0
  | n + 1, h => wI_s (spI_I hq n (by omega)) (by omega) hq
theorem c_trL {N : Nat} (hN : 2000000 ≤ N) {S : yS} {q : Int} (hq : 0 ≤ q ∧ q ≤ 10) : ∀ (m n i : Nat) (f : Nat → Int64), i + m ≤ 12 → m < n → rp f (spI q i) → ∃ f', rp f' (spI q (i + m)) ∧ lX7_ofTrials N n (Int32.ofInt ((i + m : Nat) : Int)) (Int32.ofInt q) (Int32.ofInt (i : Int)) (sQ S f i (10 ^ i)) = some (sQ S f' (i + m) (10 ^ (i + m)))
  | 0, n + 1, i, f, hm, _, hf => by
    refine ⟨f, hf, ?_⟩
    rw [lX7_ofTrials]
    exact h_pos (by first | omega | ((simp (disch := omega) only [i0, i1, i_lt, i_le, i_eq, i_add, i_sub, i_mul, i_neg, i_ofNat, i_rem, i_div, w_in, w_in2, w_cnt, w_cnt2, z01, z01', il, li, lc_ge, lc_le, lc_gt, lc_lt, lc_eq, l_ofNat, l0, l_eq, l_lt, l_le]) <;> omega)) rfl
  | m + 1, n + 1, i, f, hm, hn, hf => by
    obtain ⟨f1, e1, e2⟩ := c_oneF hN (S := S) (spI_I hq i (by omega)) (by omega) hq hf
    obtain ⟨f2, e3, e4⟩ := c_trL hN (S := S) hq m n (i + 1) f1 (by omega) (by omega) e1
    rw [show i + 1 + m = i + (m + 1) by omega] at e3 e4
    refine ⟨f2, e3, ?_⟩
    rw [lX7_ofTrials]
    refine h_neg (by first | omega | ((simp (disch := omega) only [i0, i1, i_lt, i_le, i_eq, i_add, i_sub, i_mul, i_neg, i_ofNat, i_rem, i_div, w_in, w_in2, w_cnt, w_cnt2, z01, z01', il, li, lc_ge, lc_le, lc_gt, lc_lt, lc_eq, l_ofNat, l0, l_eq, l_lt, l_le]) <;> omega)) (h_bind e2 ?_)
    rw [i_add, show (i : Int) + 1 = ((i + 1 : Nat) : Int) by omega]
    exact e4
theorem c_tr {N : Nat} (hN : 2000000 ≤ N) (S : yS) {q : Int} (hq : 0 ≤ q ∧ q ≤ 10) {m : Nat} (hm : m ≤ 12) : ∃ f, rp f (spI q m) ∧ fX7_ofTrials N (Int32.ofInt (m : Int)) (Int32.ofInt q) S = some (sQ S f m (10 ^ m)) := by
  obtain ⟨f, e1, e2⟩ := c_begin hN S
  obtain ⟨f2, e3, e4⟩ := c_trL hN (S := S) hq m N 0 f (by omega) (by omega) e1
  rw [Nat.zero_add] at e3 e4
  exact ⟨f2, e3, h_bind e2 e4⟩
theorem r_trL {N : Nat} (hN : 2000000 ≤ N) {S : yS} {q : Int} (hq : 0 ≤ q ∧ q ≤ 10) : ∀ (m n i : Nat) (f : Nat → Int64), i + m ≤ 12 → m < n → rp f (spI q i) → ∃ f', rp f' (spI q (i + m)) ∧ lX12_layTest N n (Int32.ofInt ((i + m : Nat) : Int)) (Int32.ofInt q) (Int64.ofInt (10 ^ i)) (Int32.ofInt (i : Int)) (oQ S f) = some (Int64.ofInt (10 ^ (i + m)), oQ S f')
  | 0, n + 1, i, f, hm, _, hf => by
    refine ⟨f, hf, ?_⟩
    rw [lX12_layTest]
    exact h_pos (by first | omega | ((simp (disch := omega) only [i0, i1, i_lt, i_le, i_eq, i_add, i_sub, i_mul, i_neg, i_ofNat, i_rem, i_div, w_in, w_in2, w_cnt, w_cnt2, z01, z01', il, li, lc_ge, lc_le, lc_gt, lc_lt, lc_eq, l_ofNat, l0, l_eq, l_lt, l_le]) <;> omega)) rfl
  | m + 1, n + 1, i, f, hm, hn, hf => by
    obtain ⟨f1, e1, e2⟩ := r_oneF hN (S := S) (spI_I hq i (by omega)) (by omega) hq hf
    obtain ⟨f2, e3, e4⟩ := r_trL hN (S := S) hq m n (i + 1) f1 (by omega) (by omega) e1
    rw [show i + 1 + m = i + (m + 1) by omega] at e3 e4
    refine ⟨f2, e3, ?_⟩
    rw [lX12_layTest]
    refine h_neg (by first | omega | ((simp (disch := omega) only [i0, i1, i_lt, i_le, i_eq, i_add, i_sub, i_mul, i_neg, i_ofNat, i_rem, i_div, w_in, w_in2, w_cnt, w_cnt2, z01, z01', il, li, lc_ge, lc_le, lc_gt, lc_lt, lc_eq, l_ofNat, l0, l_eq, l_lt, l_le]) <;> omega)) (h_bind e2 ?_)
    rw [i_add, l_mul, ← Int.pow_succ, show (i : Int) + 1 = ((i + 1 : Nat) : Int) by omega]
    exact e4
theorem r_tr {N : Nat} (hN : 2000000 ≤ N) (S : yS) {q : Int} (hq : 0 ≤ q ∧ q ≤ 10) {m : Nat} (hm : m ≤ 12) : ∃ f, rp f (spI q m) ∧ fX12_layTest N (Int32.ofInt (m : Int)) (Int32.ofInt q) S = some (Int64.ofInt (10 ^ m), oQ S f) := by
  obtain ⟨f, e1, e2⟩ := r_begin hN S
  obtain ⟨f2, e3, e4⟩ := r_trL hN (S := S) hq m N 0 f (by omega) (by omega) e1
  rw [Nat.zero_add] at e3 e4
  exact ⟨f2, e3, h_bind e2 e4⟩
def smK (w : Nat → Int) : Nat → Nat → Int
  | _, 0 => 0
  | k, m + 1 => w k + smK w (k + 1) m
theorem smK_split (w : Nat → Int) : ∀ a b i, smK w i (a + b) = smK w i a + smK w (i + a) b
  | 0, b, i => by rw [Nat.zero_add, Nat.add_zero]; show _ = 0 + _; omega
  | a + 1, b, i => by
    rw [show a + 1 + b = (a + b) + 1 by omega]
    show w i + smK w (i + 1) (a + b) = w i + smK w (i + 1) a + _
    rw [smK_split w a b (i + 1), show i + 1 + a = i + (a + 1) by omega]
    omega
theorem smK_nn {w : Nat → Int} (h : ∀ k, 0 ≤ w k) : ∀ m i, 0 ≤ smK w i m
  | 0, _ => Int.le_refl _
  | m + 1, i => by
    have := smK_nn h m (i + 1)
    have := h i
    show 0 ≤ w i + smK w (i + 1) m
    omega
theorem smK_13 (w : Nat → Int) : smK w 0 13 = s13 w := by
  unfold s13
  simp only [smK, Nat.zero_add, Nat.reduceAdd]
  omega
theorem smK_le {w : Nat → Int} {n : Nat} (h : wI w n) (hn : n ≤ 12) {k : Nat} (hk : k ≤ 13) : 0 ≤ smK w k (13 - k) ∧ smK w k (13 - k) ≤ 10 ^ n := by
  have e := smK_split w k (13 - k) 0
  rw [show k + (13 - k) = 13 by omega, smK_13, h.2.2, Nat.zero_add] at e
  have := smK_nn h.1 k 0
  exact ⟨smK_nn h.1 _ _, by omega⟩
theorem c_orL {N : Nat} {S : yS} {w : Nat → Int} {f : Nat → Int64} (hf : rp f w) {n : Nat} {x0 : Int} : ∀ (m fu k : Nat) (x : Int), k + m = 13 → m < fu → lX7_orMore N fu (Int64.ofInt x) (Int32.ofInt (k : Int)) (sQ S f n x0) = some (Int64.ofInt (x + smK w k m))
  | 0, fu + 1, k, x, hm, _ => by
    rw [lX7_orMore]
    refine h_pos (by first | omega | ((simp (disch := omega) only [i0, i1, i_lt, i_le, i_eq, i_add, i_sub, i_mul, i_neg, i_ofNat, i_rem, i_div, w_in, w_in2, w_cnt, w_cnt2, z01, z01', il, li, lc_ge, lc_le, lc_gt, lc_lt, lc_eq, l_ofNat, l0, l_eq, l_lt, l_le]) <;> omega)) ?_
    rw [show smK w k 0 = 0 from rfl, Int.add_zero]
  | m + 1, fu + 1, k, x, hm, hfu => by
    rw [lX7_orMore]
    refine h_neg (by first | omega | ((simp (disch := omega) only [i0, i1, i_lt, i_le, i_eq, i_add, i_sub, i_mul, i_neg, i_ofNat, i_rem, i_div, w_in, w_in2, w_cnt, w_cnt2, z01, z01', il, li, lc_ge, lc_le, lc_gt, lc_lt, lc_eq, l_ofNat, l0, l_eq, l_lt, l_le]) <;> omega)) (h_ainN (by omega) (by omega) ?_)
    rw [sQ_f, hf k (by omega), l_add, i_add, show (k : Int) + 1 = ((k + 1 : Nat) : Int) by omega, c_orL hf m fu (k + 1) (x + w k) (by omega) (by omega), Int.add_assoc]
    rfl
theorem c_or {N : Nat} (hN : 2000000 ≤ N) {S : yS} {w : Nat → Int} {f : Nat → Int64} (hf : rp f w) {n : Nat} {x0 : Int} {k : Nat} (hk : k ≤ 13) : fX7_orMore N (Int32.ofInt (k : Int)) (sQ S f n x0) = some (Int64.ofInt (smK w k (13 - k))) := by
  unfold fX7_orMore
  refine h_pst ?_
  have e : (if Int32.ofInt 0 < Int32.ofInt (k : Int) then Int32.ofInt (k : Int) else Int32.ofInt 0) = Int32.ofInt (k : Int) := by
    simp (disch := omega) only [i_lt]
    split
    · rfl
    · congr 1; omega
  rw [e]
  have := c_orL (N := N) (S := S) (n := n) (x0 := x0) hf (13 - k) N k 0 (by omega) (by omega)
  rw [Int.zero_add] at this
  exact this
theorem r_orL {N : Nat} {S : yS} {w : Nat → Int} {f : Nat → Int64} (hf : rp f w) : ∀ (m fu k : Nat) (x : Int), k + m = 13 → m < fu → lX12_rowsFrom N fu (Int64.ofInt x) (Int32.ofInt (k : Int)) (oQ S f) = some (Int64.ofInt (x + smK w k m))
  | 0, fu + 1, k, x, hm, _ => by
    rw [lX12_rowsFrom]
    refine h_pos (by first | omega | ((simp (disch := omega) only [i0, i1, i_lt, i_le, i_eq, i_add, i_sub, i_mul, i_neg, i_ofNat, i_rem, i_div, w_in, w_in2, w_cnt, w_cnt2, z01, z01', il, li, lc_ge, lc_le, lc_gt, lc_lt, lc_eq, l_ofNat, l0, l_eq, l_lt, l_le]) <;> omega)) ?_
    rw [show smK w k 0 = 0 from rfl, Int.add_zero]
  | m + 1, fu + 1, k, x, hm, hfu => by
    rw [lX12_rowsFrom]
    refine h_neg (by first | omega | ((simp (disch := omega) only [i0, i1, i_lt, i_le, i_eq, i_add, i_sub, i_mul, i_neg, i_ofNat, i_rem, i_div, w_in, w_in2, w_cnt, w_cnt2, z01, z01', il, li, lc_ge, lc_le, lc_gt, lc_lt, lc_eq, l_ofNat, l0, l_eq, l_lt, l_le]) <;> omega)) (h_ainN (by omega) (by omega) ?_)
    rw [show (oQ S f).2.2.2.1 275 = f from ySl_at S 275 f, hf k (by omega), l_add, i_add, show (k : Int) + 1 = ((k + 1 : Nat) : Int) by omega, r_orL hf m fu (k + 1) (x + w k) (by omega) (by omega), Int.add_assoc]
    rfl
theorem r_or {N : Nat} (hN : 2000000 ≤ N) {S : yS} {w : Nat → Int} {f : Nat → Int64} (hf : rp f w) {k : Nat} (hk : k ≤ 13) : fX12_rowsFrom N (Int32.ofInt (k : Int)) (oQ S f) = some (Int64.ofInt (smK w k (13 - k))) := by
  have := r_orL (N := N) (S := S) hf (13 - k) N k 0 (by omega) (by omega)
  rw [Int.zero_add] at this
  exact this
theorem oQ_Fq (S : yS) (f : Nat → Int64) : Fq S (oQ S f) := Fq_l
/-- the least bound -/
def bnS (w : Nat → Int) (x : Int) : Nat → Nat → Int
  | _, 0 => -1
  | k, m + 1 => if smK w k (13 - k) * 20 ≤ x then k else bnS w x (k + 1) m
theorem bnS_rng (w : Nat → Int) (x : Int) : ∀ m k, bnS w x k m = -1 ∨ ((k : Int) ≤ bnS w x k m ∧ bnS w x k m < (k : Int) + m)
  | 0, k => Or.inl rfl
  | m + 1, k => by
    unfold bnS
    split
    · right; omega
    · have := bnS_rng w x m (k + 1)
      omega
theorem c_bnL {N : Nat} (hN : 2000000 ≤ N) {S : yS} {w : Nat → Int} {f : Nat → Int64} (hf : rp f w) {n : Nat} (hw : wI w n) (hn : n ≤ 12) : ∀ (m fu k : Nat), k + m = n + 1 → m < fu → lX11_leastBound N fu (Int32.ofInt (n : Int)) (Int32.ofInt (k : Int)) (sQ S f n (10 ^ n)) = some (Int32.ofInt (bnS w (10 ^ n) k m), sQ S f n (10 ^ n))
  | 0, fu + 1, k, hm, _ => by
    rw [lX11_leastBound]
    exact h_pos (by first | omega | ((simp (disch := omega) only [i0, i1, i_lt, i_le, i_eq, i_add, i_sub, i_mul, i_neg, i_ofNat, i_rem, i_div, w_in, w_in2, w_cnt, w_cnt2, z01, z01', il, li, lc_ge, lc_le, lc_gt, lc_lt, lc_eq, l_ofNat, l0, l_eq, l_lt, l_le]) <;> omega)) rfl
  | m + 1, fu + 1, k, hm, hfu => by
    have hs := smK_le hw hn (show k ≤ 13 by omega)
    have hp := p12 hn
    rw [lX11_leastBound]
    refine h_neg (by first | omega | ((simp (disch := omega) only [i0, i1, i_lt, i_le, i_eq, i_add, i_sub, i_mul, i_neg, i_ofNat, i_rem, i_div, w_in, w_in2, w_cnt, w_cnt2, z01, z01', il, li, lc_ge, lc_le, lc_gt, lc_lt, lc_eq, l_ofNat, l0, l_eq, l_lt, l_le]) <;> omega)) (h_bind (c_or hN hf (by omega)) ?_)
    rw [l_mul, sQ_x, i_add, show (k : Int) + 1 = ((k + 1 : Nat) : Int) by omega]
    unfold bnS
    by_cases hc : smK w k (13 - k) * 20 ≤ 10 ^ n
    · rw [if_pos hc]
      exact h_neg (by first | omega | ((simp (disch := omega) only [i0, i1, i_lt, i_le, i_eq, i_add, i_sub, i_mul, i_neg, i_ofNat, i_rem, i_div, w_in, w_in2, w_cnt, w_cnt2, z01, z01', il, li, lc_ge', lc_le', lc_gt', lc_lt', lc_eq', l_ofNat, l0, l_eq, l_lt, l_le, l_add, l_mul]) <;> omega)) rfl
    · rw [if_neg hc]
      exact h_pos (by first | omega | ((simp (disch := omega) only [i0, i1, i_lt, i_le, i_eq, i_add, i_sub, i_mul, i_neg, i_ofNat, i_rem, i_div, w_in, w_in2, w_cnt, w_cnt2, z01, z01', il, li, lc_ge', lc_le', lc_gt', lc_lt', lc_eq', l_ofNat, l0, l_eq, l_lt, l_le, l_add, l_mul]) <;> omega)) (c_bnL hN hf hw hn m fu (k + 1) (by omega) (by omega))
theorem r_bnL {N : Nat} (hN : 2000000 ≤ N) {S : yS} {w : Nat → Int} {f : Nat → Int64} (hf : rp f w) {n : Nat} (hw : wI w n) (hn : n ≤ 12) : ∀ (m fu k : Nat), k + m = n + 1 → m < fu → lX12_bound N fu (Int32.ofInt (n : Int)) (Int64.ofInt (10 ^ n)) (Int32.ofInt (k : Int)) (oQ S f) = some (Int32.ofInt (bnS w (10 ^ n) k m), oQ S f)
  | 0, fu + 1, k, hm, _ => by
    rw [lX12_bound]
    exact h_pos (by first | omega | ((simp (disch := omega) only [i0, i1, i_lt, i_le, i_eq, i_add, i_sub, i_mul, i_neg, i_ofNat, i_rem, i_div, w_in, w_in2, w_cnt, w_cnt2, z01, z01', il, li, lc_ge, lc_le, lc_gt, lc_lt, lc_eq, l_ofNat, l0, l_eq, l_lt, l_le]) <;> omega)) rfl
  | m + 1, fu + 1, k, hm, hfu => by
    have hs := smK_le hw hn (show k ≤ 13 by omega)
    have hp := p12 hn
    rw [lX12_bound]
    refine h_neg (by first | omega | ((simp (disch := omega) only [i0, i1, i_lt, i_le, i_eq, i_add, i_sub, i_mul, i_neg, i_ofNat, i_rem, i_div, w_in, w_in2, w_cnt, w_cnt2, z01, z01', il, li, lc_ge, lc_le, lc_gt, lc_lt, lc_eq, l_ofNat, l0, l_eq, l_lt, l_le]) <;> omega)) (h_bind (r_or hN hf (by omega)) ?_)
    rw [l_mul, i_add, show (k : Int) + 1 = ((k + 1 : Nat) : Int) by omega]
    unfold bnS
    by_cases hc : smK w k (13 - k) * 20 ≤ 10 ^ n
    · rw [if_pos hc]
      exact h_neg (by first | omega | ((simp (disch := omega) only [i0, i1, i_lt, i_le, i_eq, i_add, i_sub, i_mul, i_neg, i_ofNat, i_rem, i_div, w_in, w_in2, w_cnt, w_cnt2, z01, z01', il, li, lc_ge', lc_le', lc_gt', lc_lt', lc_eq', l_ofNat, l0, l_eq, l_lt, l_le, l_add, l_mul]) <;> omega)) rfl
    · rw [if_neg hc]
      exact h_pos (by first | omega | ((simp (disch := omega) only [i0, i1, i_lt, i_le, i_eq, i_add, i_sub, i_mul, i_neg, i_ofNat, i_rem, i_div, w_in, w_in2, w_cnt, w_cnt2, z01, z01', il, li, lc_ge', lc_le', lc_gt', lc_lt', lc_eq', l_ofNat, l0, l_eq, l_lt, l_le, l_add, l_mul]) <;> omega)) (r_bnL hN hf hw hn m fu (k + 1) (by omega) (by omega))
section PMS
variable {T : yK} {S : yS}
theorem pm_test (h : Rel T S) {N : Nat} (hN : 2000000 ≤ N) (v0 v1 v2 v3 : Int32) (hv : v3 = Int32.ofInt 0 ∨ v3 = Int32.ofInt 1) : PMl T S (fX11_test N v0 v1 v2 v3) (fX12_test N v0 v1 v2 v3) := by
  obtain ⟨a, a1, a2, rfl⟩ := i_ex v0
  obtain ⟨b, b1, b2, rfl⟩ := i_ex v1
  obtain ⟨c, c1, c2, rfl⟩ := i_ex v2
  unfold PMl fX11_test fX12_test fX12_areOdds
  by_cases ha : 0 ≤ a ∧ a ≤ 12
  · by_cases hb : 0 ≤ b ∧ b ≤ a
    · by_cases hc : 0 ≤ c ∧ c ≤ 10
      · obtain ⟨n, rfl⟩ := Int.eq_ofNat_of_zero_le ha.1
        obtain ⟨k, rfl⟩ := Int.eq_ofNat_of_zero_le hb.1
        have hn : n ≤ 12 := by omega
        obtain ⟨f, e1, e2⟩ := c_tr hN S hc hn
        obtain ⟨g, e3, e4⟩ := r_tr hN (sQ S f n (10 ^ n)) hc hn
        have hw := spI_I hc n hn
        have hs := smK_le hw hn (show k ≤ 13 by omega)
        have hp := p12 hn
        obtain ⟨z, hz, rfl⟩ : ∃ z : Int, (z = 0 ∨ z = 1) ∧ v3 = Int32.ofInt z := by
          rcases hv with e | e
          · exact ⟨0, Or.inl rfl, e⟩
          · exact ⟨1, Or.inr rfl, e⟩
        refine ⟨Int64.ofInt (lwS (smK (spI c n) k (13 - k)) (10 ^ n) z), sQ S f n (10 ^ n), oQ (sQ S f n (10 ^ n)) g, ?_, ?_, Rel_Fq h (Fq_trans (sQ_Fq _ _ _ _) (oQ_Fq _ _))⟩
        · refine h_neg (by first | omega | ((simp (disch := omega) only [i0, i1, i_lt, i_le, i_eq, i_add, i_sub, i_mul, i_neg, i_ofNat, i_rem, i_div, w_in, w_in2, w_cnt, w_cnt2, z01, z01', il, li, lc_ge, lc_le, lc_gt, lc_lt, lc_eq, l_ofNat, l0, l_eq, l_lt, l_le]) <;> omega)) (h_neg (by first | omega | ((simp (disch := omega) only [i0, i1, i_lt, i_le, i_eq, i_add, i_sub, i_mul, i_neg, i_ofNat, i_rem, i_div, w_in, w_in2, w_cnt, w_cnt2, z01, z01', il, li, lc_ge, lc_le, lc_gt, lc_lt, lc_eq, l_ofNat, l0, l_eq, l_lt, l_le]) <;> omega)) (h_pos (by first | omega | ((simp (disch := omega) only [i0, i1, i_lt, i_le, i_eq, i_add, i_sub, i_mul, i_neg, i_ofNat, i_rem, i_div, w_in, w_in2, w_cnt, w_cnt2, z01, z01', il, li, lc_ge, lc_le, lc_gt, lc_lt, lc_eq, l_ofNat, l0, l_eq, l_lt, l_le]) <;> omega)) ?_))
          refine h_bind e2 (h_bind (c_or hN e1 (by omega)) ?_)
          rw [sQ_x]
          exact h_bind (c_low hN (by omega) (by omega) hz) rfl
        · refine h_neg (by first | omega | ((simp (disch := omega) only [i0, i1, i_lt, i_le, i_eq, i_add, i_sub, i_mul, i_neg, i_ofNat, i_rem, i_div, w_in, w_in2, w_cnt, w_cnt2, z01, z01', il, li, lc_ge, lc_le, lc_gt, lc_lt, lc_eq, l_ofNat, l0, l_eq, l_lt, l_le]) <;> omega)) (h_neg (by first | omega | ((simp (disch := omega) only [i0, i1, i_lt, i_le, i_eq, i_add, i_sub, i_mul, i_neg, i_ofNat, i_rem, i_div, w_in, w_in2, w_cnt, w_cnt2, z01, z01', il, li, lc_ge, lc_le, lc_gt, lc_lt, lc_eq, l_ofNat, l0, l_eq, l_lt, l_le]) <;> omega)) (h_pos (by first | omega | ((simp (disch := omega) only [i0, i1, i_lt, i_le, i_eq, i_add, i_sub, i_mul, i_neg, i_ofNat, i_rem, i_div, w_in, w_in2, w_cnt, w_cnt2, z01, z01', il, li, lc_ge, lc_le, lc_gt, lc_lt, lc_eq, l_ofNat, l0, l_eq, l_lt, l_le]) <;> omega)) ?_))
          refine h_bind e4 (h_bind (r_or hN e3 (by omega)) ?_)
          exact h_bind (r_low hN (by omega) (by omega) hz) rfl
      · exact ⟨_, S, S, h_neg (by first | omega | ((simp (disch := omega) only [i0, i1, i_lt, i_le, i_eq, i_add, i_sub, i_mul, i_neg, i_ofNat, i_rem, i_div, w_in, w_in2, w_cnt, w_cnt2, z01, z01', il, li, lc_ge, lc_le, lc_gt, lc_lt, lc_eq, l_ofNat, l0, l_eq, l_lt, l_le]) <;> omega)) (h_neg (by first | omega | ((simp (disch := omega) only [i0, i1, i_lt, i_le, i_eq, i_add, i_sub, i_mul, i_neg, i_ofNat, i_rem, i_div, w_in, w_in2, w_cnt, w_cnt2, z01, z01', il, li, lc_ge, lc_le, lc_gt, lc_lt, lc_eq, l_ofNat, l0, l_eq, l_lt, l_le]) <;> omega)) (h_neg (by first | omega | ((simp (disch := omega) only [i0, i1, i_lt, i_le, i_eq, i_add, i_sub, i_mul, i_neg, i_ofNat, i_rem, i_div, w_in, w_in2, w_cnt, w_cnt2, z01, z01', il, li, lc_ge, lc_le, lc_gt, lc_lt, lc_eq, l_ofNat, l0, l_eq, l_lt, l_le]) <;> omega)) rfl)), h_neg (by first | omega | ((simp (disch := omega) only [i0, i1, i_lt, i_le, i_eq, i_add, i_sub, i_mul, i_neg, i_ofNat, i_rem, i_div, w_in, w_in2, w_cnt, w_cnt2, z01, z01', il, li, lc_ge, lc_le, lc_gt, lc_lt, lc_eq, l_ofNat, l0, l_eq, l_lt, l_le]) <;> omega)) (h_neg (by first | omega | ((simp (disch := omega) only [i0, i1, i_lt, i_le, i_eq, i_add, i_sub, i_mul, i_neg, i_ofNat, i_rem, i_div, w_in, w_in2, w_cnt, w_cnt2, z01, z01', il, li, lc_ge, lc_le, lc_gt, lc_lt, lc_eq, l_ofNat, l0, l_eq, l_lt, l_le]) <;> omega)) (h_neg (by first | omega | ((simp (disch := omega) only [i0, i1, i_lt, i_le, i_eq, i_add, i_sub, i_mul, i_neg, i_ofNat, i_rem, i_div, w_in, w_in2, w_cnt, w_cnt2, z01, z01', il, li, lc_ge, lc_le, lc_gt, lc_lt, lc_eq, l_ofNat, l0, l_eq, l_lt, l_le]) <;> omega)) rfl)), h⟩
    · exact ⟨_, S, S, h_neg (by first | omega | ((simp (disch := omega) only [i0, i1, i_lt, i_le, i_eq, i_add, i_sub, i_mul, i_neg, i_ofNat, i_rem, i_div, w_in, w_in2, w_cnt, w_cnt2, z01, z01', il, li, lc_ge, lc_le, lc_gt, lc_lt, lc_eq, l_ofNat, l0, l_eq, l_lt, l_le]) <;> omega)) (h_pos (by first | omega | ((simp (disch := omega) only [i0, i1, i_lt, i_le, i_eq, i_add, i_sub, i_mul, i_neg, i_ofNat, i_rem, i_div, w_in, w_in2, w_cnt, w_cnt2, z01, z01', il, li, lc_ge, lc_le, lc_gt, lc_lt, lc_eq, l_ofNat, l0, l_eq, l_lt, l_le]) <;> omega)) rfl), h_neg (by first | omega | ((simp (disch := omega) only [i0, i1, i_lt, i_le, i_eq, i_add, i_sub, i_mul, i_neg, i_ofNat, i_rem, i_div, w_in, w_in2, w_cnt, w_cnt2, z01, z01', il, li, lc_ge, lc_le, lc_gt, lc_lt, lc_eq, l_ofNat, l0, l_eq, l_lt, l_le]) <;> omega)) (h_pos (by first | omega | ((simp (disch := omega) only [i0, i1, i_lt, i_le, i_eq, i_add, i_sub, i_mul, i_neg, i_ofNat, i_rem, i_div, w_in, w_in2, w_cnt, w_cnt2, z01, z01', il, li, lc_ge, lc_le, lc_gt, lc_lt, lc_eq, l_ofNat, l0, l_eq, l_lt, l_le]) <;> omega)) rfl), h⟩
  · exact ⟨_, S, S, h_pos (by first | omega | ((simp (disch := omega) only [i0, i1, i_lt, i_le, i_eq, i_add, i_sub, i_mul, i_neg, i_ofNat, i_rem, i_div, w_in, w_in2, w_cnt, w_cnt2, z01, z01', il, li, lc_ge, lc_le, lc_gt, lc_lt, lc_eq, l_ofNat, l0, l_eq, l_lt, l_le]) <;> omega)) rfl, h_pos (by first | omega | ((simp (disch := omega) only [i0, i1, i_lt, i_le, i_eq, i_add, i_sub, i_mul, i_neg, i_ofNat, i_rem, i_div, w_in, w_in2, w_cnt, w_cnt2, z01, z01', il, li, lc_ge, lc_le, lc_gt, lc_lt, lc_eq, l_ofNat, l0, l_eq, l_lt, l_le]) <;> omega)) rfl, h⟩
theorem c_bnF {N : Nat} (hN : 2000000 ≤ N) (S : yS) {n : Nat} (hn : 1 ≤ n ∧ n ≤ 12) {c : Int} (hc : 0 ≤ c ∧ c ≤ 10) : ∃ f, fX11_leastBound N (Int32.ofInt (n : Int)) (Int32.ofInt c) S = some (Int32.ofInt (bnS (spI c n) (10 ^ n) 0 (n + 1)), sQ S f n (10 ^ n)) := by
  obtain ⟨f, e1, e2⟩ := c_tr hN S hc hn.2
  exact ⟨f, h_bind e2 (c_bnL hN e1 (spI_I hc n hn.2) hn.2 (n + 1) N 0 (by omega) (by omega))⟩
theorem r_bnF {N : Nat} (hN : 2000000 ≤ N) (S : yS) {n : Nat} (hn : 1 ≤ n ∧ n ≤ 12) {c : Int} (hc : 0 ≤ c ∧ c ≤ 10) : ∃ f, fX12_bound N (Int32.ofInt (n : Int)) (Int32.ofInt c) S = some (Int32.ofInt (bnS (spI c n) (10 ^ n) 0 (n + 1)), oQ S f) := by
  obtain ⟨f, e1, e2⟩ := r_tr hN S hc hn.2
  refine ⟨f, ?_⟩
  unfold fX12_bound fX12_areOdds
  exact h_neg (by first | omega | ((simp (disch := omega) only [i0, i1, i_lt, i_le, i_eq, i_add, i_sub, i_mul, i_neg, i_ofNat, i_rem, i_div, w_in, w_in2, w_cnt, w_cnt2, z01, z01', il, li, lc_ge, lc_le, lc_gt, lc_lt, lc_eq, l_ofNat, l0, l_eq, l_lt, l_le]) <;> omega)) (h_pos (by first | omega | ((simp (disch := omega) only [i0, i1, i_lt, i_le, i_eq, i_add, i_sub, i_mul, i_neg, i_ofNat, i_rem, i_div, w_in, w_in2, w_cnt, w_cnt2, z01, z01', il, li, lc_ge, lc_le, lc_gt, lc_lt, lc_eq, l_ofNat, l0, l_eq, l_lt, l_le]) <;> omega)) (h_bind e2 (r_bnL hN e1 (spI_I hc n hn.2) hn.2 (n + 1) N 0 (by omega) (by omega))))
theorem pm_bound (h : Rel T S) {N : Nat} (hN : 2000000 ≤ N) (v0 v1 : Int32) : PM T S (fX11_bound N v0 v1) (fX12_bound N v0 v1) := by
  obtain ⟨a, a1, a2, rfl⟩ := i_ex v0
  obtain ⟨b, b1, b2, rfl⟩ := i_ex v1
  unfold PM
  by_cases ha : 1 ≤ a ∧ a ≤ 12
  · by_cases hb : 0 ≤ b ∧ b ≤ 10
    · obtain ⟨n, rfl⟩ := Int.eq_ofNat_of_zero_le (show 0 ≤ a by omega)
      obtain ⟨f, e1⟩ := c_bnF hN S (show 1 ≤ n ∧ n ≤ 12 by omega) hb
      obtain ⟨g, e2⟩ := r_bnF hN (sQ S f n (10 ^ n)) (show 1 ≤ n ∧ n ≤ 12 by omega) hb
      refine ⟨_, _, _, ?_, e2, Rel_Fq h (Fq_trans (sQ_Fq _ _ _ _) (oQ_Fq _ _))⟩
      unfold fX11_bound
      exact h_neg (by first | omega | ((simp (disch := omega) only [i0, i1, i_lt, i_le, i_eq, i_add, i_sub, i_mul, i_neg, i_ofNat, i_rem, i_div, w_in, w_in2, w_cnt, w_cnt2, z01, z01', il, li, lc_ge, lc_le, lc_gt, lc_lt, lc_eq, l_ofNat, l0, l_eq, l_lt, l_le]) <;> omega)) (h_neg (by first | omega | ((simp (disch := omega) only [i0, i1, i_lt, i_le, i_eq, i_add, i_sub, i_mul, i_neg, i_ofNat, i_rem, i_div, w_in, w_in2, w_cnt, w_cnt2, z01, z01', il, li, lc_ge, lc_le, lc_gt, lc_lt, lc_eq, l_ofNat, l0, l_eq, l_lt, l_le]) <;> omega)) (h_bind e1 rfl))
    · unfold fX11_bound fX12_bound fX12_areOdds
      exact ⟨_, S, S, h_neg (by first | omega | ((simp (disch := omega) only [i0, i1, i_lt, i_le, i_eq, i_add, i_sub, i_mul, i_neg, i_ofNat, i_rem, i_div, w_in, w_in2, w_cnt, w_cnt2, z01, z01', il, li, lc_ge, lc_le, lc_gt, lc_lt, lc_eq, l_ofNat, l0, l_eq, l_lt, l_le]) <;> omega)) (h_pos (by first | omega | ((simp (disch := omega) only [i0, i1, i_lt, i_le, i_eq, i_add, i_sub, i_mul, i_neg, i_ofNat, i_rem, i_div, w_in, w_in2, w_cnt, w_cnt2, z01, z01', il, li, lc_ge, lc_le, lc_gt, lc_lt, lc_eq, l_ofNat, l0, l_eq, l_lt, l_le]) <;> omega)) rfl), h_neg (by first | omega | ((simp (disch := omega) only [i0, i1, i_lt, i_le, i_eq, i_add, i_sub, i_mul, i_neg, i_ofNat, i_rem, i_div, w_in, w_in2, w_cnt, w_cnt2, z01, z01', il, li, lc_ge, lc_le, lc_gt, lc_lt, lc_eq, l_ofNat, l0, l_eq, l_lt, l_le]) <;> omega)) (h_neg (by first | omega | ((simp (disch := omega) only [i0, i1, i_lt, i_le, i_eq, i_add, i_sub, i_mul, i_neg, i_ofNat, i_rem, i_div, w_in, w_in2, w_cnt, w_cnt2, z01, z01', il, li, lc_ge, lc_le, lc_gt, lc_lt, lc_eq, l_ofNat, l0, l_eq, l_lt, l_le]) <;> omega)) rfl), h⟩
  · unfold fX11_bound fX12_bound fX12_areOdds
    exact ⟨_, S, S, h_pos (by first | omega | ((simp (disch := omega) only [i0, i1, i_lt, i_le, i_eq, i_add, i_sub, i_mul, i_neg, i_ofNat, i_rem, i_div, w_in, w_in2, w_cnt, w_cnt2, z01, z01', il, li, lc_ge, lc_le, lc_gt, lc_lt, lc_eq, l_ofNat, l0, l_eq, l_lt, l_le]) <;> omega)) rfl, h_pos (by first | omega | ((simp (disch := omega) only [i0, i1, i_lt, i_le, i_eq, i_add, i_sub, i_mul, i_neg, i_ofNat, i_rem, i_div, w_in, w_in2, w_cnt, w_cnt2, z01, z01', il, li, lc_ge, lc_le, lc_gt, lc_lt, lc_eq, l_ofNat, l0, l_eq, l_lt, l_le]) <;> omega)) rfl, h⟩
theorem pm_sure (h : Rel T S) {N : Nat} (hN : 2000000 ≤ N) (v0 v1 v2 v3 : Int32) (hv : v3 = Int32.ofInt 0 ∨ v3 = Int32.ofInt 1) : PMl T S (fX11_sure N v0 v1 v2 v3) (fX12_sure N v0 v1 v2 v3) := by
  obtain ⟨a, a1, a2, rfl⟩ := i_ex v0
  obtain ⟨b, b1, b2, rfl⟩ := i_ex v1
  obtain ⟨c, c1, c2, rfl⟩ := i_ex v2
  unfold PMl
  by_cases ha : 1 ≤ a ∧ a ≤ 12
  · by_cases hb : 0 ≤ b ∧ b ≤ 10
    · obtain ⟨n, rfl⟩ := Int.eq_ofNat_of_zero_le (show 0 ≤ a by omega)
      have hn : 1 ≤ n ∧ n ≤ 12 := by omega
      by_cases hc : 0 ≤ c ∧ c ≤ 10
      · obtain ⟨f, e1⟩ := c_bnF hN S hn hb
        have hr := bnS_rng (spI b n) (10 ^ n) (n + 1) 0
        by_cases hm : bnS (spI b n) (10 ^ n) 0 (n + 1) = -1
        · obtain ⟨g, e2⟩ := r_bnF hN (sQ S f n (10 ^ n)) hn hb
          rw [hm] at e1 e2
          refine ⟨Int64.ofInt (-1), sQ S f n (10 ^ n), oQ (sQ S f n (10 ^ n)) g, ?_, ?_, Rel_Fq h (Fq_trans (sQ_Fq S f n (10 ^ n)) (oQ_Fq _ g))⟩
          · unfold fX11_sure
            exact h_neg (by first | omega | ((simp (disch := omega) only [i0, i1, i_lt, i_le, i_eq, i_add, i_sub, i_mul, i_neg, i_ofNat, i_rem, i_div, w_in, w_in2, w_cnt, w_cnt2, z01, z01', il, li, lc_ge, lc_le, lc_gt, lc_lt, lc_eq, l_ofNat, l0, l_eq, l_lt, l_le]) <;> omega)) (h_neg (by first | omega | ((simp (disch := omega) only [i0, i1, i_lt, i_le, i_eq, i_add, i_sub, i_mul, i_neg, i_ofNat, i_rem, i_div, w_in, w_in2, w_cnt, w_cnt2, z01, z01', il, li, lc_ge, lc_le, lc_gt, lc_lt, lc_eq, l_ofNat, l0, l_eq, l_lt, l_le]) <;> omega)) (h_pos (by first | omega | ((simp (disch := omega) only [i0, i1, i_lt, i_le, i_eq, i_add, i_sub, i_mul, i_neg, i_ofNat, i_rem, i_div, w_in, w_in2, w_cnt, w_cnt2, z01, z01', il, li, lc_ge, lc_le, lc_gt, lc_lt, lc_eq, l_ofNat, l0, l_eq, l_lt, l_le]) <;> omega)) (h_bind e1 (h_neg (by decide) rfl))))
          · unfold fX12_sure
            exact h_bind e2 (h_pos rfl rfl)
        · obtain ⟨k, hk⟩ := Int.eq_ofNat_of_zero_le (show 0 ≤ bnS (spI b n) (10 ^ n) 0 (n + 1) by omega)
          rw [hk] at e1 hr hm
          obtain ⟨f2, e3, e4⟩ := c_tr hN (sQ S f n (10 ^ n)) hc hn.2
          obtain ⟨g, e2⟩ := r_bnF hN (sQ (sQ S f n (10 ^ n)) f2 n (10 ^ n)) hn hb
          rw [hk] at e2
          obtain ⟨g2, e5, e6⟩ := r_tr hN (oQ (sQ (sQ S f n (10 ^ n)) f2 n (10 ^ n)) g) hc hn.2
          have hw := spI_I hc n hn.2
          have hs := smK_le hw hn.2 (show k ≤ 13 by omega)
          have hp := p12 hn.2
          obtain ⟨z, hz, rfl⟩ : ∃ z : Int, (z = 0 ∨ z = 1) ∧ v3 = Int32.ofInt z := by
            rcases hv with e | e
            · exact ⟨0, Or.inl rfl, e⟩
            · exact ⟨1, Or.inr rfl, e⟩
          refine ⟨Int64.ofInt (lwS (smK (spI c n) k (13 - k)) (10 ^ n) z), sQ (sQ S f n (10 ^ n)) f2 n (10 ^ n), oQ (oQ (sQ (sQ S f n (10 ^ n)) f2 n (10 ^ n)) g) g2, ?_, ?_, Rel_Fq h (Fq_trans (Fq_trans (sQ_Fq S f n (10 ^ n)) (sQ_Fq _ f2 n (10 ^ n))) (Fq_trans (oQ_Fq _ g) (oQ_Fq _ g2)))⟩
          · unfold fX11_sure
            refine h_neg (by first | omega | ((simp (disch := omega) only [i0, i1, i_lt, i_le, i_eq, i_add, i_sub, i_mul, i_neg, i_ofNat, i_rem, i_div, w_in, w_in2, w_cnt, w_cnt2, z01, z01', il, li, lc_ge, lc_le, lc_gt, lc_lt, lc_eq, l_ofNat, l0, l_eq, l_lt, l_le]) <;> omega)) (h_neg (by first | omega | ((simp (disch := omega) only [i0, i1, i_lt, i_le, i_eq, i_add, i_sub, i_mul, i_neg, i_ofNat, i_rem, i_div, w_in, w_in2, w_cnt, w_cnt2, z01, z01', il, li, lc_ge, lc_le, lc_gt, lc_lt, lc_eq, l_ofNat, l0, l_eq, l_lt, l_le]) <;> omega)) (h_pos (by first | omega | ((simp (disch := omega) only [i0, i1, i_lt, i_le, i_eq, i_add, i_sub, i_mul, i_neg, i_ofNat, i_rem, i_div, w_in, w_in2, w_cnt, w_cnt2, z01, z01', il, li, lc_ge, lc_le, lc_gt, lc_lt, lc_eq, l_ofNat, l0, l_eq, l_lt, l_le]) <;> omega)) (h_bind e1 (h_pos (by first | omega | ((simp (disch := omega) only [i0, i1, i_lt, i_le, i_eq, i_add, i_sub, i_mul, i_neg, i_ofNat, i_rem, i_div, w_in, w_in2, w_cnt, w_cnt2, z01, z01', il, li, lc_ge, lc_le, lc_gt, lc_lt, lc_eq, l_ofNat, l0, l_eq, l_lt, l_le]) <;> omega)) ?_))))
            refine h_bind e4 (h_bind (c_or hN e3 (by omega)) ?_)
            rw [sQ_x]
            exact h_bind (c_low hN (by omega) (by omega) hz) rfl
          · unfold fX12_sure fX12_areOdds
            refine h_bind e2 (h_neg (by first | omega | ((simp (disch := omega) only [i0, i1, i_lt, i_le, i_eq, i_add, i_sub, i_mul, i_neg, i_ofNat, i_rem, i_div, w_in, w_in2, w_cnt, w_cnt2, z01, z01', il, li, lc_ge, lc_le, lc_gt, lc_lt, lc_eq, l_ofNat, l0, l_eq, l_lt, l_le]) <;> omega)) (h_pos (by first | omega | ((simp (disch := omega) only [i0, i1, i_lt, i_le, i_eq, i_add, i_sub, i_mul, i_neg, i_ofNat, i_rem, i_div, w_in, w_in2, w_cnt, w_cnt2, z01, z01', il, li, lc_ge, lc_le, lc_gt, lc_lt, lc_eq, l_ofNat, l0, l_eq, l_lt, l_le]) <;> omega)) ?_))
            refine h_bind (v := (Int64.ofInt (lwS (smK (spI c n) k (13 - k)) (10 ^ n) z), oQ (oQ (sQ (sQ S f n (10 ^ n)) f2 n (10 ^ n)) g) g2)) ?_ rfl
            unfold fX12_test fX12_areOdds
            refine h_neg (by first | omega | ((simp (disch := omega) only [i0, i1, i_lt, i_le, i_eq, i_add, i_sub, i_mul, i_neg, i_ofNat, i_rem, i_div, w_in, w_in2, w_cnt, w_cnt2, z01, z01', il, li, lc_ge, lc_le, lc_gt, lc_lt, lc_eq, l_ofNat, l0, l_eq, l_lt, l_le]) <;> omega)) (h_neg (by first | omega | ((simp (disch := omega) only [i0, i1, i_lt, i_le, i_eq, i_add, i_sub, i_mul, i_neg, i_ofNat, i_rem, i_div, w_in, w_in2, w_cnt, w_cnt2, z01, z01', il, li, lc_ge, lc_le, lc_gt, lc_lt, lc_eq, l_ofNat, l0, l_eq, l_lt, l_le]) <;> omega)) (h_pos (by first | omega | ((simp (disch := omega) only [i0, i1, i_lt, i_le, i_eq, i_add, i_sub, i_mul, i_neg, i_ofNat, i_rem, i_div, w_in, w_in2, w_cnt, w_cnt2, z01, z01', il, li, lc_ge, lc_le, lc_gt, lc_lt, lc_eq, l_ofNat, l0, l_eq, l_lt, l_le]) <;> omega)) ?_))
            refine h_bind e6 (h_bind (r_or hN e5 (by omega)) ?_)
            exact h_bind (r_low hN (by omega) (by omega) hz) rfl
      · obtain ⟨g, e2⟩ := r_bnF hN S hn hb
        have hr := bnS_rng (spI b n) (10 ^ n) (n + 1) 0
        refine ⟨Int64.ofInt (-1), S, oQ S g, ?_, ?_, Rel_Fq h (oQ_Fq _ _)⟩
        · unfold fX11_sure
          exact h_neg (by first | omega | ((simp (disch := omega) only [i0, i1, i_lt, i_le, i_eq, i_add, i_sub, i_mul, i_neg, i_ofNat, i_rem, i_div, w_in, w_in2, w_cnt, w_cnt2, z01, z01', il, li, lc_ge, lc_le, lc_gt, lc_lt, lc_eq, l_ofNat, l0, l_eq, l_lt, l_le]) <;> omega)) (h_neg (by first | omega | ((simp (disch := omega) only [i0, i1, i_lt, i_le, i_eq, i_add, i_sub, i_mul, i_neg, i_ofNat, i_rem, i_div, w_in, w_in2, w_cnt, w_cnt2, z01, z01', il, li, lc_ge, lc_le, lc_gt, lc_lt, lc_eq, l_ofNat, l0, l_eq, l_lt, l_le]) <;> omega)) (h_neg (by first | omega | ((simp (disch := omega) only [i0, i1, i_lt, i_le, i_eq, i_add, i_sub, i_mul, i_neg, i_ofNat, i_rem, i_div, w_in, w_in2, w_cnt, w_cnt2, z01, z01', il, li, lc_ge, lc_le, lc_gt, lc_lt, lc_eq, l_ofNat, l0, l_eq, l_lt, l_le]) <;> omega)) rfl))
        · unfold fX12_sure fX12_areOdds
          refine h_bind e2 ?_
          by_cases hm : bnS (spI b n) (10 ^ n) 0 (n + 1) = -1
          · rw [hm]; exact h_pos rfl rfl
          · exact h_neg (by first | omega | ((simp (disch := omega) only [i0, i1, i_lt, i_le, i_eq, i_add, i_sub, i_mul, i_neg, i_ofNat, i_rem, i_div, w_in, w_in2, w_cnt, w_cnt2, z01, z01', il, li, lc_ge, lc_le, lc_gt, lc_lt, lc_eq, l_ofNat, l0, l_eq, l_lt, l_le]) <;> omega)) (h_neg (by first | omega | ((simp (disch := omega) only [i0, i1, i_lt, i_le, i_eq, i_add, i_sub, i_mul, i_neg, i_ofNat, i_rem, i_div, w_in, w_in2, w_cnt, w_cnt2, z01, z01', il, li, lc_ge, lc_le, lc_gt, lc_lt, lc_eq, l_ofNat, l0, l_eq, l_lt, l_le]) <;> omega)) rfl)
    · refine ⟨Int64.ofInt (-1), S, S, ?_, ?_, h⟩
      · unfold fX11_sure
        exact h_neg (by first | omega | ((simp (disch := omega) only [i0, i1, i_lt, i_le, i_eq, i_add, i_sub, i_mul, i_neg, i_ofNat, i_rem, i_div, w_in, w_in2, w_cnt, w_cnt2, z01, z01', il, li, lc_ge, lc_le, lc_gt, lc_lt, lc_eq, l_ofNat, l0, l_eq, l_lt, l_le]) <;> omega)) (h_pos (by first | omega | ((simp (disch := omega) only [i0, i1, i_lt, i_le, i_eq, i_add, i_sub, i_mul, i_neg, i_ofNat, i_rem, i_div, w_in, w_in2, w_cnt, w_cnt2, z01, z01', il, li, lc_ge, lc_le, lc_gt, lc_lt, lc_eq, l_ofNat, l0, l_eq, l_lt, l_le]) <;> omega)) rfl)
      · unfold fX12_sure fX12_bound fX12_areOdds
        exact h_bind (h_neg (by first | omega | ((simp (disch := omega) only [i0, i1, i_lt, i_le, i_eq, i_add, i_sub, i_mul, i_neg, i_ofNat, i_rem, i_div, w_in, w_in2, w_cnt, w_cnt2, z01, z01', il, li, lc_ge, lc_le, lc_gt, lc_lt, lc_eq, l_ofNat, l0, l_eq, l_lt, l_le]) <;> omega)) (h_neg (by first | omega | ((simp (disch := omega) only [i0, i1, i_lt, i_le, i_eq, i_add, i_sub, i_mul, i_neg, i_ofNat, i_rem, i_div, w_in, w_in2, w_cnt, w_cnt2, z01, z01', il, li, lc_ge, lc_le, lc_gt, lc_lt, lc_eq, l_ofNat, l0, l_eq, l_lt, l_le]) <;> omega)) rfl)) (h_pos rfl rfl)
  · refine ⟨Int64.ofInt (-1), S, S, ?_, ?_, h⟩
    · unfold fX11_sure
      exact h_pos (by first | omega | ((simp (disch := omega) only [i0, i1, i_lt, i_le, i_eq, i_add, i_sub, i_mul, i_neg, i_ofNat, i_rem, i_div, w_in, w_in2, w_cnt, w_cnt2, z01, z01', il, li, lc_ge, lc_le, lc_gt, lc_lt, lc_eq, l_ofNat, l0, l_eq, l_lt, l_le]) <;> omega)) rfl
    · unfold fX12_sure fX12_bound fX12_areOdds
      exact h_bind (h_pos (by first | omega | ((simp (disch := omega) only [i0, i1, i_lt, i_le, i_eq, i_add, i_sub, i_mul, i_neg, i_ofNat, i_rem, i_div, w_in, w_in2, w_cnt, w_cnt2, z01, z01', il, li, lc_ge, lc_le, lc_gt, lc_lt, lc_eq, l_ofNat, l0, l_eq, l_lt, l_le]) <;> omega)) rfl) (h_pos rfl rfl)
end PMS
