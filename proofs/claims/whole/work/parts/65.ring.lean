/-! ===== rings ===== -/
theorem php : ∀ (n : Nat) (f : Nat → Nat), (∀ i, i ≤ n → f i < n) → ∃ i j, i < j ∧ j ≤ n ∧ f i = f j
  | 0, f, h => absurd (h 0 (Nat.le_refl _)) (by omega)
  | n + 1, f, h => by
    by_cases hc : ∃ i, i < n + 1 ∧ f i = f (n + 1)
    · obtain ⟨i, h1, h2⟩ := hc
      exact ⟨i, n + 1, h1, Nat.le_refl _, h2⟩
    · have hne : ∀ i, i < n + 1 → f i ≠ f (n + 1) := fun i hi e => hc ⟨i, hi, e⟩
      obtain ⟨i, j, hij, hj, e⟩ := php n (fun i => if f i = n then f (n + 1) else f i) (fun i hi => by
        have h1 := h i (by omega)
        have h2 := h (n + 1) (Nat.le_refl _)
        have h3 := hne i (by omega)
        split <;> omega)
      have h3 := hne i (by omega)
      have h4 := hne j (by omega)
      refine ⟨i, j, hij, by omega, ?_⟩
      split at e <;> split at e <;> omega
/-- what follows, n times -/
def itN (A : Nat → Int) (c : Nat) : Nat → Nat
  | 0 => c
  | n + 1 => itN A (A (78 + c)).toNat n
theorem itN_add (A : Nat → Int) : ∀ (n m c : Nat), itN A c (n + m) = itN A (itN A c n) m
  | 0, m, c => by rw [Nat.zero_add]; rfl
  | n + 1, m, c => by
    rw [show n + 1 + m = (n + m) + 1 by omega]
    exact itN_add A n m _
theorem itN_one (A : Nat → Int) (c n : Nat) : itN A c (n + 1) = (A (78 + itN A c n)).toNat := by
  rw [itN_add]; rfl
def rgL (A : Nat → Int) (c : Nat) : Nat → Nat → Nat
  | _, 0 => 0
  | k, m + 1 => if itN A c k = c then k else rgL A c (k + 1) m
theorem rgL_rng (A : Nat → Int) (c : Nat) : ∀ m k, 1 ≤ k → rgL A c k m = 0 ∨ (k ≤ rgL A c k m ∧ rgL A c k m < k + m ∧ itN A c (rgL A c k m) = c)
  | 0, k, _ => Or.inl rfl
  | m + 1, k, hk => by
    unfold rgL
    split
    · rename_i hq; exact Or.inr ⟨by omega, by omega, hq⟩
    · rcases rgL_rng A c m (k + 1) (by omega) with e | ⟨e1, e2, e3⟩
      · exact Or.inl e
      · exact Or.inr ⟨by omega, by omega, e3⟩
theorem rgL_zero (A : Nat → Int) (c : Nat) : ∀ m k, 1 ≤ k → rgL A c k m = 0 → ∀ j, k ≤ j → j < k + m → itN A c j ≠ c
  | 0, k, _, _, j, h1, h2 => by omega
  | m + 1, k, hk, h, j, h1, h2 => by
    unfold rgL at h
    split at h
    · omega
    · rename_i hq
      by_cases hj : j = k
      · subst hj; exact hq
      · exact rgL_zero A c m (k + 1) (by omega) h j (by omega) (by omega)
def rg (A : Nat → Int) (c : Nat) : Nat := rgL A c 1 9
section PMS
variable {T : yK} {S : yS}
theorem itN_lt (h : Rel T S) : ∀ n c, c < 9 → itN (rv S 266) c n < 9
  | 0, c, hc => hc
  | n + 1, c, hc => by
    have := R_nxt h hc
    exact itN_lt h n _ (by omega)
theorem c_size (h : Rel T S) {N : Nat} {c : Nat} (hc : c < 9) : ∀ (m n k : Nat), k + 1 + m = 10 → m < n → lX6_sizeAt N n (Int32.ofInt (c : Int)) (Int32.ofInt (itN (rv S 266) c k : Nat)) (Int32.ofInt ((k + 1 : Nat) : Int)) S = some (Int32.ofInt (rgL (rv S 266) c (k + 1) m : Nat))
  | 0, n + 1, k, hm, _ => by
    rw [lX6_sizeAt]
    exact h_pos (by first | omega | ((simp (disch := omega) only [i0, i1, i_lt, i_le, i_eq, i_add, i_sub, i_mul, i_neg, i_ofNat, i_rem, i_div, w_in, w_in2, w_cnt, w_cnt2, z01, z01', il, li, lc_ge, lc_le, lc_gt, lc_lt, lc_eq, l_ofNat, l0, l_eq, l_lt, l_le]) <;> omega)) rfl
  | m + 1, n + 1, k, hm, hn => by
    have hl := itN_lt h k c hc
    have hl2 := itN_lt h (k + 1) c hc
    have hr := R_nxt h hl
    rw [lX6_sizeAt]
    refine h_neg (by first | omega | ((simp (disch := omega) only [i0, i1, i_lt, i_le, i_eq, i_add, i_sub, i_mul, i_neg, i_ofNat, i_rem, i_div, w_in, w_in2, w_cnt, w_cnt2, z01, z01', il, li, lc_ge, lc_le, lc_gt, lc_lt, lc_eq, l_ofNat, l0, l_eq, l_lt, l_le]) <;> omega)) (h_ainN (by omega) (by omega) ?_)
    have e : rv S 266 (78 + itN (rv S 266) c k) = (itN (rv S 266) c (k + 1) : Nat) := by rw [itN_one]; omega
    rw [C_nxt h hl, e, i_add, show ((k + 1 : Nat) : Int) + 1 = ((k + 1 + 1 : Nat) : Int) by omega]
    unfold rgL
    by_cases hq : itN (rv S 266) c (k + 1) = c
    · rw [if_pos hq, hq]
      exact h_neg (by simp) rfl
    · rw [if_neg hq]
      exact h_pos (by first | omega | ((simp (disch := omega) only [i0, i1, i_lt, i_le, i_eq, i_add, i_sub, i_mul, i_neg, i_ofNat, i_rem, i_div, w_in, w_in2, w_cnt, w_cnt2, z01, z01', il, li, lc_ge, lc_le, lc_gt, lc_lt, lc_eq, l_ofNat, l0, l_eq, l_lt, l_le]) <;> omega)) (c_size h hc m n (k + 1) (by omega) (by omega))
theorem c_sizeF (h : Rel T S) {N : Nat} (hN : 2000000 ≤ N) {c : Nat} (hc : c < 9) : fX6_sizeAt N (Int32.ofInt (c : Int)) S = some (Int32.ofInt (rg (rv S 266) c : Nat)) := c_size h hc 9 N 0 (by omega) (by omega)
theorem r_after (h : Rel T S) {N : Nat} : ∀ (m n c k : Nat), c < 9 → k + m ≤ 1000000 → m < n → lX12_afterOf N n (Int32.ofInt ((k + m : Nat) : Int)) (Int32.ofInt (c : Int)) (Int32.ofInt (k : Int)) S = some (Int32.ofInt (itN (rv S 266) c m : Nat))
  | 0, n + 1, c, k, hc, hk, _ => by
    rw [lX12_afterOf]
    exact h_pos (by first | omega | ((simp (disch := omega) only [i0, i1, i_lt, i_le, i_eq, i_add, i_sub, i_mul, i_neg, i_ofNat, i_rem, i_div, w_in, w_in2, w_cnt, w_cnt2, z01, z01', il, li, lc_ge, lc_le, lc_gt, lc_lt, lc_eq, l_ofNat, l0, l_eq, l_lt, l_le]) <;> omega)) rfl
  | m + 1, n + 1, c, k, hc, hk, hn => by
    have hr := R_nxt h hc
    rw [lX12_afterOf, i_add, i_add, show (78 : Int) + (c : Int) = ((78 + c : Nat) : Int) by omega, show (k : Int) + 1 = ((k + 1 : Nat) : Int) by omega]
    refine h_neg (by first | omega | ((simp (disch := omega) only [i0, i1, i_lt, i_le, i_eq, i_add, i_sub, i_mul, i_neg, i_ofNat, i_rem, i_div, w_in, w_in2, w_cnt, w_cnt2, z01, z01', il, li, lc_ge, lc_le, lc_gt, lc_lt, lc_eq, l_ofNat, l0, l_eq, l_lt, l_le]) <;> omega)) (h_ainN (by omega) (by omega) ?_)
    rw [rv_eq S 266 (78 + c), show rv S 266 (78 + c) = ((rv S 266 (78 + c)).toNat : Int) by omega, show k + (m + 1) = k + 1 + m by omega]
    exact r_after h m n _ (k + 1) (by omega) (by omega) (by omega)
theorem r_afterF (h : Rel T S) {N : Nat} (hN : 2000000 ≤ N) {c m : Nat} (hc : c < 9) (hm : m ≤ 1000000) : fX12_afterOf N (Int32.ofInt (c : Int)) (Int32.ofInt (m : Int)) S = some (Int32.ofInt (itN (rv S 266) c m : Nat)) := by
  have := r_after h (N := N) m N c 0 hc (by omega) (by omega)
  rw [Nat.zero_add] at this
  exact this
theorem c_walk (h : Rel T S) {N : Nat} : ∀ (m n c k : Nat), c < 9 → k + m ≤ 1000000 → m < n → lX6_walked N n (Int32.ofInt ((k + m : Nat) : Int)) (Int32.ofInt (c : Int)) (Int32.ofInt (k : Int)) S = some (Int32.ofInt (itN (rv S 266) c m : Nat))
  | 0, n + 1, c, k, hc, hk, _ => by
    rw [lX6_walked]
    exact h_pos (by first | omega | ((simp (disch := omega) only [i0, i1, i_lt, i_le, i_eq, i_add, i_sub, i_mul, i_neg, i_ofNat, i_rem, i_div, w_in, w_in2, w_cnt, w_cnt2, z01, z01', il, li, lc_ge, lc_le, lc_gt, lc_lt, lc_eq, l_ofNat, l0, l_eq, l_lt, l_le]) <;> omega)) rfl
  | m + 1, n + 1, c, k, hc, hk, hn => by
    have hr := R_nxt h hc
    rw [lX6_walked, i_add, show (k : Int) + 1 = ((k + 1 : Nat) : Int) by omega]
    refine h_neg (by first | omega | ((simp (disch := omega) only [i0, i1, i_lt, i_le, i_eq, i_add, i_sub, i_mul, i_neg, i_ofNat, i_rem, i_div, w_in, w_in2, w_cnt, w_cnt2, z01, z01', il, li, lc_ge, lc_le, lc_gt, lc_lt, lc_eq, l_ofNat, l0, l_eq, l_lt, l_le]) <;> omega)) (h_ainN (by omega) (by omega) ?_)
    rw [C_nxt h hc, show rv S 266 (78 + c) = ((rv S 266 (78 + c)).toNat : Int) by omega, show k + (m + 1) = k + 1 + m by omega]
    exact c_walk h m n _ (k + 1) (by omega) (by omega) (by omega)
theorem c_walkF (h : Rel T S) {N : Nat} (hN : 2000000 ≤ N) {c m : Nat} (hc : c < 9) (hm : m ≤ 1000000) : fX6_walked N (Int32.ofInt (c : Int)) (Int32.ofInt (m : Int)) S = some (Int32.ofInt (itN (rv S 266) c m : Nat)) := by
  have := c_walk h (N := N) m N c 0 hc (by omega) (by omega)
  rw [Nat.zero_add] at this
  exact this
theorem r_ringL (h : Rel T S) {N : Nat} (hN : 2000000 ≤ N) {c : Nat} (hc : c < 9) : ∀ (m n k : Nat), k + 1 + m = 10 → m < n → lX12_ringOf N n (Int32.ofInt (c : Int)) (Int32.ofInt ((k + 1 : Nat) : Int)) S = some (Int32.ofInt (if rgL (rv S 266) c (k + 1) m = 0 then -1 else (rgL (rv S 266) c (k + 1) m : Nat)))
  | 0, n + 1, k, hm, _ => by
    rw [lX12_ringOf]
    exact h_pos (by first | omega | ((simp (disch := omega) only [i0, i1, i_lt, i_le, i_eq, i_add, i_sub, i_mul, i_neg, i_ofNat, i_rem, i_div, w_in, w_in2, w_cnt, w_cnt2, z01, z01', il, li, lc_ge, lc_le, lc_gt, lc_lt, lc_eq, l_ofNat, l0, l_eq, l_lt, l_le]) <;> omega)) rfl
  | m + 1, n + 1, k, hm, hn => by
    have hl2 := itN_lt h (k + 1) c hc
    rw [lX12_ringOf]
    refine h_neg (by first | omega | ((simp (disch := omega) only [i0, i1, i_lt, i_le, i_eq, i_add, i_sub, i_mul, i_neg, i_ofNat, i_rem, i_div, w_in, w_in2, w_cnt, w_cnt2, z01, z01', il, li, lc_ge, lc_le, lc_gt, lc_lt, lc_eq, l_ofNat, l0, l_eq, l_lt, l_le]) <;> omega)) ?_
    refine h_bind (r_afterF h hN hc (by omega)) ?_
    rw [i_add, show ((k + 1 : Nat) : Int) + 1 = ((k + 1 + 1 : Nat) : Int) by omega]
    have e : rgL (rv S 266) c (k + 1) (m + 1) = if itN (rv S 266) c (k + 1) = c then k + 1 else rgL (rv S 266) c (k + 1 + 1) m := rfl
    rw [e]
    by_cases hq : itN (rv S 266) c (k + 1) = c
    · rw [if_pos hq]
      refine h_neg (by rw [hq]; simp) ?_
      rw [if_neg (by omega)]
    · rw [if_neg hq]
      exact h_pos (by first | omega | ((simp (disch := omega) only [i0, i1, i_lt, i_le, i_eq, i_add, i_sub, i_mul, i_neg, i_ofNat, i_rem, i_div, w_in, w_in2, w_cnt, w_cnt2, z01, z01', il, li, lc_ge, lc_le, lc_gt, lc_lt, lc_eq, l_ofNat, l0, l_eq, l_lt, l_le]) <;> omega)) (r_ringL h hN hc m n (k + 1) (by omega) (by omega))
theorem r_ringF (h : Rel T S) {N : Nat} (hN : 2000000 ≤ N) {c : Nat} (hc : c < 9) : fX12_ringOf N (Int32.ofInt (c : Int)) S = some (Int32.ofInt (if rg (rv S 266) c = 0 then -1 else (rg (rv S 266) c : Nat))) := r_ringL h hN hc 9 N 0 (by omega) (by omega)
/-- from any count a ring is come to -/
theorem rg_ex (h : Rel T S) {c : Nat} (hc : c < 9) : ∃ k, k ≤ 8 ∧ rg (rv S 266) (itN (rv S 266) c k) ≠ 0 := by
  obtain ⟨i, j, hij, hj, e⟩ := php 9 (itN (rv S 266) c) (fun i _ => itN_lt h i c hc)
  refine ⟨i, by omega, fun hz => ?_⟩
  have := rgL_zero (rv S 266) _ 9 1 (by omega) hz (j - i) (by omega) (by omega)
  apply this
  rw [← itN_add, show i + (j - i) = j by omega, ← e]
theorem rg_le (A : Nat → Int) (c : Nat) : rg A c ≤ 9 := by
  have := rgL_rng A c 9 1 (by omega)
  unfold rg
  omega
/-- the smallest ring -/
def smS (A : Nat → Int) : Nat → Nat → Int → Int
  | _, 0, f => f
  | c, m + 1, f => smS A (c + 1) m (if rg A c = 0 then f else if f = -1 then c else if rg A f.toNat ≤ rg A c then f else c)
theorem smS_rng (A : Nat → Int) : ∀ (m c : Nat) (f : Int), (f = -1 ∨ (0 ≤ f ∧ f < c ∧ rg A f.toNat ≠ 0)) → (smS A c m f = -1 → f = -1 ∧ ∀ k : Nat, c ≤ k → k < c + m → rg A k = 0) ∧ (smS A c m f = -1 ∨ (0 ≤ smS A c m f ∧ smS A c m f < (c : Int) + m ∧ rg A (smS A c m f).toNat ≠ 0))
  | 0, c, f, hf => ⟨fun e => ⟨e, fun k h1 h2 => by omega⟩, by
      show f = -1 ∨ (0 ≤ f ∧ f < (c : Int) + (0 : Nat) ∧ rg A f.toNat ≠ 0)
      rcases hf with e | e
      · exact Or.inl e
      · exact Or.inr ⟨e.1, by omega, e.2.2⟩⟩
  | m + 1, c, f, hf => by
    unfold smS
    by_cases h0 : rg A c = 0
    · rw [if_pos h0]
      have ih := smS_rng A m (c + 1) f (by rcases hf with e | e; exact Or.inl e; exact Or.inr ⟨e.1, by omega, e.2.2⟩)
      refine ⟨fun e => ⟨(ih.1 e).1, fun k h1 h2 => ?_⟩, ?_⟩
      · by_cases hk : k = c
        · rw [hk]; exact h0
        · exact (ih.1 e).2 k (by omega) (by omega)
      · rcases ih.2 with e | e
        · exact Or.inl e
        · exact Or.inr ⟨e.1, by omega, e.2.2⟩
    · rw [if_neg h0]
      have hc0 : rg A ((c : Nat) : Int).toNat ≠ 0 := by rw [Int.toNat_natCast]; exact h0
      have hf' : (if f = -1 then (c : Int) else if rg A f.toNat ≤ rg A c then f else c) = -1 ∨ (0 ≤ (if f = -1 then (c : Int) else if rg A f.toNat ≤ rg A c then f else c) ∧ (if f = -1 then (c : Int) else if rg A f.toNat ≤ rg A c then f else c) < ((c + 1 : Nat) : Int) ∧ rg A (if f = -1 then (c : Int) else if rg A f.toNat ≤ rg A c then f else c).toNat ≠ 0) := by
        right
        by_cases h1 : f = -1
        · rw [if_pos h1]; exact ⟨by omega, by omega, hc0⟩
        · rw [if_neg h1]
          have hf := hf.resolve_left h1
          split
          · exact ⟨by omega, by omega, hf.2.2⟩
          · exact ⟨by omega, by omega, hc0⟩
      have ih := smS_rng A m (c + 1) _ hf'
      refine ⟨fun e => ?_, ?_⟩
      · have := (ih.1 e).1
        rcases hf' with q | q
        · exfalso
          split at this
          · omega
          · split at this <;> omega
        · omega
      · rcases ih.2 with e | e
        · exact Or.inl e
        · exact Or.inr ⟨e.1, by omega, e.2.2⟩
theorem c_small (h : Rel T S) {N : Nat} (hN : 2000000 ≤ N) : ∀ (m n c : Nat) (f : Int), c + m = 9 → m < n → (f = -1 ∨ (0 ≤ f ∧ f < c ∧ rg (rv S 266) f.toNat ≠ 0)) → lX6_smallest N n (Int32.ofInt (if f = -1 then 0 else f)) (Int32.ofInt (if f = -1 then 10 else (rg (rv S 266) f.toNat : Nat))) (Int32.ofInt (c : Int)) S = some (Int32.ofInt (if smS (rv S 266) c m f = -1 then 0 else smS (rv S 266) c m f))
  | 0, n + 1, c, f, hm, _, _ => by
    rw [lX6_smallest]
    exact h_pos (by first | omega | ((simp (disch := omega) only [i0, i1, i_lt, i_le, i_eq, i_add, i_sub, i_mul, i_neg, i_ofNat, i_rem, i_div, w_in, w_in2, w_cnt, w_cnt2, z01, z01', il, li, lc_ge, lc_le, lc_gt, lc_lt, lc_eq, l_ofNat, l0, l_eq, l_lt, l_le]) <;> omega)) rfl
  | m + 1, n + 1, c, f, hm, hn, hf => by
    have hl := rg_le (rv S 266) c
    have hl2 := rg_le (rv S 266) f.toNat
    rw [lX6_smallest]
    refine h_neg (by first | omega | ((simp (disch := omega) only [i0, i1, i_lt, i_le, i_eq, i_add, i_sub, i_mul, i_neg, i_ofNat, i_rem, i_div, w_in, w_in2, w_cnt, w_cnt2, z01, z01', il, li, lc_ge, lc_le, lc_gt, lc_lt, lc_eq, l_ofNat, l0, l_eq, l_lt, l_le]) <;> omega)) ?_
    refine h_bind (c_sizeF h hN (by omega)) ?_
    rw [i_add, show (c : Int) + 1 = ((c + 1 : Nat) : Int) by omega]
    unfold smS
    by_cases h0 : rg (rv S 266) c = 0
    · rw [if_pos h0]
      refine h_pos (by first | omega | ((simp (disch := omega) only [i0, i1, i_lt, i_le, i_eq, i_add, i_sub, i_mul, i_neg, i_ofNat, i_rem, i_div, w_in, w_in2, w_cnt, w_cnt2, z01, z01', il, li, lc_ge, lc_le, lc_gt, lc_lt, lc_eq, l_ofNat, l0, l_eq, l_lt, l_le]) <;> omega)) (c_small h hN m n (c + 1) f (by omega) (by omega) ?_)
      rcases hf with e | e
      · exact Or.inl e
      · exact Or.inr ⟨e.1, by omega, e.2.2⟩
    · rw [if_neg h0]
      refine h_neg (by first | omega | ((simp (disch := omega) only [i0, i1, i_lt, i_le, i_eq, i_add, i_sub, i_mul, i_neg, i_ofNat, i_rem, i_div, w_in, w_in2, w_cnt, w_cnt2, z01, z01', il, li, lc_ge, lc_le, lc_gt, lc_lt, lc_eq, l_ofNat, l0, l_eq, l_lt, l_le]) <;> omega)) ?_
      have hgo := c_small h hN m n (c + 1) (c : Int) (by omega) (by omega) (Or.inr ⟨by omega, by omega, by rw [Int.toNat_natCast]; exact h0⟩)
      rw [if_neg (by omega), if_neg (by omega), Int.toNat_natCast] at hgo
      by_cases h1 : f = -1
      · rw [if_pos h1, if_pos h1, if_pos h1]
        exact h_neg (by first | omega | ((simp (disch := omega) only [i0, i1, i_lt, i_le, i_eq, i_add, i_sub, i_mul, i_neg, i_ofNat, i_rem, i_div, w_in, w_in2, w_cnt, w_cnt2, z01, z01', il, li, lc_ge, lc_le, lc_gt, lc_lt, lc_eq, l_ofNat, l0, l_eq, l_lt, l_le]) <;> omega)) hgo
      · have hf := hf.resolve_left h1
        rw [if_neg h1, if_neg h1, if_neg h1]
        by_cases h2 : rg (rv S 266) f.toNat ≤ rg (rv S 266) c
        · rw [if_pos h2]
          have hst := c_small h hN m n (c + 1) f (by omega) (by omega) (Or.inr ⟨by omega, by omega, hf.2.2⟩)
          rw [if_neg h1, if_neg h1] at hst
          exact h_pos (by first | omega | ((simp (disch := omega) only [i0, i1, i_lt, i_le, i_eq, i_add, i_sub, i_mul, i_neg, i_ofNat, i_rem, i_div, w_in, w_in2, w_cnt, w_cnt2, z01, z01', il, li, lc_ge, lc_le, lc_gt, lc_lt, lc_eq, l_ofNat, l0, l_eq, l_lt, l_le]) <;> omega)) hst
        · rw [if_neg h2]
          exact h_neg (by first | omega | ((simp (disch := omega) only [i0, i1, i_lt, i_le, i_eq, i_add, i_sub, i_mul, i_neg, i_ofNat, i_rem, i_div, w_in, w_in2, w_cnt, w_cnt2, z01, z01', il, li, lc_ge, lc_le, lc_gt, lc_lt, lc_eq, l_ofNat, l0, l_eq, l_lt, l_le]) <;> omega)) hgo
theorem r_small (h : Rel T S) {N : Nat} (hN : 2000000 ≤ N) {z : Int} (hz : z = 0 ∨ z = 1) : ∀ (m n c : Nat) (f : Int), c + m = 9 → m < n → (f = -1 ∨ (0 ≤ f ∧ f < c ∧ rg (rv S 266) f.toNat ≠ 0)) → smS (rv S 266) c m f ≠ -1 → lX12_ring N n (Int32.ofInt z) (Int32.ofInt f) (Int32.ofInt (c : Int)) S = some (Int32.ofInt (if z = 0 then smS (rv S 266) c m f else (rg (rv S 266) (smS (rv S 266) c m f).toNat : Nat)))
  | 0, n + 1, c, f, hm, _, hf, hne => by
    have hne : f ≠ -1 := hne
    have hf := hf.resolve_left hne
    obtain ⟨k, rfl⟩ := Int.eq_ofNat_of_zero_le hf.1
    rw [lX12_ring]
    refine h_pos (by first | omega | ((simp (disch := omega) only [i0, i1, i_lt, i_le, i_eq, i_add, i_sub, i_mul, i_neg, i_ofNat, i_rem, i_div, w_in, w_in2, w_cnt, w_cnt2, z01, z01', il, li, lc_ge, lc_le, lc_gt, lc_lt, lc_eq, l_ofNat, l0, l_eq, l_lt, l_le]) <;> omega)) ?_
    show _ = some (Int32.ofInt (if z = 0 then (k : Int) else (rg (rv S 266) (k : Int).toNat : Nat)))
    rcases hz with rfl | rfl
    · exact h_pos rfl rfl
    · refine h_neg (by decide) ?_
      refine h_bind (r_ringF h hN (by omega)) ?_
      rw [Int.toNat_natCast] at hf ⊢
      rw [if_neg hf.2.2]
      rfl
  | m + 1, n + 1, c, f, hm, hn, hf, hne => by
    have hl := rg_le (rv S 266) c
    have hl2 := rg_le (rv S 266) f.toNat
    unfold smS at hne ⊢
    rw [lX12_ring]
    refine h_neg (by first | omega | ((simp (disch := omega) only [i0, i1, i_lt, i_le, i_eq, i_add, i_sub, i_mul, i_neg, i_ofNat, i_rem, i_div, w_in, w_in2, w_cnt, w_cnt2, z01, z01', il, li, lc_ge, lc_le, lc_gt, lc_lt, lc_eq, l_ofNat, l0, l_eq, l_lt, l_le]) <;> omega)) ?_
    refine h_bind (r_ringF h hN (by omega)) ?_
    rw [i_add, show (c : Int) + 1 = ((c + 1 : Nat) : Int) by omega]
    by_cases h0 : rg (rv S 266) c = 0
    · rw [if_pos h0] at hne ⊢
      rw [if_pos h0]
      refine h_pos rfl (r_small h hN hz m n (c + 1) f (by omega) (by omega) ?_ hne)
      rcases hf with e | e
      · exact Or.inl e
      · exact Or.inr ⟨e.1, by omega, e.2.2⟩
    · rw [if_neg h0] at hne ⊢
      rw [if_neg h0]
      refine h_neg (by first | omega | ((simp (disch := omega) only [i0, i1, i_lt, i_le, i_eq, i_add, i_sub, i_mul, i_neg, i_ofNat, i_rem, i_div, w_in, w_in2, w_cnt, w_cnt2, z01, z01', il, li, lc_ge, lc_le, lc_gt, lc_lt, lc_eq, l_ofNat, l0, l_eq, l_lt, l_le]) <;> omega)) ?_
      by_cases h1 : f = -1
      · rw [if_pos h1] at hne ⊢
        refine h_pos (by first | omega | ((simp (disch := omega) only [i0, i1, i_lt, i_le, i_eq, i_add, i_sub, i_mul, i_neg, i_ofNat, i_rem, i_div, w_in, w_in2, w_cnt, w_cnt2, z01, z01', il, li, lc_ge, lc_le, lc_gt, lc_lt, lc_eq, l_ofNat, l0, l_eq, l_lt, l_le]) <;> omega)) ?_
        exact r_small h hN hz m n (c + 1) (c : Int) (by omega) (by omega) (Or.inr ⟨by omega, by omega, by rw [Int.toNat_natCast]; exact h0⟩) hne
      · have hf := hf.resolve_left h1
        rw [if_neg h1] at hne ⊢
        refine h_neg (by first | omega | ((simp (disch := omega) only [i0, i1, i_lt, i_le, i_eq, i_add, i_sub, i_mul, i_neg, i_ofNat, i_rem, i_div, w_in, w_in2, w_cnt, w_cnt2, z01, z01', il, li, lc_ge, lc_le, lc_gt, lc_lt, lc_eq, l_ofNat, l0, l_eq, l_lt, l_le]) <;> omega)) ?_
        obtain ⟨k, rfl⟩ := Int.eq_ofNat_of_zero_le hf.1
        rw [Int.toNat_natCast] at hf hl2 hne ⊢
        refine h_bind (r_ringF h hN (by omega)) (h_bind (r_ringF h hN (by omega)) ?_)
        rw [if_neg h0, if_neg hf.2.2]
        by_cases h2 : rg (rv S 266) k ≤ rg (rv S 266) c
        · rw [if_pos h2] at hne ⊢
          exact h_pos (by first | omega | ((simp (disch := omega) only [i0, i1, i_lt, i_le, i_eq, i_add, i_sub, i_mul, i_neg, i_ofNat, i_rem, i_div, w_in, w_in2, w_cnt, w_cnt2, z01, z01', il, li, lc_ge, lc_le, lc_gt, lc_lt, lc_eq, l_ofNat, l0, l_eq, l_lt, l_le]) <;> omega)) (r_small h hN hz m n (c + 1) (k : Int) (by omega) (by omega) (Or.inr ⟨by omega, by omega, by rw [Int.toNat_natCast]; exact hf.2.2⟩) hne)
        · rw [if_neg h2] at hne ⊢
          exact h_neg (by first | omega | ((simp (disch := omega) only [i0, i1, i_lt, i_le, i_eq, i_add, i_sub, i_mul, i_neg, i_ofNat, i_rem, i_div, w_in, w_in2, w_cnt, w_cnt2, z01, z01', il, li, lc_ge, lc_le, lc_gt, lc_lt, lc_eq, l_ofNat, l0, l_eq, l_lt, l_le]) <;> omega)) (r_small h hN hz m n (c + 1) (c : Int) (by omega) (by omega) (Or.inr ⟨by omega, by omega, by rw [Int.toNat_natCast]; exact h0⟩) hne)
theorem pm_ring (h : Rel T S) {N : Nat} (hN : 2000000 ≤ N) (v0 : Int32) (hv : v0 = Int32.ofInt 0 ∨ v0 = Int32.ofInt 1) : PM0 S (fX11_ring N v0) (fX12_ring N v0) := by
  have hs := smS_rng (rv S 266) 9 0 (-1) (Or.inl rfl)
  have hne : smS (rv S 266) 0 9 (-1) ≠ -1 := by
    intro e
    obtain ⟨k, hk, hk2⟩ := rg_ex h (show 0 < 9 by omega)
    have hl := itN_lt h k 0 (by omega)
    exact hk2 ((hs.1 e).2 _ (by omega) (by omega))
  have hs2 := hs.2.resolve_left hne
  have c1 := c_small h hN 9 N 0 (-1) (by omega) (by omega) (Or.inl rfl)
  rw [if_pos rfl, if_pos rfl, if_neg hne] at c1
  have ra := r_small h hN (z := 0) (Or.inl rfl) 9 N 0 (-1) (by omega) (by omega) (Or.inl rfl) hne
  have rb := r_small h hN (z := 1) (Or.inr rfl) 9 N 0 (-1) (by omega) (by omega) (Or.inl rfl) hne
  generalize smS (rv S 266) 0 9 (-1) = f at *
  obtain ⟨k, rfl⟩ := Int.eq_ofNat_of_zero_le hs2.1
  unfold PM0 fX11_ring
  rcases hv with rfl | rfl
  · exact ⟨_, h_bind c1 (h_pos rfl rfl), ra⟩
  · refine ⟨_, h_bind c1 (h_neg (by decide) (h_bind (c_sizeF h hN (by omega)) rfl)), ?_⟩
    rw [if_neg (by omega), Int.toNat_natCast] at rb
    exact rb
/-- how far to a ring -/
def tlS (A : Nat → Int) (c : Nat) : Nat → Nat → Nat
  | k, 0 => k
  | k, m + 1 => if rg A (itN A c k) = 0 then tlS A c (k + 1) m else k
theorem tlS_rng (A : Nat → Int) (c : Nat) : ∀ m k kz, k ≤ kz → kz < k + m → rg A (itN A c kz) ≠ 0 → tlS A c k m ≤ kz ∧ rg A (itN A c (tlS A c k m)) ≠ 0
  | 0, k, kz, h1, h2, _ => by omega
  | m + 1, k, kz, h1, h2, h3 => by
    unfold tlS
    by_cases h0 : rg A (itN A c k) = 0
    · rw [if_pos h0]
      have : kz ≠ k := fun e => h3 (e ▸ h0)
      exact tlS_rng A c m (k + 1) kz (by omega) (by omega) h3
    · rw [if_neg h0]
      exact ⟨h1, h0⟩
theorem c_till (h : Rel T S) {N : Nat} (hN : 2000000 ≤ N) {c : Nat} (hc : c < 9) : ∀ (m n k : Nat), k + m = 9 → m < n → lX6_stepsToRing N n (Int32.ofInt (itN (rv S 266) c k : Nat)) (Int32.ofInt (k : Int)) S = some (Int32.ofInt (tlS (rv S 266) c k m : Nat))
  | 0, n + 1, k, hm, _ => by
    rw [lX6_stepsToRing]
    exact h_pos (by first | omega | ((simp (disch := omega) only [i0, i1, i_lt, i_le, i_eq, i_add, i_sub, i_mul, i_neg, i_ofNat, i_rem, i_div, w_in, w_in2, w_cnt, w_cnt2, z01, z01', il, li, lc_ge, lc_le, lc_gt, lc_lt, lc_eq, l_ofNat, l0, l_eq, l_lt, l_le]) <;> omega)) rfl
  | m + 1, n + 1, k, hm, hn => by
    have hl := itN_lt h k c hc
    have hg := rg_le (rv S 266) (itN (rv S 266) c k)
    rw [lX6_stepsToRing]
    refine h_neg (by first | omega | ((simp (disch := omega) only [i0, i1, i_lt, i_le, i_eq, i_add, i_sub, i_mul, i_neg, i_ofNat, i_rem, i_div, w_in, w_in2, w_cnt, w_cnt2, z01, z01', il, li, lc_ge, lc_le, lc_gt, lc_lt, lc_eq, l_ofNat, l0, l_eq, l_lt, l_le]) <;> omega)) ?_
    refine h_bind (c_sizeF h hN hl) ?_
    unfold tlS
    by_cases h0 : rg (rv S 266) (itN (rv S 266) c k) = 0
    · rw [if_pos h0]
      refine h_neg (by first | omega | ((simp (disch := omega) only [i0, i1, i_lt, i_le, i_eq, i_add, i_sub, i_mul, i_neg, i_ofNat, i_rem, i_div, w_in, w_in2, w_cnt, w_cnt2, z01, z01', il, li, lc_ge, lc_le, lc_gt, lc_lt, lc_eq, l_ofNat, l0, l_eq, l_lt, l_le]) <;> omega)) (h_ainN (by omega) (by omega) ?_)
      have hr := R_nxt h hl
      have e : rv S 266 (78 + itN (rv S 266) c k) = (itN (rv S 266) c (k + 1) : Nat) := by rw [itN_one]; omega
      rw [C_nxt h hl, e, i_add, show (k : Int) + 1 = ((k + 1 : Nat) : Int) by omega]
      exact c_till h hN hc m n (k + 1) (by omega) (by omega)
    · rw [if_neg h0]
      exact h_pos (by first | omega | ((simp (disch := omega) only [i0, i1, i_lt, i_le, i_eq, i_add, i_sub, i_mul, i_neg, i_ofNat, i_rem, i_div, w_in, w_in2, w_cnt, w_cnt2, z01, z01', il, li, lc_ge, lc_le, lc_gt, lc_lt, lc_eq, l_ofNat, l0, l_eq, l_lt, l_le]) <;> omega)) rfl
theorem r_till (h : Rel T S) {N : Nat} (hN : 2000000 ≤ N) {c : Nat} (hc : c < 9) : ∀ (m n k kz : Nat), k + m = 9 → m < n → k ≤ kz → kz < 9 → rg (rv S 266) (itN (rv S 266) c kz) ≠ 0 → lX12_till N n (Int32.ofInt (c : Int)) (Int32.ofInt (k : Int)) S = some (Int32.ofInt (tlS (rv S 266) c k m : Nat))
  | 0, n + 1, k, kz, hm, _, h1, h2, _ => by omega
  | m + 1, n + 1, k, kz, hm, hn, h1, h2, h3 => by
    have hl := itN_lt h k c hc
    have hg := rg_le (rv S 266) (itN (rv S 266) c k)
    rw [lX12_till]
    refine h_bind (r_afterF h hN hc (by omega)) (h_bind (r_ringF h hN hl) ?_)
    unfold tlS
    by_cases h0 : rg (rv S 266) (itN (rv S 266) c k) = 0
    · rw [if_pos h0, if_pos h0, i_add, show (k : Int) + 1 = ((k + 1 : Nat) : Int) by omega]
      have : kz ≠ k := fun e => h3 (e ▸ h0)
      exact h_neg (by decide) (r_till h hN hc m n (k + 1) kz (by omega) (by omega) (by omega) h2 h3)
    · rw [if_neg h0, if_neg h0]
      exact h_pos (by first | omega | ((simp (disch := omega) only [i0, i1, i_lt, i_le, i_eq, i_add, i_sub, i_mul, i_neg, i_ofNat, i_rem, i_div, w_in, w_in2, w_cnt, w_cnt2, z01, z01', il, li, lc_ge, lc_le, lc_gt, lc_lt, lc_eq, l_ofNat, l0, l_eq, l_lt, l_le]) <;> omega)) rfl
theorem pm_till (h : Rel T S) {N : Nat} (hN : 2000000 ≤ N) (v0 : Int32) : PM0 S (fX11_till N v0) (fX12_till N v0) := by
  obtain ⟨a, a1, a2, rfl⟩ := i_ex v0
  unfold PM0 fX11_till fX12_till
  by_cases ha : 0 ≤ a ∧ a ≤ 8
  · obtain ⟨c, rfl⟩ := Int.eq_ofNat_of_zero_le ha.1
    obtain ⟨k, hk, hk2⟩ := rg_ex h (show c < 9 by omega)
    exact ⟨_, h_neg (by first | omega | ((simp (disch := omega) only [i0, i1, i_lt, i_le, i_eq, i_add, i_sub, i_mul, i_neg, i_ofNat, i_rem, i_div, w_in, w_in2, w_cnt, w_cnt2, z01, z01', il, li, lc_ge, lc_le, lc_gt, lc_lt, lc_eq, l_ofNat, l0, l_eq, l_lt, l_le]) <;> omega)) (h_bind (c_till h hN (by omega) 9 N 0 (by omega) (by omega)) rfl), h_pos (by first | omega | ((simp (disch := omega) only [i0, i1, i_lt, i_le, i_eq, i_add, i_sub, i_mul, i_neg, i_ofNat, i_rem, i_div, w_in, w_in2, w_cnt, w_cnt2, z01, z01', il, li, lc_ge, lc_le, lc_gt, lc_lt, lc_eq, l_ofNat, l0, l_eq, l_lt, l_le]) <;> omega)) (r_till h hN (by omega) 9 N 0 k (by omega) (by omega) (by omega) (by omega) hk2)⟩
  · exact ⟨_, h_pos (by first | omega | ((simp (disch := omega) only [i0, i1, i_lt, i_le, i_eq, i_add, i_sub, i_mul, i_neg, i_ofNat, i_rem, i_div, w_in, w_in2, w_cnt, w_cnt2, z01, z01', il, li, lc_ge, lc_le, lc_gt, lc_lt, lc_eq, l_ofNat, l0, l_eq, l_lt, l_le]) <;> omega)) rfl, h_neg (by first | omega | ((simp (disch := omega) only [i0, i1, i_lt, i_le, i_eq, i_add, i_sub, i_mul, i_neg, i_ofNat, i_rem, i_div, w_in, w_in2, w_cnt, w_cnt2, z01, z01', il, li, lc_ge, lc_le, lc_gt, lc_lt, lc_eq, l_ofNat, l0, l_eq, l_lt, l_le]) <;> omega)) rfl⟩
theorem itN_per (A : Nat → Int) {c z : Nat} (hz : itN A c z = c) : ∀ q, itN A c (z * q) = c
  | 0 => rfl
  | q + 1 => by
    rw [Nat.mul_succ, itN_add, itN_per A hz q]; exact hz
theorem pm_after (h : Rel T S) {N : Nat} (hN : 2000000 ≤ N) (v0 v1 : Int32) : PM0 S (fX11_after N v0 v1) (fX12_after N v0 v1) := by
  obtain ⟨a, a1, a2, rfl⟩ := i_ex v0
  obtain ⟨b, b1, b2, rfl⟩ := i_ex v1
  unfold PM0 fX11_after fX12_after
  by_cases ha : 0 ≤ a ∧ a ≤ 8
  · by_cases hb : 0 ≤ b ∧ b ≤ 1000000
    · obtain ⟨c, rfl⟩ := Int.eq_ofNat_of_zero_le ha.1
      obtain ⟨n, rfl⟩ := Int.eq_ofNat_of_zero_le hb.1
      have hc : c < 9 := by omega
      refine ⟨Int32.ofInt (itN (rv S 266) c n : Nat), ?_, h_neg (by first | omega | ((simp (disch := omega) only [i0, i1, i_lt, i_le, i_eq, i_add, i_sub, i_mul, i_neg, i_ofNat, i_rem, i_div, w_in, w_in2, w_cnt, w_cnt2, z01, z01', il, li, lc_ge, lc_le, lc_gt, lc_lt, lc_eq, l_ofNat, l0, l_eq, l_lt, l_le]) <;> omega)) (h_neg (by first | omega | ((simp (disch := omega) only [i0, i1, i_lt, i_le, i_eq, i_add, i_sub, i_mul, i_neg, i_ofNat, i_rem, i_div, w_in, w_in2, w_cnt, w_cnt2, z01, z01', il, li, lc_ge, lc_le, lc_gt, lc_lt, lc_eq, l_ofNat, l0, l_eq, l_lt, l_le]) <;> omega)) (h_bind (r_afterF h hN hc (by omega)) rfl))⟩
      refine h_neg (by first | omega | ((simp (disch := omega) only [i0, i1, i_lt, i_le, i_eq, i_add, i_sub, i_mul, i_neg, i_ofNat, i_rem, i_div, w_in, w_in2, w_cnt, w_cnt2, z01, z01', il, li, lc_ge, lc_le, lc_gt, lc_lt, lc_eq, l_ofNat, l0, l_eq, l_lt, l_le]) <;> omega)) (h_neg (by first | omega | ((simp (disch := omega) only [i0, i1, i_lt, i_le, i_eq, i_add, i_sub, i_mul, i_neg, i_ofNat, i_rem, i_div, w_in, w_in2, w_cnt, w_cnt2, z01, z01', il, li, lc_ge, lc_le, lc_gt, lc_lt, lc_eq, l_ofNat, l0, l_eq, l_lt, l_le]) <;> omega)) (h_bind (v := Int32.ofInt (itN (rv S 266) c n : Nat)) ?_ rfl))
      unfold fX6_behind fX6_stepsToRing
      obtain ⟨k, hk, hk2⟩ := rg_ex h hc
      have ht := tlS_rng (rv S 266) c 9 0 k (by omega) (by omega) hk2
      refine h_bind (c_till h hN hc 9 N 0 (by omega) (by omega)) ?_
      generalize tlS (rv S 266) c 0 9 = t at *
      by_cases hn : n ≤ t
      · refine h_pos (by first | omega | ((simp (disch := omega) only [i0, i1, i_lt, i_le, i_eq, i_add, i_sub, i_mul, i_neg, i_ofNat, i_rem, i_div, w_in, w_in2, w_cnt, w_cnt2, z01, z01', il, li, lc_ge, lc_le, lc_gt, lc_lt, lc_eq, l_ofNat, l0, l_eq, l_lt, l_le]) <;> omega)) ?_
        exact h_bind (c_walkF h hN hc (by omega)) rfl
      · refine h_neg (by first | omega | ((simp (disch := omega) only [i0, i1, i_lt, i_le, i_eq, i_add, i_sub, i_mul, i_neg, i_ofNat, i_rem, i_div, w_in, w_in2, w_cnt, w_cnt2, z01, z01', il, li, lc_ge, lc_le, lc_gt, lc_lt, lc_eq, l_ofNat, l0, l_eq, l_lt, l_le]) <;> omega)) ?_
        have hl := itN_lt h t c hc
        refine h_bind (c_walkF h hN hc (by omega)) (h_bind (c_sizeF h hN hl) ?_)
        have hg := rg_le (rv S 266) (itN (rv S 266) c t)
        have hz := rgL_rng (rv S 266) (itN (rv S 266) c t) 9 1 (by omega)
        have hz : itN (rv S 266) (itN (rv S 266) c t) (rg (rv S 266) (itN (rv S 266) c t)) = itN (rv S 266) c t := (hz.resolve_left ht.2).2.2
        have ht2 := ht.2
        generalize hzz : rg (rv S 266) (itN (rv S 266) c t) = z at *
        refine h_neg (by first | omega | ((simp (disch := omega) only [i0, i1, i_lt, i_le, i_eq, i_add, i_sub, i_mul, i_neg, i_ofNat, i_rem, i_div, w_in, w_in2, w_cnt, w_cnt2, z01, z01', il, li, lc_ge, lc_le, lc_gt, lc_lt, lc_eq, l_ofNat, l0, l_eq, l_lt, l_le]) <;> omega)) (h_neg (by first | omega | ((simp (disch := omega) only [i0, i1, i_lt, i_le, i_eq, i_add, i_sub, i_mul, i_neg, i_ofNat, i_rem, i_div, w_in, w_in2, w_cnt, w_cnt2, z01, z01', il, li, lc_ge, lc_le, lc_gt, lc_lt, lc_eq, l_ofNat, l0, l_eq, l_lt, l_le]) <;> omega)) (h_pst ?_))
        have hmod := Nat.mod_lt (n - t) (show 0 < z by omega)
        have hmod2 : (n - t) % z ≤ n - t := Nat.mod_le _ _
        have e : Int32.ofInt (t : Int) + (Int32.ofInt (n : Int) - Int32.ofInt (t : Int) - (Int32.ofInt (n : Int) - Int32.ofInt (t : Int)) / Int32.ofInt (z : Int) * Int32.ofInt (z : Int)) = Int32.ofInt ((t + (n - t) % z : Nat) : Int) := by
          rw [i_sub, i_rem (by omega) (by omega) (by omega) (by omega), i_add]
          congr 1
          rw [show (n : Int) - (t : Int) = ((n - t : Nat) : Int) by omega]
          omega
        rw [e]
        refine h_bind (c_walkF h hN hc (by omega)) ?_
        congr 3
        rw [itN_add]
        have hd := Nat.mod_add_div (n - t) z
        conv => rhs; rw [show n = t + (z * ((n - t) / z) + (n - t) % z) by omega]
        rw [itN_add, itN_add, itN_per _ hz]
    · exact ⟨_, h_neg (by first | omega | ((simp (disch := omega) only [i0, i1, i_lt, i_le, i_eq, i_add, i_sub, i_mul, i_neg, i_ofNat, i_rem, i_div, w_in, w_in2, w_cnt, w_cnt2, z01, z01', il, li, lc_ge, lc_le, lc_gt, lc_lt, lc_eq, l_ofNat, l0, l_eq, l_lt, l_le]) <;> omega)) (h_pos (by first | omega | ((simp (disch := omega) only [i0, i1, i_lt, i_le, i_eq, i_add, i_sub, i_mul, i_neg, i_ofNat, i_rem, i_div, w_in, w_in2, w_cnt, w_cnt2, z01, z01', il, li, lc_ge, lc_le, lc_gt, lc_lt, lc_eq, l_ofNat, l0, l_eq, l_lt, l_le]) <;> omega)) rfl), h_neg (by first | omega | ((simp (disch := omega) only [i0, i1, i_lt, i_le, i_eq, i_add, i_sub, i_mul, i_neg, i_ofNat, i_rem, i_div, w_in, w_in2, w_cnt, w_cnt2, z01, z01', il, li, lc_ge, lc_le, lc_gt, lc_lt, lc_eq, l_ofNat, l0, l_eq, l_lt, l_le]) <;> omega)) (h_pos (by first | omega | ((simp (disch := omega) only [i0, i1, i_lt, i_le, i_eq, i_add, i_sub, i_mul, i_neg, i_ofNat, i_rem, i_div, w_in, w_in2, w_cnt, w_cnt2, z01, z01', il, li, lc_ge, lc_le, lc_gt, lc_lt, lc_eq, l_ofNat, l0, l_eq, l_lt, l_le]) <;> omega)) rfl)⟩
  · exact ⟨_, h_pos (by first | omega | ((simp (disch := omega) only [i0, i1, i_lt, i_le, i_eq, i_add, i_sub, i_mul, i_neg, i_ofNat, i_rem, i_div, w_in, w_in2, w_cnt, w_cnt2, z01, z01', il, li, lc_ge, lc_le, lc_gt, lc_lt, lc_eq, l_ofNat, l0, l_eq, l_lt, l_le]) <;> omega)) rfl, h_pos (by first | omega | ((simp (disch := omega) only [i0, i1, i_lt, i_le, i_eq, i_add, i_sub, i_mul, i_neg, i_ofNat, i_rem, i_div, w_in, w_in2, w_cnt, w_cnt2, z01, z01', il, li, lc_ge, lc_le, lc_gt, lc_lt, lc_eq, l_ofNat, l0, l_eq, l_lt, l_le]) <;> omega)) rfl⟩
end PMS
