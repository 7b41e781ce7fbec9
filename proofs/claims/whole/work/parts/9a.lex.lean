/-! ===== tokens: a pure reading of the tape; the class's scan ===== -/
def lxL (c : Int) : Bool := decide ((97 ≤ c ∧ c ≤ 122) ∨ (65 ≤ c ∧ c ≤ 90))
def lxD (c : Int) : Bool := decide (48 ≤ c ∧ c ≤ 57)
def lxS (c : Int) : Bool := decide (c = 32 ∨ c = 10)
/-- how far a run of such bytes goes -/
def lxR (p : Int → Bool) (f : Nat → Int) : Nat → Nat → Nat
  | 0, a => a
  | r + 1, a => if p (f a) = true then lxR p f r (a + 1) else a
def lxV (f : Nat → Int) : Nat → Nat → Int → Int
  | 0, _, v => v
  | r + 1, a, v => if lxD (f a) = true then lxV f r (a + 1) (min 10000 (v * 10 + f a - 48)) else v
def sgI (c : Int) : Int := if c = 60 then 0 else if c = 62 then 1 else if c = 61 then 2 else if c = 35 then 3 else if c = 43 then 4 else if c = 45 then 5 else if c = 42 then 6 else if c = 47 then 7 else if c = 40 then 8 else if c = 41 then 9 else if c = 59 then 10 else -1
def kwM (f : Nat → Int) (a z w : Nat) : Bool := decide (z ≤ 6 ∧ (∀ j, j < z → xBy0.getD (w * 6 + j) 0 = Int32.ofInt (f (a + j))) ∧ (z = 6 ∨ xBy0.getD (w * 6 + z) 0 = Int32.ofInt 32))
def kwF (f : Nat → Int) (a z : Nat) : Nat → Nat → Int
  | 0, _ => 39
  | r + 1, w => if kwM f a z w = true then (w : Int) else kwF f a z r (w + 1)
/-- the token at a byte: kind, value, where the next byte is -/
def tkA (f : Nat → Int) (n a : Nat) : Int × Int × Nat := if lxL (f a) = true then (kwF f a (lxR lxL f (n - a) a - a) 25 0, 0, lxR lxL f (n - a) a) else if lxD (f a) = true then (38, lxV f (n - a - 1) (a + 1) (f a - 48), lxR lxD f (n - a) a) else if sgI (f a) < 0 then (39, 0, a + 1) else if sgI (f a) ≤ 1 ∧ a + 1 < n ∧ f (a + 1) = 61 then (sgI (f a) + 36, 0, a + 2) else (sgI (f a) + 25, 0, a + 1)
def skA (f : Nat → Int) (n a : Nat) : Nat := lxR lxS f (n - a) a
def psT (f : Nat → Int) (n : Nat) : Nat → Nat
  | 0 => skA f n 0
  | k + 1 => skA f n (if psT f n k < n then (tkA f n (psT f n k)).2.2 else n)
def kdT (f : Nat → Int) (n k : Nat) : Int := if psT f n k < n then (tkA f n (psT f n k)).1 else 40
def vlT (f : Nat → Int) (n k : Nat) : Int := if psT f n k < n then (tkA f n (psT f n k)).2.1 else 0
def byG (f : Nat → Int) (n : Nat) : Prop := ∀ k, k < n → 0 ≤ f k ∧ f k ≤ 255
theorem lxR_ge {p : Int → Bool} {f : Nat → Int} : ∀ r a, a ≤ lxR p f r a ∧ lxR p f r a ≤ a + r
  | 0, a => ⟨Nat.le_refl _, Nat.le_refl _⟩
  | r + 1, a => by
    have := lxR_ge (p := p) (f := f) r (a + 1)
    unfold lxR
    split <;> omega
theorem lxR_end {p : Int → Bool} {f : Nat → Int} : ∀ r a, lxR p f r a = a + r ∨ p (f (lxR p f r a)) = false
  | 0, a => Or.inl rfl
  | r + 1, a => by
    unfold lxR
    by_cases h : p (f a) = true
    · rw [if_pos h]
      rcases lxR_end (p := p) (f := f) r (a + 1) with e | e
      · left; omega
      · exact Or.inr e
    · rw [if_neg h]
      right
      cases hp : p (f a) with
      | true => exact absurd hp h
      | false => rfl
theorem lxR_in {p : Int → Bool} {f : Nat → Int} : ∀ r a k, a ≤ k → k < lxR p f r a → p (f k) = true
  | 0, a, k, h1, h2 => by
    have h2 : k < a := h2
    omega
  | r + 1, a, k, h1, h2 => by
    unfold lxR at h2
    by_cases h : p (f a) = true
    · rw [if_pos h] at h2
      by_cases e : k = a
      · rw [e]; exact h
      · exact lxR_in r (a + 1) k (by omega) h2
    · rw [if_neg h] at h2
      omega
theorem lxR_1 {p : Int → Bool} {f : Nat → Int} {n a : Nat} (ha : a < n) (hp : p (f a) = true) : lxR p f (n - a) a = lxR p f (n - (a + 1)) (a + 1) := by
  rw [show n - a = (n - (a + 1)) + 1 by omega]
  show (if p (f a) = true then lxR p f (n - (a + 1)) (a + 1) else a) = _
  rw [if_pos hp]
theorem lxR_no {p : Int → Bool} {f : Nat → Int} {r a : Nat} (hp : p (f a) = false) : lxR p f r a = a := by
  cases r with
  | zero => rfl
  | succ r =>
    show (if p (f a) = true then lxR p f r (a + 1) else a) = _
    rw [hp]
    rfl
theorem skA_n {f : Nat → Int} {n : Nat} : skA f n n = n := by
  unfold skA
  rw [Nat.sub_self]
  rfl
theorem skA_sp {f : Nat → Int} {n a : Nat} (ha : a < n) (hp : lxS (f a) = true) : skA f n a = skA f n (a + 1) := lxR_1 ha hp
theorem skA_no {f : Nat → Int} {n a : Nat} (hp : lxS (f a) = false) : skA f n a = a := lxR_no hp
theorem skA_le {f : Nat → Int} {n a : Nat} (ha : a ≤ n) : a ≤ skA f n a ∧ skA f n a ≤ n := by
  have := lxR_ge (p := lxS) (f := f) (n - a) a
  unfold skA
  omega
theorem skA_ns {f : Nat → Int} {n a : Nat} (ha : a ≤ n) (h : skA f n a < n) : lxS (f (skA f n a)) = false := by
  rcases lxR_end (p := lxS) (f := f) (n - a) a with e | e
  · unfold skA at h; omega
  · exact e
theorem tkA_nx {f : Nat → Int} {n a : Nat} (ha : a < n) : a < (tkA f n a).2.2 ∧ (tkA f n a).2.2 ≤ n := by
  unfold tkA
  have h1 := lxR_ge (p := lxL) (f := f) (n - (a + 1)) (a + 1)
  have h2 := lxR_ge (p := lxD) (f := f) (n - (a + 1)) (a + 1)
  split
  · rename_i h
    dsimp only
    rw [lxR_1 ha h]
    omega
  · split
    · rename_i h
      dsimp only
      rw [lxR_1 ha h]
      omega
    · split
      · dsimp only; omega
      · split
        · dsimp only; omega
        · dsimp only; omega
theorem psT_le {f : Nat → Int} {n : Nat} : ∀ k, psT f n k ≤ n
  | 0 => (skA_le (by omega)).2
  | k + 1 => by
    show skA f n _ ≤ n
    by_cases h : psT f n k < n
    · rw [if_pos h]; exact (skA_le (tkA_nx h).2).2
    · rw [if_neg h, skA_n]; exact Nat.le_refl _
theorem psT_ns {f : Nat → Int} {n : Nat} : ∀ k, psT f n k < n → lxS (f (psT f n k)) = false
  | 0, h => skA_ns (a := 0) (by omega) h
  | k + 1, h => by
    by_cases q : psT f n k < n
    · have e : psT f n (k + 1) = skA f n (tkA f n (psT f n k)).2.2 := by show skA f n _ = _; rw [if_pos q]
      rw [e] at h ⊢
      exact skA_ns (tkA_nx q).2 h
    · have e : psT f n (k + 1) = n := by show skA f n _ = _; rw [if_neg q, skA_n]
      omega
theorem lxV_rng {f : Nat → Int} {n : Nat} : ∀ r a v, 0 ≤ v ∧ v ≤ 10000 → 0 ≤ lxV f r a v ∧ lxV f r a v ≤ 10000
  | 0, a, v, h => h
  | r + 1, a, v, h => by
    unfold lxV
    by_cases q : lxD (f a) = true
    · rw [if_pos q]
      have := of_decide_eq_true q
      exact lxV_rng (n := n) r (a + 1) _ (by omega)
    · rw [if_neg q]; exact h
theorem kwF_rng {f : Nat → Int} {a z : Nat} : ∀ r w, w + r = 25 → 0 ≤ kwF f a z r w ∧ kwF f a z r w ≤ 39 ∧ (kwF f a z r w < 25 ∨ kwF f a z r w = 39)
  | 0, w, h => by show 0 ≤ (39 : Int) ∧ (39 : Int) ≤ 39 ∧ _; exact ⟨by omega, by omega, Or.inr rfl⟩
  | r + 1, w, h => by
    unfold kwF
    split
    · omega
    · exact kwF_rng r (w + 1) (by omega)
theorem sgI_rng (c : Int) : -1 ≤ sgI c ∧ sgI c ≤ 10 := by
  unfold sgI
  repeat' split
  all_goals omega
/-- what a token may be -/
theorem tkA_rng {f : Nat → Int} {n a : Nat} : 0 ≤ (tkA f n a).1 ∧ (tkA f n a).1 ≤ 39 ∧ 0 ≤ (tkA f n a).2.1 ∧ (tkA f n a).2.1 ≤ 10000 := by
  have hs := sgI_rng (f a)
  unfold tkA
  split
  · have := kwF_rng (f := f) (a := a) (z := lxR lxL f (n - a) a - a) 25 0 (by omega)
    dsimp only; omega
  · split
    · rename_i h
      have := of_decide_eq_true h
      have := lxV_rng (f := f) (n := n) (n - a - 1) (a + 1) (f a - 48) (by omega)
      dsimp only; omega
    · split
      · dsimp only; omega
      · split
        · dsimp only; omega
        · dsimp only; omega
theorem kdT_rng {f : Nat → Int} {n : Nat} (k : Nat) : 0 ≤ kdT f n k ∧ kdT f n k ≤ 40 ∧ (kdT f n k = 40 ↔ ¬ psT f n k < n) ∧ 0 ≤ vlT f n k ∧ vlT f n k ≤ 10000 := by
  have := tkA_rng (f := f) (n := n) (a := psT f n k)
  unfold kdT vlT
  by_cases h : psT f n k < n
  · rw [if_pos h, if_pos h]; omega
  · rw [if_neg h, if_neg h]; omega
/-! the class's scan -/
theorem c_isL {c : Int} (h : 0 ≤ c ∧ c ≤ 255) : fX9_isLetter (Int32.ofInt c) = Int32.ofInt (if lxL c = true then 1 else 0) := by
  unfold fX9_isLetter lxL
  rw [w_in (by omega) (by omega) (by omega) (by omega) (by omega) (by omega), w_in (by omega) (by omega) (by omega) (by omega) (by omega) (by omega)]
  by_cases h1 : 97 ≤ c ∧ c ≤ 122
  · rw [decide_eq_true (Or.inl h1), if_pos h1]; rfl
  · by_cases h2 : 65 ≤ c ∧ c ≤ 90
    · rw [decide_eq_true (Or.inr h2), if_neg h1, if_pos h2]; rfl
    · rw [decide_eq_false (by omega), if_neg h1, if_neg h2]; rfl
theorem c_isD {c : Int} (h : 0 ≤ c ∧ c ≤ 255) : fX9_isDigit (Int32.ofInt c) = Int32.ofInt (if lxD c = true then 1 else 0) := by
  unfold fX9_isDigit lxD
  rw [w_in (by omega) (by omega) (by omega) (by omega) (by omega) (by omega)]
  by_cases h1 : 48 ≤ c ∧ c ≤ 57
  · rw [decide_eq_true h1, if_pos h1]; rfl
  · rw [decide_eq_false h1, if_neg h1]; rfl
theorem c_sgn : ∀ c : Nat, c < 256 → fSgn (Int32.toUInt32 (Int32.ofInt (c : Int)) % 65536).toInt32 = some (Int32.ofInt (sgI (c : Int))) := by decide +kernel
def pQ (S : yS) (g1 g2 g3 : Nat → Int32) (t : Nat) : yS := ySi (ySa (ySa (ySa S 253 g1) 254 g2) 255 g3) 251 5 (Int32.ofInt (t : Int))
theorem pQ_n (S : yS) (g1 g2 g3 : Nat → Int32) (t : Nat) : (pQ S g1 g2 g3 t).1 251 5 = Int32.ofInt (t : Int) := fld_at
theorem pQ_1 (S : yS) (g1 g2 g3 : Nat → Int32) (t : Nat) : (pQ S g1 g2 g3 t).1 251 1 = S.1 251 1 := by unfold pQ; rw [fld_ne (by omega)]; rfl
theorem pQ_f (S : yS) (g1 g2 g3 : Nat → Int32) (t : Nat) : (pQ S g1 g2 g3 t).2.2.1 252 = S.2.2.1 252 := by unfold pQ; rw [ySi_2, ySa_ne _ _ (by omega), ySa_ne _ _ (by omega), ySa_ne _ _ (by omega)]
theorem ySa_sw (S : yS) {a b : Nat} (h : a ≠ b) (f g : Nat → Int32) : ySa (ySa S a f) b g = ySa (ySa S b g) a f := by
  unfold ySa
  congr 3
  funext i
  unfold yU
  dsimp only
  by_cases q1 : i = b
  · rw [if_pos q1, if_neg (by omega), if_pos q1]
  · rw [if_neg q1]
    by_cases q2 : i = a
    · rw [if_pos q2, if_pos q2]
    · rw [if_neg q2, if_neg q2, if_neg q1]
theorem ySi_ySa (S : yS) (i k a : Nat) (v : Int32) (f : Nat → Int32) : ySa (ySi S i k v) a f = ySi (ySa S a f) i k v := rfl
theorem c_put {S : yS} {g1 g2 g3 : Nat → Int32} {t : Nat} (ht : t < 301) (a b c : Int32) : fX9_put a b c (pQ S g1 g2 g3 t) = some (pQ S (upd g1 t a) (upd g2 t b) (upd g3 t c) (t + 1)) := by
  have e1 : (pQ S g1 g2 g3 t).2.2.1 253 = g1 := by unfold pQ; rw [ySi_2, ySa_ne _ _ (by omega), ySa_ne _ _ (by omega), ySa_at]
  have e2 : (pQ S g1 g2 g3 t).2.2.1 254 = g2 := by unfold pQ; rw [ySi_2, ySa_ne _ _ (by omega), ySa_at]
  have e3 : (pQ S g1 g2 g3 t).2.2.1 255 = g3 := by unfold pQ; rw [ySi_2, ySa_at]
  unfold fX9_put
  rw [pQ_n, i_ofNat]
  refine h_neg (by first | omega | ((simp (disch := omega) only [i0, i1, i_lt, i_le, i_eq, i_add, i_sub, i_mul, i_neg, i_ofNat, i_rem, i_div, w_in, w_in2, w_cnt, w_cnt2, z01, z01', il, li, lc_ge, lc_le, lc_gt, lc_lt, lc_eq, l_ofNat, l0, l_eq, l_lt, l_le]) <;> omega)) (h_ainN ht (by omega) (h_pst ?_))
  rw [ySa_1, pQ_n, e1]
  refine h_ainN ht (by omega) (h_pst ?_)
  rw [ySa_1, ySa_1, pQ_n, ySa_ne _ _ (by omega), e2]
  refine h_ainN ht (by omega) (h_pst (h_pst ?_))
  rw [ySa_1, ySa_1, ySa_1, pQ_n, ySa_ne _ _ (by omega), ySa_ne _ _ (by omega), e3, i_add, show (t : Int) + 1 = ((t + 1 : Nat) : Int) by omega]
  unfold pQ
  rw [ySi_ySa, ySi_ySa, ySi_ySa, ySi_ySi]
  rw [ySa_sw (ySa (ySa S 253 g1) 254 g2) (show 255 ≠ 253 by omega), ySa_sw (ySa S 253 g1) (show 254 ≠ 253 by omega), ySa_ySa, ySa_sw (ySa (ySa S 253 (upd g1 t a)) 254 g2) (show 255 ≠ 254 by omega), ySa_ySa, ySa_ySa]
section SCN
variable {S : yS} {f : Nat → Int} {n N : Nat} {g1 g2 g3 : Nat → Int32} {t : Nat}
def scG (S : yS) (f : Nat → Int) (n : Nat) : Prop := n ≤ 300 ∧ S.1 251 1 = Int32.ofInt (n : Int) ∧ (∀ k, k < n → S.2.2.1 252 k = Int32.ofInt (f k)) ∧ byG f n
theorem c_numL (h : scG S f n) (ht : t < 301) {a : Nat} : ∀ (r fu b : Nat) (v : Int), b + r = n → r < fu → 0 ≤ v ∧ v ≤ 10000 → lX9_scanNumber N fu (Int32.ofInt (a : Int)) (Int32.ofInt v) (Int32.ofInt (b : Int)) (pQ S g1 g2 g3 t) = some (Int32.ofInt ((lxR lxD f r b : Nat) : Int) - Int32.ofInt (a : Int), pQ S (upd g1 t (Int32.ofInt 38)) (upd g2 t (Int32.ofInt (a : Int))) (upd g3 t (Int32.ofInt (lxV f r b v))) (t + 1))
  | 0, fu + 1, b, v, hb, hf, hv => by
    have h1 := h.1
    rw [lX9_scanNumber, pQ_1, h.2.1]
    exact h_pos (by first | omega | ((simp (disch := omega) only [i0, i1, i_lt, i_le, i_eq, i_add, i_sub, i_mul, i_neg, i_ofNat, i_rem, i_div, w_in, w_in2, w_cnt, w_cnt2, z01, z01', il, li, lc_ge, lc_le, lc_gt, lc_lt, lc_eq, l_ofNat, l0, l_eq, l_lt, l_le]) <;> omega)) (h_bind (c_put ht _ _ _) rfl)
  | r + 1, fu + 1, b, v, hb, hf, hv => by
    have h1 := h.1
    have hb2 := h.2.2.2 b (by omega)
    rw [lX9_scanNumber, pQ_1, pQ_f, h.2.1]
    refine h_neg (by first | omega | ((simp (disch := omega) only [i0, i1, i_lt, i_le, i_eq, i_add, i_sub, i_mul, i_neg, i_ofNat, i_rem, i_div, w_in, w_in2, w_cnt, w_cnt2, z01, z01', il, li, lc_ge, lc_le, lc_gt, lc_lt, lc_eq, l_ofNat, l0, l_eq, l_lt, l_le]) <;> omega)) (h_ainN (by omega) (by omega) ?_)
    rw [h.2.2.1 b (by omega), c_isD hb2]
    unfold lxR lxV
    by_cases q : lxD (f b) = true
    · have hq := of_decide_eq_true q
      simp only [if_pos q]
      refine h_neg (by decide) (h_ainN (by omega) (by omega) (h_pst ?_))
      rw [h.2.2.1 b (by omega), i_mul, i_add, i_sub, i_add]
      have e : (if Int32.ofInt (v * 10 + f b - 48) < Int32.ofInt 10000 then Int32.ofInt (v * 10 + f b - 48) else Int32.ofInt 10000) = Int32.ofInt (min 10000 (v * 10 + f b - 48)) := by
        by_cases q2 : v * 10 + f b - 48 < 10000
        · refine h_pos (by first | omega | ((simp (disch := omega) only [i0, i1, i_lt, i_le, i_eq, i_add, i_sub, i_mul, i_neg, i_ofNat, i_rem, i_div, w_in, w_in2, w_cnt, w_cnt2, z01, z01', il, li, lc_ge, lc_le, lc_gt, lc_lt, lc_eq, l_ofNat, l0, l_eq, l_lt, l_le]) <;> omega)) ?_
          congr 1; omega
        · refine h_neg (by first | omega | ((simp (disch := omega) only [i0, i1, i_lt, i_le, i_eq, i_add, i_sub, i_mul, i_neg, i_ofNat, i_rem, i_div, w_in, w_in2, w_cnt, w_cnt2, z01, z01', il, li, lc_ge, lc_le, lc_gt, lc_lt, lc_eq, l_ofNat, l0, l_eq, l_lt, l_le]) <;> omega)) ?_
          congr 1; omega
      rw [e, show (b : Int) + 1 = ((b + 1 : Nat) : Int) by omega]
      exact c_numL h ht r fu (b + 1) _ (by omega) (by omega) (by omega)
    · simp only [if_neg q]
      exact h_pos (by decide) (h_bind (c_put ht _ _ _) rfl)
theorem kwM_t {a z w : Nat} : kwM f a z w = true ↔ (z ≤ 6 ∧ (∀ j, j < z → xBy0.getD (w * 6 + j) 0 = Int32.ofInt (f (a + j))) ∧ (z = 6 ∨ xBy0.getD (w * 6 + z) 0 = Int32.ofInt 32)) := by unfold kwM; exact decide_eq_true_iff
theorem c_kwI (h : scG S f n) {a z w : Nat} (hz : 1 ≤ z ∧ z ≤ 6) (hw : w < 25) (ha : a + z ≤ n) : ∀ (r fu j : Nat), j + r = z → (∀ i, i < j → xBy0.getD (w * 6 + i) 0 = Int32.ofInt (f (a + i))) → ∃ fu', fu ≤ fu' ∧ lX9_kindOfWord N (fu + r + 1) 1 (Int32.ofInt (a : Int)) (Int32.ofInt (z : Int)) (Int32.ofInt (w : Int)) (Int32.ofInt (j : Int)) (pQ S g1 g2 g3 t) = (if kwM f a z w = true then some (Int32.ofInt (w : Int)) else lX9_kindOfWord N fu' 0 (Int32.ofInt (a : Int)) (Int32.ofInt (z : Int)) (Int32.ofInt ((w + 1 : Nat) : Int)) 0 (pQ S g1 g2 g3 t))
  | 0, fu, j, hj, hm => by
    have h1 := h.1
    have ej : j = z := by omega
    subst ej
    rw [Nat.add_zero, lX9_kindOfWord]
    simp only [i_mul, i_add]
    rw [show (w : Int) * 6 + (j : Int) = ((w * 6 + j : Nat) : Int) by omega, show (w : Int) + 1 = ((w + 1 : Nat) : Int) by omega]
    by_cases z6 : j = 6
    · have k : kwM f a j w = true := kwM_t.mpr ⟨by omega, hm, Or.inl z6⟩
      refine ⟨fu, Nat.le_refl _, ?_⟩
      rw [if_pos k]
      exact h_neg (by decide) (h_pos (by first | omega | ((simp (disch := omega) only [i0, i1, i_lt, i_le, i_eq, i_add, i_sub, i_mul, i_neg, i_ofNat, i_rem, i_div, w_in, w_in2, w_cnt, w_cnt2, z01, z01', il, li, lc_ge, lc_le, lc_gt, lc_lt, lc_eq, l_ofNat, l0, l_eq, l_lt, l_le]) <;> omega)) (h_pos (by first | omega | ((simp (disch := omega) only [i0, i1, i_lt, i_le, i_eq, i_add, i_sub, i_mul, i_neg, i_ofNat, i_rem, i_div, w_in, w_in2, w_cnt, w_cnt2, z01, z01', il, li, lc_ge, lc_le, lc_gt, lc_lt, lc_eq, l_ofNat, l0, l_eq, l_lt, l_le]) <;> omega)) (h_neg (fun q => q (by simp)) rfl)))
    · by_cases u : xBy0.getD (w * 6 + j) 0 = Int32.ofInt 32
      · have k : kwM f a j w = true := kwM_t.mpr ⟨by omega, hm, Or.inr u⟩
        refine ⟨fu, Nat.le_refl _, ?_⟩
        rw [if_pos k]
        exact h_neg (by decide) (h_pos (by first | omega | ((simp (disch := omega) only [i0, i1, i_lt, i_le, i_eq, i_add, i_sub, i_mul, i_neg, i_ofNat, i_rem, i_div, w_in, w_in2, w_cnt, w_cnt2, z01, z01', il, li, lc_ge, lc_le, lc_gt, lc_lt, lc_eq, l_ofNat, l0, l_eq, l_lt, l_le]) <;> omega)) (h_neg (by first | omega | ((simp (disch := omega) only [i0, i1, i_lt, i_le, i_eq, i_add, i_sub, i_mul, i_neg, i_ofNat, i_rem, i_div, w_in, w_in2, w_cnt, w_cnt2, z01, z01', il, li, lc_ge, lc_le, lc_gt, lc_lt, lc_eq, l_ofNat, l0, l_eq, l_lt, l_le]) <;> omega)) (h_bind (h_ainN (by omega) (by omega) rfl) (h_neg (fun q => q u) (h_neg (fun q => q (by simp)) rfl)))))
      · have k : ¬ kwM f a j w = true := fun q => (kwM_t.mp q).2.2.elim z6 u
        refine ⟨fu, Nat.le_refl _, ?_⟩
        rw [if_neg k]
        exact h_neg (by decide) (h_pos (by first | omega | ((simp (disch := omega) only [i0, i1, i_lt, i_le, i_eq, i_add, i_sub, i_mul, i_neg, i_ofNat, i_rem, i_div, w_in, w_in2, w_cnt, w_cnt2, z01, z01', il, li, lc_ge, lc_le, lc_gt, lc_lt, lc_eq, l_ofNat, l0, l_eq, l_lt, l_le]) <;> omega)) (h_neg (by first | omega | ((simp (disch := omega) only [i0, i1, i_lt, i_le, i_eq, i_add, i_sub, i_mul, i_neg, i_ofNat, i_rem, i_div, w_in, w_in2, w_cnt, w_cnt2, z01, z01', il, li, lc_ge, lc_le, lc_gt, lc_lt, lc_eq, l_ofNat, l0, l_eq, l_lt, l_le]) <;> omega)) (h_bind (h_ainN (by omega) (by omega) rfl) (h_pos u (h_neg (fun q => q (by simp)) rfl)))))
  | r + 1, fu, j, hj, hm => by
    have h1 := h.1
    have hb := h.2.2.1 (a + j) (by omega)
    by_cases e : xBy0.getD (w * 6 + j) 0 = Int32.ofInt (f (a + j))
    · obtain ⟨fu', q1, q2⟩ := c_kwI h hz hw ha r fu (j + 1) (by omega) (fun i hi => by
        by_cases q : i = j
        · rw [q]; exact e
        · exact hm i (by omega))
      refine ⟨fu', q1, ?_⟩
      rw [show fu + (r + 1) + 1 = (fu + r + 1) + 1 by omega, lX9_kindOfWord]
      simp only [i_mul, i_add]
      rw [show (w : Int) * 6 + (j : Int) = ((w * 6 + j : Nat) : Int) by omega, show (a : Int) + (j : Int) = ((a + j : Nat) : Int) by omega, show (j : Int) + 1 = ((j + 1 : Nat) : Int) by omega]
      refine h_neg (by decide) (h_neg (by first | omega | ((simp (disch := omega) only [i0, i1, i_lt, i_le, i_eq, i_add, i_sub, i_mul, i_neg, i_ofNat, i_rem, i_div, w_in, w_in2, w_cnt, w_cnt2, z01, z01', il, li, lc_ge, lc_le, lc_gt, lc_lt, lc_eq, l_ofNat, l0, l_eq, l_lt, l_le]) <;> omega)) (h_bind (h_ainN (by omega) (by omega) rfl) (h_ainN (by omega) (by omega) ?_)))
      rw [pQ_f, hb]
      exact h_neg (fun q => q e) q2
    · have k : ¬ kwM f a z w = true := fun q => e ((kwM_t.mp q).2.1 j (by omega))
      refine ⟨fu + r + 1, by omega, ?_⟩
      rw [if_neg k]
      rw [show fu + (r + 1) + 1 = (fu + r + 1) + 1 by omega, lX9_kindOfWord]
      simp only [i_mul, i_add]
      rw [show (w : Int) * 6 + (j : Int) = ((w * 6 + j : Nat) : Int) by omega, show (w : Int) * 6 + (z : Int) = ((w * 6 + z : Nat) : Int) by omega, show (a : Int) + (j : Int) = ((a + j : Nat) : Int) by omega, show (w : Int) + 1 = ((w + 1 : Nat) : Int) by omega]
      refine h_neg (by decide) (h_neg (by first | omega | ((simp (disch := omega) only [i0, i1, i_lt, i_le, i_eq, i_add, i_sub, i_mul, i_neg, i_ofNat, i_rem, i_div, w_in, w_in2, w_cnt, w_cnt2, z01, z01', il, li, lc_ge, lc_le, lc_gt, lc_lt, lc_eq, l_ofNat, l0, l_eq, l_lt, l_le]) <;> omega)) (h_bind (h_ainN (by omega) (by omega) rfl) (h_ainN (by omega) (by omega) ?_)))
      rw [pQ_f, hb]
      refine h_pos e ?_
      by_cases z6 : z = 6
      · exact h_pos (by first | omega | ((simp (disch := omega) only [i0, i1, i_lt, i_le, i_eq, i_add, i_sub, i_mul, i_neg, i_ofNat, i_rem, i_div, w_in, w_in2, w_cnt, w_cnt2, z01, z01', il, li, lc_ge, lc_le, lc_gt, lc_lt, lc_eq, l_ofNat, l0, l_eq, l_lt, l_le]) <;> omega)) (h_pos (by first | omega | ((simp (disch := omega) only [i0, i1, i_lt, i_le, i_eq, i_add, i_sub, i_mul, i_neg, i_ofNat, i_rem, i_div, w_in, w_in2, w_cnt, w_cnt2, z01, z01', il, li, lc_ge, lc_le, lc_gt, lc_lt, lc_eq, l_ofNat, l0, l_eq, l_lt, l_le]) <;> omega)) rfl)
      · refine h_neg (by first | omega | ((simp (disch := omega) only [i0, i1, i_lt, i_le, i_eq, i_add, i_sub, i_mul, i_neg, i_ofNat, i_rem, i_div, w_in, w_in2, w_cnt, w_cnt2, z01, z01', il, li, lc_ge, lc_le, lc_gt, lc_lt, lc_eq, l_ofNat, l0, l_eq, l_lt, l_le]) <;> omega)) (h_bind (h_ainN (by omega) (by omega) rfl) ?_)
        by_cases u : xBy0.getD (w * 6 + z) 0 = Int32.ofInt 32
        · exact h_neg (fun q => q u) (h_pos (by first | omega | ((simp (disch := omega) only [i0, i1, i_lt, i_le, i_eq, i_add, i_sub, i_mul, i_neg, i_ofNat, i_rem, i_div, w_in, w_in2, w_cnt, w_cnt2, z01, z01', il, li, lc_ge, lc_le, lc_gt, lc_lt, lc_eq, l_ofNat, l0, l_eq, l_lt, l_le]) <;> omega)) rfl)
        · exact h_pos u (h_pos (by first | omega | ((simp (disch := omega) only [i0, i1, i_lt, i_le, i_eq, i_add, i_sub, i_mul, i_neg, i_ofNat, i_rem, i_div, w_in, w_in2, w_cnt, w_cnt2, z01, z01', il, li, lc_ge, lc_le, lc_gt, lc_lt, lc_eq, l_ofNat, l0, l_eq, l_lt, l_le]) <;> omega)) rfl)
theorem c_kwO (h : scG S f n) {a z : Nat} (hz : 1 ≤ z) (ha : a + z ≤ n) : ∀ (r fu w : Nat), w + r = 25 → 9 * r < fu → lX9_kindOfWord N fu 0 (Int32.ofInt (a : Int)) (Int32.ofInt (z : Int)) (Int32.ofInt (w : Int)) 0 (pQ S g1 g2 g3 t) = some (Int32.ofInt (kwF f a z r w))
  | 0, fu + 1, w, hw, hf => by
    rw [lX9_kindOfWord]
    exact h_pos rfl (h_pos (by first | omega | ((simp (disch := omega) only [i0, i1, i_lt, i_le, i_eq, i_add, i_sub, i_mul, i_neg, i_ofNat, i_rem, i_div, w_in, w_in2, w_cnt, w_cnt2, z01, z01', il, li, lc_ge, lc_le, lc_gt, lc_lt, lc_eq, l_ofNat, l0, l_eq, l_lt, l_le]) <;> omega)) rfl)
  | r + 1, fu + 1, w, hw, hf => by
    have h1 := h.1
    rw [lX9_kindOfWord]
    by_cases z6 : z ≤ 6
    · obtain ⟨fu', q1, q2⟩ := c_kwI (N := N) (g1 := g1) (g2 := g2) (g3 := g3) (t := t) h (a := a) (z := z) (w := w) ⟨hz, z6⟩ (by omega) ha z (fu - z - 1) 0 (by omega) (fun i hi => absurd hi (by omega))
      rw [show fu - z - 1 + z + 1 = fu by omega] at q2
      refine h_pos rfl (h_neg (by first | omega | ((simp (disch := omega) only [i0, i1, i_lt, i_le, i_eq, i_add, i_sub, i_mul, i_neg, i_ofNat, i_rem, i_div, w_in, w_in2, w_cnt, w_cnt2, z01, z01', il, li, lc_ge, lc_le, lc_gt, lc_lt, lc_eq, l_ofNat, l0, l_eq, l_lt, l_le]) <;> omega)) (h_neg (by first | omega | ((simp (disch := omega) only [i0, i1, i_lt, i_le, i_eq, i_add, i_sub, i_mul, i_neg, i_ofNat, i_rem, i_div, w_in, w_in2, w_cnt, w_cnt2, z01, z01', il, li, lc_ge, lc_le, lc_gt, lc_lt, lc_eq, l_ofNat, l0, l_eq, l_lt, l_le]) <;> omega)) (Eq.trans q2 ?_)))
      unfold kwF
      by_cases k : kwM f a z w = true
      · rw [if_pos k, if_pos k]
      · rw [if_neg k, if_neg k]
        exact c_kwO h hz ha r fu' (w + 1) (by omega) (by omega)
    · have e : ∀ r w, kwF f a z r w = 39 := by
        intro r
        induction r with
        | zero => intro w; rfl
        | succ r ih =>
          intro w
          unfold kwF
          rw [if_neg (fun k => z6 (kwM_t.mp k).1)]
          exact ih (w + 1)
      rw [e]
      exact h_pos rfl (h_neg (by first | omega | ((simp (disch := omega) only [i0, i1, i_lt, i_le, i_eq, i_add, i_sub, i_mul, i_neg, i_ofNat, i_rem, i_div, w_in, w_in2, w_cnt, w_cnt2, z01, z01', il, li, lc_ge, lc_le, lc_gt, lc_lt, lc_eq, l_ofNat, l0, l_eq, l_lt, l_le]) <;> omega)) (h_pos (by first | omega | ((simp (disch := omega) only [i0, i1, i_lt, i_le, i_eq, i_add, i_sub, i_mul, i_neg, i_ofNat, i_rem, i_div, w_in, w_in2, w_cnt, w_cnt2, z01, z01', il, li, lc_ge, lc_le, lc_gt, lc_lt, lc_eq, l_ofNat, l0, l_eq, l_lt, l_le]) <;> omega)) rfl))
theorem c_wordL (hN : 2000000 ≤ N) (h : scG S f n) (ht : t < 301) {a : Nat} : ∀ (r fu b : Nat), b + r = n → r < fu → a < b → lX9_scanWord N fu (Int32.ofInt (a : Int)) (Int32.ofInt (b : Int)) (pQ S g1 g2 g3 t) = some (Int32.ofInt (((lxR lxL f r b) - a : Nat) : Int), pQ S (upd g1 t (Int32.ofInt (kwF f a (lxR lxL f r b - a) 25 0))) (upd g2 t (Int32.ofInt (a : Int))) (upd g3 t (Int32.ofInt 0)) (t + 1))
  | 0, fu + 1, b, hb, hf, hab => by
    have h1 := h.1
    have k := c_kwO (N := N) (g1 := g1) (g2 := g2) (g3 := g3) (t := t) h (a := a) (z := b - a) (by omega) (by omega) 25 N 0 (by omega) (by omega)
    rw [lX9_scanWord, pQ_1, h.2.1, i_sub, show (b : Int) - (a : Int) = ((b - a : Nat) : Int) by omega]
    exact h_pos (by first | omega | ((simp (disch := omega) only [i0, i1, i_lt, i_le, i_eq, i_add, i_sub, i_mul, i_neg, i_ofNat, i_rem, i_div, w_in, w_in2, w_cnt, w_cnt2, z01, z01', il, li, lc_ge, lc_le, lc_gt, lc_lt, lc_eq, l_ofNat, l0, l_eq, l_lt, l_le]) <;> omega)) (h_bind k (h_bind (c_put ht _ _ _) rfl))
  | r + 1, fu + 1, b, hb, hf, hab => by
    have h1 := h.1
    have hb2 := h.2.2.2 b (by omega)
    rw [lX9_scanWord, pQ_1, pQ_f, h.2.1]
    refine h_neg (by first | omega | ((simp (disch := omega) only [i0, i1, i_lt, i_le, i_eq, i_add, i_sub, i_mul, i_neg, i_ofNat, i_rem, i_div, w_in, w_in2, w_cnt, w_cnt2, z01, z01', il, li, lc_ge, lc_le, lc_gt, lc_lt, lc_eq, l_ofNat, l0, l_eq, l_lt, l_le]) <;> omega)) (h_ainN (by omega) (by omega) ?_)
    rw [h.2.2.1 b (by omega), c_isL hb2]
    unfold lxR
    by_cases q : lxL (f b) = true
    · simp only [if_pos q]
      refine h_neg (by decide) ?_
      rw [i_add, show (b : Int) + 1 = ((b + 1 : Nat) : Int) by omega]
      exact c_wordL hN h ht r fu (b + 1) (by omega) (by omega) (by omega)
    · simp only [if_neg q]
      have k := c_kwO (N := N) (g1 := g1) (g2 := g2) (g3 := g3) (t := t) h (a := a) (z := b - a) (by omega) (by omega) 25 N 0 (by omega) (by omega)
      rw [i_sub, show (b : Int) - (a : Int) = ((b - a : Nat) : Int) by omega]
      exact h_pos (by decide) (h_bind k (h_bind (c_put ht _ _ _) rfl))
theorem c_tok (hN : 2000000 ≤ N) (h : scG S f n) (ht : t < 301) {a : Nat} (ha : a < n) : fX9_scanToken N (Int32.ofInt (a : Int)) (pQ S g1 g2 g3 t) = some (Int32.ofInt (((tkA f n a).2.2 - a : Nat) : Int), pQ S (upd g1 t (Int32.ofInt (tkA f n a).1)) (upd g2 t (Int32.ofInt (a : Int))) (upd g3 t (Int32.ofInt (tkA f n a).2.1)) (t + 1)) := by
  have h1 := h.1
  have hb := h.2.2.2 a ha
  have e := h.2.2.1 a ha
  have h2 := lxR_ge (p := lxD) (f := f) (n - (a + 1)) (a + 1)
  unfold fX9_scanToken
  refine h_ainN (by omega) (by omega) ?_
  rw [pQ_f, e, c_isL hb]
  unfold tkA
  by_cases q1 : lxL (f a) = true
  · rw [if_pos q1, if_pos q1]
    have w := c_wordL (g1 := g1) (g2 := g2) (g3 := g3) hN h ht (a := a) (n - (a + 1)) N (a + 1) (by omega) (by omega) (by omega)
    rw [lxR_1 ha q1]
    refine h_neg (by decide) (h_bind (v := (_, _)) ?_ rfl)
    unfold fX9_scanWord
    rw [i_add, show (a : Int) + 1 = ((a + 1 : Nat) : Int) by omega]
    exact w
  · rw [if_neg q1, if_neg q1]
    refine h_pos (by decide) (h_ainN (by omega) (by omega) ?_)
    rw [e, c_isD hb]
    by_cases q2 : lxD (f a) = true
    · rw [if_pos q2, if_pos q2]
      have hq := of_decide_eq_true q2
      have w := c_numL (N := N) (g1 := g1) (g2 := g2) (g3 := g3) h ht (a := a) (n - (a + 1)) N (a + 1) (f a - 48) (by omega) (by omega) (by omega)
      rw [lxR_1 ha q2]
      refine h_neg (by decide) (h_bind (v := (_, _)) ?_ rfl)
      unfold fX9_scanNumber
      refine h_ainN (by omega) (by omega) ?_
      rw [pQ_f, e, i_sub, i_add, show (a : Int) + 1 = ((a + 1 : Nat) : Int) by omega]
      refine h_pst (Eq.trans w ?_)
      rw [i_sub, show ((lxR lxD f (n - (a + 1)) (a + 1) : Nat) : Int) - (a : Int) = ((lxR lxD f (n - (a + 1)) (a + 1) - a : Nat) : Int) by omega]
      rfl
    · rw [if_neg q2, if_neg q2]
      refine h_pos (by decide) ?_
      have hs := sgI_rng (f a)
      have sg := c_sgn (f a).toNat (by omega)
      rw [show (((f a).toNat : Nat) : Int) = f a by omega] at sg
      have e1 : a + 1 - a = 1 := by omega
      have e2 : a + 2 - a = 2 := by omega
      have key : fX9_scanSign N (Int32.ofInt (a : Int)) (pQ S g1 g2 g3 t) = some (Int32.ofInt (((if sgI (f a) < 0 then ((39 : Int), (0 : Int), a + 1) else if sgI (f a) ≤ 1 ∧ a + 1 < n ∧ f (a + 1) = 61 then (sgI (f a) + 36, 0, a + 2) else (sgI (f a) + 25, 0, a + 1)).2.2 - a : Nat) : Int), pQ S (upd g1 t (Int32.ofInt (if sgI (f a) < 0 then ((39 : Int), (0 : Int), a + 1) else if sgI (f a) ≤ 1 ∧ a + 1 < n ∧ f (a + 1) = 61 then (sgI (f a) + 36, 0, a + 2) else (sgI (f a) + 25, 0, a + 1)).1)) (upd g2 t (Int32.ofInt (a : Int))) (upd g3 t (Int32.ofInt (if sgI (f a) < 0 then ((39 : Int), (0 : Int), a + 1) else if sgI (f a) ≤ 1 ∧ a + 1 < n ∧ f (a + 1) = 61 then (sgI (f a) + 36, 0, a + 2) else (sgI (f a) + 25, 0, a + 1)).2.1)) (t + 1)) := by
        unfold fX9_scanSign
        refine h_ainN (by omega) (by omega) ?_
        rw [pQ_f, e]
        refine h_bind sg ?_
        rw [pQ_1, h.2.1]
        simp only [i_add]
        by_cases c0 : sgI (f a) < 0
        · simp only [if_pos c0, e1]
          exact h_neg (by first | omega | ((simp (disch := omega) only [i0, i1, i_lt, i_le, i_eq, i_add, i_sub, i_mul, i_neg, i_ofNat, i_rem, i_div, w_in, w_in2, w_cnt, w_cnt2, z01, z01', il, li, lc_ge, lc_le, lc_gt, lc_lt, lc_eq, l_ofNat, l0, l_eq, l_lt, l_le]) <;> omega)) (h_bind (c_put ht _ _ _) rfl)
        · simp only [if_neg c0]
          refine h_pos (by first | omega | ((simp (disch := omega) only [i0, i1, i_lt, i_le, i_eq, i_add, i_sub, i_mul, i_neg, i_ofNat, i_rem, i_div, w_in, w_in2, w_cnt, w_cnt2, z01, z01', il, li, lc_ge, lc_le, lc_gt, lc_lt, lc_eq, l_ofNat, l0, l_eq, l_lt, l_le]) <;> omega)) ?_
          by_cases c1 : sgI (f a) ≤ 1
          · refine h_neg (by first | omega | ((simp (disch := omega) only [i0, i1, i_lt, i_le, i_eq, i_add, i_sub, i_mul, i_neg, i_ofNat, i_rem, i_div, w_in, w_in2, w_cnt, w_cnt2, z01, z01', il, li, lc_ge, lc_le, lc_gt, lc_lt, lc_eq, l_ofNat, l0, l_eq, l_lt, l_le]) <;> omega)) ?_
            by_cases c2 : a + 1 < n
            · refine h_neg (by first | omega | ((simp (disch := omega) only [i0, i1, i_lt, i_le, i_eq, i_add, i_sub, i_mul, i_neg, i_ofNat, i_rem, i_div, w_in, w_in2, w_cnt, w_cnt2, z01, z01', il, li, lc_ge, lc_le, lc_gt, lc_lt, lc_eq, l_ofNat, l0, l_eq, l_lt, l_le]) <;> omega)) ?_
              rw [show (a : Int) + 1 = ((a + 1 : Nat) : Int) by omega]
              refine h_ainN (by omega) (by omega) ?_
              have hb1 := h.2.2.2 (a + 1) c2
              rw [h.2.2.1 (a + 1) c2]
              by_cases c3 : f (a + 1) = 61
              · have c : sgI (f a) ≤ 1 ∧ a + 1 < n ∧ f (a + 1) = 61 := ⟨c1, c2, c3⟩
                simp only [if_pos c, e2]
                exact h_neg (by first | omega | ((simp (disch := omega) only [i0, i1, i_lt, i_le, i_eq, i_add, i_sub, i_mul, i_neg, i_ofNat, i_rem, i_div, w_in, w_in2, w_cnt, w_cnt2, z01, z01', il, li, lc_ge, lc_le, lc_gt, lc_lt, lc_eq, l_ofNat, l0, l_eq, l_lt, l_le]) <;> omega)) (h_bind (c_put ht _ _ _) rfl)
              · have c : ¬ (sgI (f a) ≤ 1 ∧ a + 1 < n ∧ f (a + 1) = 61) := fun q => c3 q.2.2
                simp only [if_neg c, e1]
                exact h_pos (by first | omega | ((simp (disch := omega) only [i0, i1, i_lt, i_le, i_eq, i_add, i_sub, i_mul, i_neg, i_ofNat, i_rem, i_div, w_in, w_in2, w_cnt, w_cnt2, z01, z01', il, li, lc_ge, lc_le, lc_gt, lc_lt, lc_eq, l_ofNat, l0, l_eq, l_lt, l_le]) <;> omega)) (h_bind (c_put ht _ _ _) rfl)
            · have c : ¬ (sgI (f a) ≤ 1 ∧ a + 1 < n ∧ f (a + 1) = 61) := fun q => c2 q.2.1
              simp only [if_neg c, e1]
              exact h_pos (by first | omega | ((simp (disch := omega) only [i0, i1, i_lt, i_le, i_eq, i_add, i_sub, i_mul, i_neg, i_ofNat, i_rem, i_div, w_in, w_in2, w_cnt, w_cnt2, z01, z01', il, li, lc_ge, lc_le, lc_gt, lc_lt, lc_eq, l_ofNat, l0, l_eq, l_lt, l_le]) <;> omega)) (h_bind (c_put ht _ _ _) rfl)
          · have c : ¬ (sgI (f a) ≤ 1 ∧ a + 1 < n ∧ f (a + 1) = 61) := fun q => c1 q.1
            simp only [if_neg c, e1]
            exact h_pos (by first | omega | ((simp (disch := omega) only [i0, i1, i_lt, i_le, i_eq, i_add, i_sub, i_mul, i_neg, i_ofNat, i_rem, i_div, w_in, w_in2, w_cnt, w_cnt2, z01, z01', il, li, lc_ge, lc_le, lc_gt, lc_lt, lc_eq, l_ofNat, l0, l_eq, l_lt, l_le]) <;> omega)) (h_bind (c_put ht _ _ _) rfl)
      exact h_bind key rfl
/-- tokens as the class has laid them down -/
def tkL (f : Nat → Int) (n : Nat) (g1 g2 g3 : Nat → Int32) (t : Nat) : Prop := ∀ j, j < t → g1 j = Int32.ofInt (kdT f n j) ∧ g2 j = Int32.ofInt ((psT f n j : Nat) : Int) ∧ g3 j = Int32.ofInt (vlT f n j)
theorem tkL_s (h : tkL f n g1 g2 g3 t) {a b c : Int32} (h1 : a = Int32.ofInt (kdT f n t)) (h2 : b = Int32.ofInt ((psT f n t : Nat) : Int)) (h3 : c = Int32.ofInt (vlT f n t)) : tkL f n (upd g1 t a) (upd g2 t b) (upd g3 t c) (t + 1) := by
  intro j hj
  by_cases q : j = t
  · rw [q, upd_at, upd_at, upd_at]; exact ⟨h1, h2, h3⟩
  · rw [upd_ne q, upd_ne q, upd_ne q]; exact h j (by omega)
theorem mx_1 {m : Nat} (h1 : 1 ≤ m) (h2 : m ≤ 300) : (if (Int32.ofInt 1) < Int32.ofInt (m : Int) then Int32.ofInt (m : Int) else (Int32.ofInt 1)) = Int32.ofInt (m : Int) := by
  by_cases q : m = 1
  · subst q
    split <;> rfl
  · exact if_pos (by first | omega | ((simp (disch := omega) only [i0, i1, i_lt, i_le, i_eq, i_add, i_sub, i_mul, i_neg, i_ofNat, i_rem, i_div, w_in, w_in2, w_cnt, w_cnt2, z01, z01', il, li, lc_ge, lc_le, lc_gt, lc_lt, lc_eq, l_ofNat, l0, l_eq, l_lt, l_le]) <;> omega))
theorem c_scanL (hN : 2000000 ≤ N) (h : scG S f n) : ∀ (r fu a t : Nat) (g1 g2 g3 : Nat → Int32), n - a ≤ r → a ≤ n → r < fu → t ≤ a → skA f n a = psT f n t → (∀ j, j < t → psT f n j < n) → tkL f n g1 g2 g3 t → ∃ M g1' g2' g3', M ≤ n ∧ lX9_scan N fu (Int32.ofInt (a : Int)) (pQ S g1 g2 g3 t) = some (pQ S g1' g2' g3' (M + 1)) ∧ psT f n M = n ∧ (∀ j, j < M → psT f n j < n) ∧ tkL f n g1' g2' g3' (M + 1)
  | r, 0, a, t, g1, g2, g3, _, _, hf, _, _, _, _ => by omega
  | r, fu + 1, a, t, g1, g2, g3, hr, ha, hf, hta, hs, hj, hl => by
    have h1 := h.1
    by_cases q : a = n
    · subst q
      rw [skA_n] at hs
      have kd : kdT f a t = 40 := by unfold kdT; rw [if_neg (by omega)]
      have vl : vlT f a t = 0 := by unfold vlT; rw [if_neg (by omega)]
      refine ⟨t, upd g1 t (Int32.ofInt 40), upd g2 t (Int32.ofInt (a : Int)), upd g3 t (Int32.ofInt 0), hta, ?_, hs.symm, hj, tkL_s hl (by rw [kd]) (by rw [← hs]) (by rw [vl])⟩
      rw [lX9_scan, pQ_1, h.2.1]
      exact h_pos (by first | omega | ((simp (disch := omega) only [i0, i1, i_lt, i_le, i_eq, i_add, i_sub, i_mul, i_neg, i_ofNat, i_rem, i_div, w_in, w_in2, w_cnt, w_cnt2, z01, z01', il, li, lc_ge, lc_le, lc_gt, lc_lt, lc_eq, l_ofNat, l0, l_eq, l_lt, l_le]) <;> omega)) (h_bind (c_put (by omega) _ _ _) rfl)
    · have han : a < n := by omega
      have hb := h.2.2.2 a han
      have e := h.2.2.1 a han
      cases r with
      | zero => omega
      | succ r =>
        rw [lX9_scan, pQ_1, pQ_f, h.2.1]
        by_cases sp : lxS (f a) = true
        · have hsp := of_decide_eq_true sp
          obtain ⟨M, g1', g2', g3', m1, m2, m3, m4, m5⟩ := c_scanL hN h r fu (a + 1) t g1 g2 g3 (by omega) (by omega) (by omega) (by omega) (by rw [← skA_sp han sp]; exact hs) hj hl
          refine ⟨M, g1', g2', g3', m1, h_neg (by first | omega | ((simp (disch := omega) only [i0, i1, i_lt, i_le, i_eq, i_add, i_sub, i_mul, i_neg, i_ofNat, i_rem, i_div, w_in, w_in2, w_cnt, w_cnt2, z01, z01', il, li, lc_ge, lc_le, lc_gt, lc_lt, lc_eq, l_ofNat, l0, l_eq, l_lt, l_le]) <;> omega)) (h_ainN (by omega) (by omega) ?_), m3, m4, m5⟩
          rw [e, i_add, show (a : Int) + 1 = ((a + 1 : Nat) : Int) by omega]
          by_cases s32 : f a = 32
          · exact h_pos (by first | omega | ((simp (disch := omega) only [i0, i1, i_lt, i_le, i_eq, i_add, i_sub, i_mul, i_neg, i_ofNat, i_rem, i_div, w_in, w_in2, w_cnt, w_cnt2, z01, z01', il, li, lc_ge, lc_le, lc_gt, lc_lt, lc_eq, l_ofNat, l0, l_eq, l_lt, l_le]) <;> omega)) m2
          · refine h_neg (by first | omega | ((simp (disch := omega) only [i0, i1, i_lt, i_le, i_eq, i_add, i_sub, i_mul, i_neg, i_ofNat, i_rem, i_div, w_in, w_in2, w_cnt, w_cnt2, z01, z01', il, li, lc_ge, lc_le, lc_gt, lc_lt, lc_eq, l_ofNat, l0, l_eq, l_lt, l_le]) <;> omega)) (h_ainN (by omega) (by omega) ?_)
            rw [e]
            exact h_neg (by first | omega | ((simp (disch := omega) only [i0, i1, i_lt, i_le, i_eq, i_add, i_sub, i_mul, i_neg, i_ofNat, i_rem, i_div, w_in, w_in2, w_cnt, w_cnt2, z01, z01', il, li, lc_ge, lc_le, lc_gt, lc_lt, lc_eq, l_ofNat, l0, l_eq, l_lt, l_le]) <;> omega)) m2
        · have sp' : lxS (f a) = false := by
            cases hh : lxS (f a) with
            | true => exact absurd hh sp
            | false => rfl
          have hsp : ¬ (f a = 32 ∨ f a = 10) := of_decide_eq_false sp'
          rw [skA_no sp'] at hs
          have nx := tkA_nx (f := f) han
          have tr := tkA_rng (f := f) (n := n) (a := a)
          have ek : kdT f n t = (tkA f n a).1 := by unfold kdT; rw [← hs, if_pos han]
          have ev : vlT f n t = (tkA f n a).2.1 := by unfold vlT; rw [← hs, if_pos han]
          have tk := c_tok (N := N) (g1 := g1) (g2 := g2) (g3 := g3) (t := t) hN h (by omega) han
          have ps : psT f n (t + 1) = skA f n (tkA f n a).2.2 := by
            show skA f n _ = _
            rw [← hs, if_pos han]
          obtain ⟨M, g1', g2', g3', m1, m2, m3, m4, m5⟩ := c_scanL hN h r fu (tkA f n a).2.2 (t + 1) _ _ _ (by omega) (by omega) (by omega) (by omega) ps.symm (fun j hjt => by
            by_cases q2 : j = t
            · rw [q2, ← hs]; exact han
            · exact hj j (by omega)) (tkL_s hl (by rw [ek]) (by rw [← hs]) (by rw [ev]))
          refine ⟨M, g1', g2', g3', m1, h_neg (by first | omega | ((simp (disch := omega) only [i0, i1, i_lt, i_le, i_eq, i_add, i_sub, i_mul, i_neg, i_ofNat, i_rem, i_div, w_in, w_in2, w_cnt, w_cnt2, z01, z01', il, li, lc_ge, lc_le, lc_gt, lc_lt, lc_eq, l_ofNat, l0, l_eq, l_lt, l_le]) <;> omega)) (h_ainN (by omega) (by omega) ?_), m3, m4, m5⟩
          rw [e]
          refine h_neg (by first | omega | ((simp (disch := omega) only [i0, i1, i_lt, i_le, i_eq, i_add, i_sub, i_mul, i_neg, i_ofNat, i_rem, i_div, w_in, w_in2, w_cnt, w_cnt2, z01, z01', il, li, lc_ge, lc_le, lc_gt, lc_lt, lc_eq, l_ofNat, l0, l_eq, l_lt, l_le]) <;> omega)) (h_ainN (by omega) (by omega) ?_)
          rw [e]
          refine h_pos (by first | omega | ((simp (disch := omega) only [i0, i1, i_lt, i_le, i_eq, i_add, i_sub, i_mul, i_neg, i_ofNat, i_rem, i_div, w_in, w_in2, w_cnt, w_cnt2, z01, z01', il, li, lc_ge, lc_le, lc_gt, lc_lt, lc_eq, l_ofNat, l0, l_eq, l_lt, l_le]) <;> omega)) (h_bind tk ?_)
          dsimp only
          rw [mx_1 (by omega) (by omega)]
          refine h_pst ?_
          rw [i_add, show (a : Int) + (((tkA f n a).2.2 - a : Nat) : Int) = (((tkA f n a).2.2 : Nat) : Int) by omega]
          exact m2
theorem c_scan (hN : 2000000 ≤ N) (h : scG S f n) : ∃ M g1 g2 g3, M ≤ n ∧ fX9_scan N S = some (pQ S g1 g2 g3 (M + 1)) ∧ psT f n M = n ∧ (∀ j, j < M → psT f n j < n) ∧ tkL f n g1 g2 g3 (M + 1) := by
  have h1 := h.1
  obtain ⟨M, g1, g2, g3, m1, m2, m3, m4, m5⟩ := c_scanL hN h n N 0 0 (S.2.2.1 253) (S.2.2.1 254) (S.2.2.1 255) (by omega) (by omega) (by omega) (by omega) rfl (fun j hj => absurd hj (by omega)) (fun j hj => absurd hj (by omega))
  refine ⟨M, g1, g2, g3, m1, ?_, m3, m4, m5⟩
  unfold fX9_scan
  have e : ySi S 251 5 (Int32.ofInt 0) = pQ S (S.2.2.1 253) (S.2.2.1 254) (S.2.2.1 255) 0 := by
    unfold pQ
    rw [ySa_self S 253, ySa_self S 254, ySa_self S 255]
    rfl
  rw [e]
  exact m2
end SCN
