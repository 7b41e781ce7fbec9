/-! ===== seats ===== -/
def vtI (A : Nat → Int) (p : Nat) : Int32 := Int32.ofInt (A (87 + p))
def ag5 (f g : Nat → Int32) : Prop := ∀ k, k < 5 → f k = g k
def bsS (v f : Nat → Int32) : Nat → Nat → Nat → Nat
  | _, 0, b => b
  | p, m + 1, b => if v p * (f b + Int32.ofInt 1) ≤ v b * (f p + Int32.ofInt 1) then bsS v f (p + 1) m b else bsS v f (p + 1) m p
theorem bsS_lt {v f : Nat → Int32} : ∀ m p b, p + m = 5 → b < 5 → bsS v f p m b < 5
  | 0, p, b, _, hb => hb
  | m + 1, p, b, hm, hb => by
    unfold bsS
    split
    · exact bsS_lt m (p + 1) b (by omega) hb
    · exact bsS_lt m (p + 1) p (by omega) (by omega)
theorem bsS_ag {v f g : Nat → Int32} (h : ag5 f g) : ∀ m p b, p + m = 5 → b < 5 → bsS v f p m b = bsS v g p m b
  | 0, p, b, _, hb => rfl
  | m + 1, p, b, hm, hb => by
    unfold bsS
    rw [h b hb, h p (by omega)]
    split
    · exact bsS_ag h m (p + 1) b (by omega) hb
    · exact bsS_ag h m (p + 1) p (by omega) (by omega)
def shS (v : Nat → Int32) : Nat → (Nat → Int32) → Nat → Int32
  | 0, f => f
  | k + 1, f => shS v k (upd f (bsS v f 1 4 0) (f (bsS v f 1 4 0) + Int32.ofInt 1))
theorem upd_ag {f g : Nat → Int32} {j : Nat} {x y : Int32} (h : ag5 f g) (e : x = y) : ag5 (upd f j x) (upd g j y) := by
  intro k hk
  unfold upd
  rw [e, h k hk]
theorem shS_ag {v : Nat → Int32} : ∀ k (f g : Nat → Int32), ag5 f g → ag5 (shS v k f) (shS v k g)
  | 0, f, g, h => h
  | k + 1, f, g, h => by
    unfold shS
    rw [← bsS_ag h 4 1 0 (by omega) (by omega)]
    exact shS_ag k _ _ (upd_ag h (by rw [h _ (bsS_lt 4 1 0 (by omega) (by omega))]))
def bcS (c : Nat → Int32) : Nat → Nat → Nat → Nat
  | _, 0, b => b
  | p, m + 1, b => if c p ≤ c b then bcS c (p + 1) m b else bcS c (p + 1) m p
theorem bcS_lt {c : Nat → Int32} : ∀ m p b, p + m = 5 → b < 5 → bcS c p m b < 5
  | 0, p, b, _, hb => hb
  | m + 1, p, b, hm, hb => by
    unfold bcS
    split
    · exact bcS_lt m (p + 1) b (by omega) hb
    · exact bcS_lt m (p + 1) p (by omega) (by omega)
theorem bcS_ag {f g : Nat → Int32} (h : ag5 f g) : ∀ m p b, p + m = 5 → b < 5 → bcS f p m b = bcS g p m b
  | 0, p, b, _, hb => rfl
  | m + 1, p, b, hm, hb => by
    unfold bcS
    rw [h b hb, h p (by omega)]
    split
    · exact bcS_ag h m (p + 1) b (by omega) hb
    · exact bcS_ag h m (p + 1) p (by omega) (by omega)
def rsK : Nat → (Nat → Int32) × (Nat → Int32) → (Nat → Int32) × (Nat → Int32)
  | 0, q => q
  | k + 1, q => rsK k (upd q.1 (bcS q.2 1 4 0) (q.1 (bcS q.2 1 4 0) + Int32.ofInt 1), upd q.2 (bcS q.2 1 4 0) (Int32.ofInt (-1)))
theorem rsK_ag : ∀ k (q r : (Nat → Int32) × (Nat → Int32)), ag5 q.1 r.1 → ag5 q.2 r.2 → ag5 (rsK k q).1 (rsK k r).1
  | 0, q, r, h, _ => h
  | k + 1, q, r, h, h2 => by
    unfold rsK
    rw [← bcS_ag h2 4 1 0 (by omega) (by omega)]
    exact rsK_ag k _ _ (upd_ag h (by rw [h _ (bcS_lt 4 1 0 (by omega) (by omega))])) (upd_ag h2 rfl)
section PMS
variable {T : yK} {S : yS}
/-- all votes -/
def avS (A : Nat → Int) : Nat → Nat → Int → Int
  | _, 0, x => x
  | p, m + 1, x => avS A (p + 1) m (x + A (87 + p))
theorem c_av (h : Rel T S) {N : Nat} : ∀ (m n p : Nat) (x : Int), p + m = 5 → m < n → lX4_allVotes N n (Int32.ofInt x) (Int32.ofNat 5) (Int32.ofInt (p : Int)) S = some (Int32.ofInt (avS (rv S 266) p m x))
  | 0, n + 1, p, x, hm, _ => by
    rw [lX4_allVotes]
    exact h_pos (by first | omega | ((simp (disch := omega) only [i0, i1, i_lt, i_le, i_eq, i_add, i_sub, i_mul, i_neg, i_ofNat, i_rem, i_div, w_in, w_in2, w_cnt, w_cnt2, z01, z01', il, li, lc_ge, lc_le, lc_gt, lc_lt, lc_eq, l_ofNat, l0, l_eq, l_lt, l_le]) <;> omega)) rfl
  | m + 1, n + 1, p, x, hm, hn => by
    rw [lX4_allVotes]
    refine h_neg (by first | omega | ((simp (disch := omega) only [i0, i1, i_lt, i_le, i_eq, i_add, i_sub, i_mul, i_neg, i_ofNat, i_rem, i_div, w_in, w_in2, w_cnt, w_cnt2, z01, z01', il, li, lc_ge, lc_le, lc_gt, lc_lt, lc_eq, l_ofNat, l0, l_eq, l_lt, l_le]) <;> omega)) (h_ainN (by omega) (by omega) ?_)
    rw [C_vot h (by omega), i_add, i_add, show (p : Int) + 1 = ((p + 1 : Nat) : Int) by omega]
    exact c_av h m n (p + 1) _ (by omega) (by omega)
theorem r_av (h : Rel T S) {N : Nat} : ∀ (m n p : Nat) (x : Int), p + m = 5 → m < n → lX12_allVotes N n (Int32.ofInt x) (Int32.ofInt (p : Int)) S = some (Int32.ofInt (avS (rv S 266) p m x))
  | 0, n + 1, p, x, hm, _ => by
    rw [lX12_allVotes]
    exact h_pos (by first | omega | ((simp (disch := omega) only [i0, i1, i_lt, i_le, i_eq, i_add, i_sub, i_mul, i_neg, i_ofNat, i_rem, i_div, w_in, w_in2, w_cnt, w_cnt2, z01, z01', il, li, lc_ge, lc_le, lc_gt, lc_lt, lc_eq, l_ofNat, l0, l_eq, l_lt, l_le]) <;> omega)) rfl
  | m + 1, n + 1, p, x, hm, hn => by
    rw [lX12_allVotes, i_add, i_add, show (p : Int) + 1 = ((p + 1 : Nat) : Int) by omega, show (87 : Int) + (p : Int) = ((87 + p : Nat) : Int) by omega]
    refine h_neg (by first | omega | ((simp (disch := omega) only [i0, i1, i_lt, i_le, i_eq, i_add, i_sub, i_mul, i_neg, i_ofNat, i_rem, i_div, w_in, w_in2, w_cnt, w_cnt2, z01, z01', il, li, lc_ge, lc_le, lc_gt, lc_lt, lc_eq, l_ofNat, l0, l_eq, l_lt, l_le]) <;> omega)) (h_ainN (by omega) (by omega) ?_)
    rw [rv_eq S 266 (87 + p), i_add]
    exact r_av h m n (p + 1) _ (by omega) (by omega)
def avA (A : Nat → Int) : Int := A 87 + A 88 + A 89 + A 90 + A 91
theorem av_eq (A : Nat → Int) : avS A 0 5 0 = avA A := by
  simp only [avS, avA, Nat.add_zero, Nat.zero_add, Nat.reduceAdd]
  omega
theorem c_avF (h : Rel T S) {N : Nat} (hN : 2000000 ≤ N) : fX4_allVotes N S = some (Int32.ofInt (avA (rv S 266))) := by
  rw [← av_eq]; exact c_av h 5 N 0 0 (by omega) (by omega)
theorem r_avF (h : Rel T S) {N : Nat} (hN : 2000000 ≤ N) : fX12_allVotes N S = some (Int32.ofInt (avA (rv S 266))) := by
  rw [← av_eq]; exact r_av h 5 N 0 0 (by omega) (by omega)
theorem av_rng (h : Rel T S) : 0 ≤ avA (rv S 266) ∧ avA (rv S 266) ≤ 4995 := by
  have := R_vot h (k := 0) (by omega)
  have := R_vot h (k := 1) (by omega)
  have := R_vot h (k := 2) (by omega)
  have := R_vot h (k := 3) (by omega)
  have := R_vot h (k := 4) (by omega)
  unfold avA
  simp only [Nat.add_zero, Nat.reduceAdd] at *
  omega
/-- the class's shares -/
theorem c_fill {N : Nat} : ∀ (m n k : Nat) (f : Nat → Int32), k + m = 5 → m < n → (∀ j, j < k → f j = Int32.ofInt 0) → ∃ f', (∀ j, j < 5 → f' j = Int32.ofInt 0) ∧ lJ7_fill_53178_127 N n (Int32.ofInt 0) (Int32.ofInt (k : Int)) (Int32.ofNat 5) (ySa S 127 f) = some (ySa S 127 f')
  | 0, n + 1, k, f, hm, _, hf => by
    refine ⟨f, fun j hj => hf j (by omega), ?_⟩
    rw [lJ7_fill_53178_127]
    exact h_pos (by first | omega | ((simp (disch := omega) only [i0, i1, i_lt, i_le, i_eq, i_add, i_sub, i_mul, i_neg, i_ofNat, i_rem, i_div, w_in, w_in2, w_cnt, w_cnt2, z01, z01', il, li, lc_ge, lc_le, lc_gt, lc_lt, lc_eq, l_ofNat, l0, l_eq, l_lt, l_le]) <;> omega)) rfl
  | m + 1, n + 1, k, f, hm, hn, hf => by
    obtain ⟨f', e1, e2⟩ := c_fill m n (k + 1) (upd f k (Int32.ofInt 0)) (by omega) (by omega) (fun j hj => by
      by_cases h0 : j = k
      · subst h0; rw [upd_at]
      · rw [upd_ne h0]; exact hf j (by omega))
    refine ⟨f', e1, ?_⟩
    rw [lJ7_fill_53178_127]
    refine h_neg (by first | omega | ((simp (disch := omega) only [i0, i1, i_lt, i_le, i_eq, i_add, i_sub, i_mul, i_neg, i_ofNat, i_rem, i_div, w_in, w_in2, w_cnt, w_cnt2, z01, z01', il, li, lc_ge, lc_le, lc_gt, lc_lt, lc_eq, l_ofNat, l0, l_eq, l_lt, l_le]) <;> omega)) (h_ainN (by omega) (by omega) (h_pst ?_))
    rw [ySa_at, ySa_ySa, i_add, show (k : Int) + 1 = ((k + 1 : Nat) : Int) by omega]
    exact e2
theorem c_sh1 (h : Rel T S) {N : Nat} {l1 l2 : Int32} {f : Nat → Int32} : ∀ (m n p b : Nat), p + m = 5 → b < 5 → lX4_seatsByShares N (n + m + 1) 1 l1 l2 (Int32.ofInt (b : Int)) (Int32.ofInt (p : Int)) (ySa S 127 f) = lX4_seatsByShares N n 0 l1 (l2 + Int32.ofInt 1) 0 0 (ySa S 127 (upd f (bsS (vtI (rv S 266)) f p m b) (f (bsS (vtI (rv S 266)) f p m b) + Int32.ofInt 1)))
  | 0, n, p, b, hm, hb => by
    rw [lX4_seatsByShares]
    refine h_neg (by omega) (h_pos (by first | omega | ((simp (disch := omega) only [i0, i1, i_lt, i_le, i_eq, i_add, i_sub, i_mul, i_neg, i_ofNat, i_rem, i_div, w_in, w_in2, w_cnt, w_cnt2, z01, z01', il, li, lc_ge, lc_le, lc_gt, lc_lt, lc_eq, l_ofNat, l0, l_eq, l_lt, l_le]) <;> omega)) (h_ainN hb (by omega) (h_ainN hb (by omega) (h_pst ?_))))
    rw [ySa_at, ySa_ySa]
    rfl
  | m + 1, n, p, b, hm, hb => by
    rw [show n + (m + 1) + 1 = (n + m + 1) + 1 by omega, lX4_seatsByShares]
    refine h_neg (by omega) (h_neg (by first | omega | ((simp (disch := omega) only [i0, i1, i_lt, i_le, i_eq, i_add, i_sub, i_mul, i_neg, i_ofNat, i_rem, i_div, w_in, w_in2, w_cnt, w_cnt2, z01, z01', il, li, lc_ge, lc_le, lc_gt, lc_lt, lc_eq, l_ofNat, l0, l_eq, l_lt, l_le]) <;> omega)) (h_ainN (by omega) (by omega) (h_ainN hb (by omega) (h_ainN hb (by omega) (h_ainN (by omega) (by omega) ?_)))))
    have v1 : (ySa S 127 f).2.2.1 125 p = vtI (rv S 266) p := (congrFun (ySa_ne S f (by omega)) p).trans (C_vot h (by omega))
    have v2 : (ySa S 127 f).2.2.1 125 b = vtI (rv S 266) b := (congrFun (ySa_ne S f (by omega)) b).trans (C_vot h hb)
    rw [v1, v2, ySa_at, i_add, show (p : Int) + 1 = ((p + 1 : Nat) : Int) by omega]
    unfold bsS
    by_cases hc : vtI (rv S 266) p * (f b + Int32.ofInt 1) ≤ vtI (rv S 266) b * (f p + Int32.ofInt 1)
    · simp only [hc, if_true]
      exact c_sh1 h m n (p + 1) b (by omega) hb
    · simp only [hc, if_false]
      exact c_sh1 h m n (p + 1) p (by omega) (by omega)
theorem c_sh0 (h : Rel T S) {N s : Nat} (hs : s ≤ 30) : ∀ (k n i : Nat) (f : Nat → Int32), i + k = s → 10 * k < n → lX4_seatsByShares N n 0 (Int32.ofInt (s : Int)) (Int32.ofInt (i : Int)) 0 0 (ySa S 127 f) = some (ySa S 127 (shS (vtI (rv S 266)) k f))
  | 0, n, i, f, hk, hn => by
    obtain ⟨n, rfl⟩ : ∃ k, n = k + 1 := ⟨n - 1, by omega⟩
    rw [lX4_seatsByShares]
    exact h_pos rfl (h_pos (by first | omega | ((simp (disch := omega) only [i0, i1, i_lt, i_le, i_eq, i_add, i_sub, i_mul, i_neg, i_ofNat, i_rem, i_div, w_in, w_in2, w_cnt, w_cnt2, z01, z01', il, li, lc_ge, lc_le, lc_gt, lc_lt, lc_eq, l_ofNat, l0, l_eq, l_lt, l_le]) <;> omega)) rfl)
  | k + 1, n, i, f, hk, hn => by
    obtain ⟨n, rfl⟩ : ∃ j, n = j + 4 + 1 + 1 := ⟨n - 6, by omega⟩
    rw [lX4_seatsByShares]
    refine h_pos rfl (h_neg (by first | omega | ((simp (disch := omega) only [i0, i1, i_lt, i_le, i_eq, i_add, i_sub, i_mul, i_neg, i_ofNat, i_rem, i_div, w_in, w_in2, w_cnt, w_cnt2, z01, z01', il, li, lc_ge, lc_le, lc_gt, lc_lt, lc_eq, l_ofNat, l0, l_eq, l_lt, l_le]) <;> omega)) ((c_sh1 h 4 n 1 0 (by omega) (by omega)).trans ?_))
    rw [i_add, show (i : Int) + 1 = ((i + 1 : Nat) : Int) by omega]
    exact c_sh0 h hs k n (i + 1) _ (by omega) (by omega)
theorem c_sh (h : Rel T S) {N : Nat} (hN : 2000000 ≤ N) {s : Nat} (hs : s ≤ 30) : ∃ f, (∀ j, j < 5 → f j = Int32.ofInt 0) ∧ fX4_seatsByShares N (Int32.ofInt (s : Int)) S = some (ySa S 127 (shS (vtI (rv S 266)) s f)) := by
  obtain ⟨f, e1, e2⟩ := c_fill (S := S) (N := N) 5 N 0 (S.2.2.1 127) (by omega) (by omega) (fun j hj => by omega)
  rw [ySa_self] at e2
  exact ⟨f, e1, h_bind e2 (c_sh0 h hs s N 0 f (by omega) (by omega))⟩
/-- rests -/
def qtI (A : Nat → Int) (s p : Nat) : Int32 := vtI A p * Int32.ofInt (s : Int) / Int32.ofInt (avA A)
def lfI (A : Nat → Int) (s p : Nat) : Int32 := vtI A p * Int32.ofInt (s : Int) - vtI A p * Int32.ofInt (s : Int) / Int32.ofInt (avA A) * Int32.ofInt (avA A)
def qtZ (A : Nat → Int) (s p : Nat) : Int := A (87 + p) * s / avA A
theorem qt_rng (h : Rel T S) {s : Nat} (hs : s ≤ 30) (hav : 0 < avA (rv S 266)) {p : Nat} (hp : p < 5) : qtI (rv S 266) s p = Int32.ofInt (qtZ (rv S 266) s p) ∧ 0 ≤ qtZ (rv S 266) s p ∧ qtZ (rv S 266) s p ≤ 29970 := by
  have hv := R_vot h hp
  have ha := av_rng h
  have hm : 0 ≤ rv S 266 (87 + p) * (s : Int) ∧ rv S 266 (87 + p) * (s : Int) ≤ 29970 := by
    refine ⟨Int.mul_nonneg (by omega) (by omega), ?_⟩
    have : rv S 266 (87 + p) * (s : Int) ≤ 999 * 30 := Int.mul_le_mul (by omega) (by omega) (by omega) (by omega)
    omega
  unfold qtI vtI qtZ
  rw [i_mul, i_div (by omega) (by omega) (by omega) (by omega)]
  refine ⟨rfl, Int.ediv_nonneg (by omega) (by omega), ?_⟩
  have := Int.ediv_le_self (avA (rv S 266)) hm.1
  omega
def gvZ (A : Nat → Int) (s : Nat) : Nat → Nat → Int → Int
  | _, 0, x => x
  | p, m + 1, x => gvZ A s (p + 1) m (x + qtZ A s p)
theorem gv_rng (h : Rel T S) {s : Nat} (hs : s ≤ 30) (hav : 0 < avA (rv S 266)) : 0 ≤ gvZ (rv S 266) s 0 5 0 ∧ gvZ (rv S 266) s 0 5 0 ≤ s := by
  have q0 := (qt_rng h hs hav (p := 0) (by omega)).2
  have q1 := (qt_rng h hs hav (p := 1) (by omega)).2
  have q2 := (qt_rng h hs hav (p := 2) (by omega)).2
  have q3 := (qt_rng h hs hav (p := 3) (by omega)).2
  have q4 := (qt_rng h hs hav (p := 4) (by omega)).2
  have e : gvZ (rv S 266) s 0 5 0 = qtZ (rv S 266) s 0 + qtZ (rv S 266) s 1 + qtZ (rv S 266) s 2 + qtZ (rv S 266) s 3 + qtZ (rv S 266) s 4 := by
    simp only [gvZ, Nat.zero_add, Nat.reduceAdd]
    omega
  rw [e]
  refine ⟨by omega, ?_⟩
  have m : ∀ p, qtZ (rv S 266) s p * avA (rv S 266) ≤ rv S 266 (87 + p) * s := fun p => Int.ediv_mul_le _ (by omega)
  have m0 := m 0
  have m1 := m 1
  have m2 := m 2
  have m3 := m 3
  have m4 := m 4
  apply Int.le_of_mul_le_mul_right (a := avA (rv S 266)) ?_ hav
  have e2 : (s : Int) * avA (rv S 266) = rv S 266 (87 + 0) * s + rv S 266 (87 + 1) * s + rv S 266 (87 + 2) * s + rv S 266 (87 + 3) * s + rv S 266 (87 + 4) * s := by
    unfold avA
    rw [Int.mul_comm, Int.add_mul, Int.add_mul, Int.add_mul, Int.add_mul]
  rw [e2, Int.add_mul, Int.add_mul, Int.add_mul, Int.add_mul]
  omega
def wQ (S : yS) (b c : Nat → Int32) : yS := ySa (ySa S 128 b) 129 c
theorem wQ_b (S : yS) (b c : Nat → Int32) : (wQ S b c).2.2.1 128 = b := (ySa_ne _ c (by omega)).trans (ySa_at S 128 b)
theorem wQ_c (S : yS) (b c : Nat → Int32) : (wQ S b c).2.2.1 129 = c := ySa_at _ 129 c
theorem wQ_up (S : yS) (b c b' c' : Nat → Int32) : ySa (ySa (wQ S b c) 128 b') 129 c' = wQ S b' c' := by
  unfold wQ
  have e : yU (yU (yU (yU S.2.2.1 128 b) 129 c) 128 b') 129 c' = yU (yU S.2.2.1 128 b') 129 c' := by
    funext j
    unfold yU
    by_cases h1 : j = 129
    · simp only [h1, if_true]
    · by_cases h2 : j = 128
      · simp only [h1, h2, if_true, if_false]
      · simp only [h1, h2, if_false]
  show (S.1, S.2.1, yU (yU (yU (yU S.2.2.1 128 b) 129 c) 128 b') 129 c', S.2.2.2) = _
  rw [e]
  rfl
theorem wQ_b1 (S : yS) (b c b' : Nat → Int32) : (ySa (wQ S b c) 128 b').2.2.1 129 = c := (ySa_ne _ b' (by omega)).trans (wQ_c S b c)
theorem wQ_b2 (S : yS) (b c b' c' : Nat → Int32) : (ySa (ySa (wQ S b c) 128 b') 129 c').2.2.1 128 = b' := (ySa_ne _ c' (by omega)).trans (ySa_at _ 128 b')
theorem c_re0 (h : Rel T S) {N s : Nat} (hs : s ≤ 30) (hav : 0 < avA (rv S 266)) : ∀ (m p : Nat) (x : Int) (b c : Nat → Int32), p + m = 5 → (∀ k, k < p → b k = qtI (rv S 266) s k ∧ c k = lfI (rv S 266) s k) → ∃ b' c', (∀ k, k < 5 → b' k = qtI (rv S 266) s k ∧ c' k = lfI (rv S 266) s k) ∧ ∀ n, lX4_seatsByRests N (n + m + 1) 0 (Int32.ofInt (s : Int)) (Int32.ofInt (avA (rv S 266))) (Int32.ofInt ((s : Int) - x)) (Int32.ofInt (p : Int)) 0 0 (wQ S b c) = lX4_seatsByRests N n 1 0 0 (Int32.ofInt ((s : Int) - gvZ (rv S 266) s p m x)) (Int32.ofInt 0) 0 0 (wQ S b' c')
  | 0, p, x, b, c, hm, hf => by
    refine ⟨b, c, fun k hk => hf k (by omega), fun n => ?_⟩
    rw [lX4_seatsByRests]
    exact h_pos rfl (h_pos (by first | omega | ((simp (disch := omega) only [i0, i1, i_lt, i_le, i_eq, i_add, i_sub, i_mul, i_neg, i_ofNat, i_rem, i_div, w_in, w_in2, w_cnt, w_cnt2, z01, z01', il, li, lc_ge, lc_le, lc_gt, lc_lt, lc_eq, l_ofNat, l0, l_eq, l_lt, l_le]) <;> omega)) rfl)
  | m + 1, p, x, b, c, hm, hf => by
    have ha := av_rng h
    have hq := qt_rng h hs hav (show p < 5 by omega)
    obtain ⟨b', c', e1, e2⟩ := c_re0 h (N := N) hs hav m (p + 1) (x + qtZ (rv S 266) s p) (upd b p (qtI (rv S 266) s p)) (upd c p (lfI (rv S 266) s p)) (by omega) (fun k hk => by
      by_cases h0 : k = p
      · subst h0; rw [upd_at, upd_at]; exact ⟨rfl, rfl⟩
      · rw [upd_ne h0, upd_ne h0]; exact hf k (by omega))
    refine ⟨b', c', e1, fun n => ?_⟩
    rw [show n + (m + 1) + 1 = (n + m + 1) + 1 by omega, lX4_seatsByRests]
    have v1 : (wQ S b c).2.2.1 125 p = vtI (rv S 266) p := C_vot h (by omega)
    refine h_pos rfl (h_neg (by first | omega | ((simp (disch := omega) only [i0, i1, i_lt, i_le, i_eq, i_add, i_sub, i_mul, i_neg, i_ofNat, i_rem, i_div, w_in, w_in2, w_cnt, w_cnt2, z01, z01', il, li, lc_ge, lc_le, lc_gt, lc_lt, lc_eq, l_ofNat, l0, l_eq, l_lt, l_le]) <;> omega)) (h_ainN (by omega) (by omega) (h_neg (by first | omega | ((simp (disch := omega) only [i0, i1, i_lt, i_le, i_eq, i_add, i_sub, i_mul, i_neg, i_ofNat, i_rem, i_div, w_in, w_in2, w_cnt, w_cnt2, z01, z01', il, li, lc_ge, lc_le, lc_gt, lc_lt, lc_eq, l_ofNat, l0, l_eq, l_lt, l_le]) <;> omega)) (h_neg (by first | omega | ((simp (disch := omega) only [i0, i1, i_lt, i_le, i_eq, i_add, i_sub, i_mul, i_neg, i_ofNat, i_rem, i_div, w_in, w_in2, w_cnt, w_cnt2, z01, z01', il, li, lc_ge, lc_le, lc_gt, lc_lt, lc_eq, l_ofNat, l0, l_eq, l_lt, l_le]) <;> omega)) (h_ainN (by omega) (by omega) (h_pst (h_neg (by first | omega | ((simp (disch := omega) only [i0, i1, i_lt, i_le, i_eq, i_add, i_sub, i_mul, i_neg, i_ofNat, i_rem, i_div, w_in, w_in2, w_cnt, w_cnt2, z01, z01', il, li, lc_ge, lc_le, lc_gt, lc_lt, lc_eq, l_ofNat, l0, l_eq, l_lt, l_le]) <;> omega)) (h_neg (by first | omega | ((simp (disch := omega) only [i0, i1, i_lt, i_le, i_eq, i_add, i_sub, i_mul, i_neg, i_ofNat, i_rem, i_div, w_in, w_in2, w_cnt, w_cnt2, z01, z01', il, li, lc_ge, lc_le, lc_gt, lc_lt, lc_eq, l_ofNat, l0, l_eq, l_lt, l_le]) <;> omega)) (h_ainN (by omega) (by omega) (h_pst (h_ainN (by omega) (by omega) ?_)))))))))))
    rw [v1, wQ_b, wQ_b1, wQ_b2, wQ_up, upd_at]
    have e3 : vtI (rv S 266) p * Int32.ofInt (s : Int) / Int32.ofInt (avA (rv S 266)) = qtI (rv S 266) s p := rfl
    have e4 : vtI (rv S 266) p * Int32.ofInt (s : Int) - vtI (rv S 266) p * Int32.ofInt (s : Int) / Int32.ofInt (avA (rv S 266)) * Int32.ofInt (avA (rv S 266)) = lfI (rv S 266) s p := rfl
    rw [e4, e3]
    rw [hq.1, i_sub, i_add, show (p : Int) + 1 = ((p + 1 : Nat) : Int) by omega, show (s : Int) - x - qtZ (rv S 266) s p = (s : Int) - (x + qtZ (rv S 266) s p) by omega, ← hq.1]
    exact e2 n
theorem c_re2 {N : Nat} {l3 l4 : Int32} {b c : Nat → Int32} : ∀ (m n p w : Nat), p + m = 5 → w < 5 → lX4_seatsByRests N (n + m + 1) 2 0 0 l3 l4 (Int32.ofInt (w : Int)) (Int32.ofInt (p : Int)) (wQ S b c) = lX4_seatsByRests N n 1 0 0 l3 (l4 + Int32.ofInt 1) 0 0 (wQ S (upd b (bcS c p m w) (b (bcS c p m w) + Int32.ofInt 1)) (upd c (bcS c p m w) (Int32.ofInt (-1))))
  | 0, n, p, w, hm, hw => by
    rw [lX4_seatsByRests]
    refine h_neg (by omega) (h_neg (by omega) (h_pos (by first | omega | ((simp (disch := omega) only [i0, i1, i_lt, i_le, i_eq, i_add, i_sub, i_mul, i_neg, i_ofNat, i_rem, i_div, w_in, w_in2, w_cnt, w_cnt2, z01, z01', il, li, lc_ge, lc_le, lc_gt, lc_lt, lc_eq, l_ofNat, l0, l_eq, l_lt, l_le]) <;> omega)) (h_ainN hw (by omega) (h_ainN hw (by omega) (h_pst (h_ainN hw (by omega) (h_pst ?_)))))))
    rw [wQ_b, wQ_b1, wQ_up]
    rfl
  | m + 1, n, p, w, hm, hw => by
    rw [show n + (m + 1) + 1 = (n + m + 1) + 1 by omega, lX4_seatsByRests]
    refine h_neg (by omega) (h_neg (by omega) (h_neg (by first | omega | ((simp (disch := omega) only [i0, i1, i_lt, i_le, i_eq, i_add, i_sub, i_mul, i_neg, i_ofNat, i_rem, i_div, w_in, w_in2, w_cnt, w_cnt2, z01, z01', il, li, lc_ge, lc_le, lc_gt, lc_lt, lc_eq, l_ofNat, l0, l_eq, l_lt, l_le]) <;> omega)) (h_ainN (by omega) (by omega) (h_ainN hw (by omega) ?_))))
    rw [wQ_c, i_add, show (p : Int) + 1 = ((p + 1 : Nat) : Int) by omega]
    unfold bcS
    by_cases hc : c p ≤ c w
    · simp only [hc, if_true]
      exact c_re2 m n (p + 1) w (by omega) hw
    · simp only [hc, if_false]
      exact c_re2 m n (p + 1) p (by omega) (by omega)
theorem c_re1 {N k0 : Nat} (hk0 : k0 ≤ 30) : ∀ (k n i : Nat) (b c : Nat → Int32), i + k = k0 → 10 * k < n → lX4_seatsByRests N n 1 0 0 (Int32.ofInt (k0 : Int)) (Int32.ofInt (i : Int)) 0 0 (wQ S b c) = some (wQ S (rsK k (b, c)).1 (rsK k (b, c)).2)
  | 0, n, i, b, c, hk, hn => by
    obtain ⟨n, rfl⟩ : ∃ k, n = k + 1 := ⟨n - 1, by omega⟩
    rw [lX4_seatsByRests]
    exact h_neg (by omega) (h_pos rfl (h_pos (by first | omega | ((simp (disch := omega) only [i0, i1, i_lt, i_le, i_eq, i_add, i_sub, i_mul, i_neg, i_ofNat, i_rem, i_div, w_in, w_in2, w_cnt, w_cnt2, z01, z01', il, li, lc_ge, lc_le, lc_gt, lc_lt, lc_eq, l_ofNat, l0, l_eq, l_lt, l_le]) <;> omega)) rfl))
  | k + 1, n, i, b, c, hk, hn => by
    obtain ⟨n, rfl⟩ : ∃ j, n = j + 4 + 1 + 1 := ⟨n - 6, by omega⟩
    rw [lX4_seatsByRests]
    refine h_neg (by omega) (h_pos rfl (h_neg (by first | omega | ((simp (disch := omega) only [i0, i1, i_lt, i_le, i_eq, i_add, i_sub, i_mul, i_neg, i_ofNat, i_rem, i_div, w_in, w_in2, w_cnt, w_cnt2, z01, z01', il, li, lc_ge, lc_le, lc_gt, lc_lt, lc_eq, l_ofNat, l0, l_eq, l_lt, l_le]) <;> omega)) ((c_re2 4 n 1 0 (by omega) (by omega)).trans ?_)))
    rw [i_add, show (i : Int) + 1 = ((i + 1 : Nat) : Int) by omega]
    exact c_re1 hk0 k n (i + 1) _ _ (by omega) (by omega)
def k0R (A : Nat → Int) (s : Nat) : Nat := ((s : Int) - gvZ A s 0 5 0).toNat
theorem c_re (h : Rel T S) {N : Nat} (hN : 2000000 ≤ N) {s : Nat} (hs : s ≤ 30) (hav : 0 < avA (rv S 266)) : ∃ b c, (∀ k, k < 5 → b k = qtI (rv S 266) s k ∧ c k = lfI (rv S 266) s k) ∧ fX4_seatsByRests N (Int32.ofInt (s : Int)) S = some (wQ S (rsK (k0R (rv S 266) s) (b, c)).1 (rsK (k0R (rv S 266) s) (b, c)).2) := by
  have hg := gv_rng h hs hav
  obtain ⟨b, c, e1, e2⟩ := c_re0 h (N := N) hs hav 5 0 0 (S.2.2.1 128) (S.2.2.1 129) (by omega) (fun k hk => by omega)
  refine ⟨b, c, e1, h_bind (c_avF h hN) ?_⟩
  have e3 : wQ S (S.2.2.1 128) (S.2.2.1 129) = S := by
    unfold wQ
    rw [ySa_self, ySa_self]
  rw [e3] at e2
  have key : ∀ M, 400 ≤ M → lX4_seatsByRests N M 0 (Int32.ofInt (s : Int)) (Int32.ofInt (avA (rv S 266))) (Int32.ofInt (s : Int)) (Int32.ofInt 0) 0 0 S = some (wQ S (rsK (k0R (rv S 266) s) (b, c)).1 (rsK (k0R (rv S 266) s) (b, c)).2) := by
    intro M hM
    obtain ⟨n, rfl⟩ : ∃ j, M = j + 5 + 1 := ⟨M - 6, by omega⟩
    have e4 := e2 n
    rw [Int.sub_zero] at e4
    refine e4.trans ?_
    have e5 : (s : Int) - gvZ (rv S 266) s 0 5 0 = (k0R (rv S 266) s : Nat) := by unfold k0R; omega
    rw [e5]
    exact c_re1 (by unfold k0R; omega) _ n 0 b c (by omega) (by unfold k0R; omega)
  exact key N (by omega)
end PMS
