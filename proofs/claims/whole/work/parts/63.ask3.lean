/-! ===== the tape; who is due; whom; agree; the habit ===== -/
theorem Rel_tape {T : yK} {S S2 : yS} (h : Rel T S) (f1 : ∀ i, i ≠ 251 → i ≠ 265 → S2.1 i = S.1 i) (f5 : ∀ k, k ≠ 4 → S2.1 265 k = S.1 265 k) (f2 : ∀ i, i ≠ 252 → i ≠ 269 → S2.2.2.1 i = S.2.2.1 i) (f3 : S2.2.2.2.2 = S.2.2.2.2) (g : tpR S2) : Rel T S2 := by
  obtain ⟨c0, c1, r0, r1, ht, hf, hx⟩ := h
  have e6 : rv S2 266 = rv S 266 := rv_congr (f2 266 (by omega) (by omega))
  have e7 : rv S2 267 = rv S 267 := rv_congr (f2 267 (by omega) (by omega))
  unfold Rel
  rw [e6, e7]
  refine ⟨cR_frame c0 r0 (fun i a b => f1 i (by omega) (by omega)) (fun i a b c => f2 i (by omega) (by omega)) (by rw [f3]), cR_frame c1 r1 (fun i a b => f1 i (by omega) (by omega)) (fun i a b c => f2 i (by omega) (by omega)) (by rw [f3]), r0, r1, g, ?_, ?_⟩
  · unfold flR
    rw [f1 16 (by omega) (by omega), f5 5 (by omega), f5 6 (by omega), f5 23 (by omega)]; exact hf
  · exact txR_congr hx (fun i hi => f1 i (by omega) (by omega)) (fun i hi => f2 i (by omega) (by omega)) (f2 268 (by omega) (by omega)) f3 (by rw [e6]) (by rw [e7])
def tQ (S : yS) (f : Nat → Int32) (n : Nat) : yS := ySi (ySa S 252 f) 251 1 (Int32.ofInt (n : Int))
def uQ (S : yS) (f : Nat → Int32) (n : Nat) : yS := ySi (ySa S 269 f) 265 4 (Int32.ofInt (n : Int))
theorem ySi_ySi (S : yS) (i k : Nat) (u v : Int32) : ySi (ySi S i k u) i k v = ySi S i k v := by
  have : yU (yU S.1 i (yU (S.1 i) k u)) i (yU (yU S.1 i (yU (S.1 i) k u) i) k v) = yU S.1 i (yU (S.1 i) k v) := by
    rw [yU_eq]
    have e : yU (yU (S.1 i) k u) k v = yU (S.1 i) k v := by
      funext j
      unfold yU
      by_cases h : j = k
      · rw [if_pos h, if_pos h]
      · rw [if_neg h, if_neg h, if_neg h]
    rw [e]
    funext j
    unfold yU
    by_cases h : j = i
    · rw [if_pos h, if_pos h]
    · rw [if_neg h, if_neg h, if_neg h]
  show (yU (yU S.1 i (yU (S.1 i) k u)) i (yU (yU S.1 i (yU (S.1 i) k u) i) k v), S.2) = _
  rw [this]
  rfl
theorem tQ_up (S : yS) (f g : Nat → Int32) (n m : Nat) : ySi (ySa (tQ S f n) 252 g) 251 1 (Int32.ofInt (m : Int)) = tQ S g m := by
  have e : ySa (tQ S f n) 252 g = ySi (ySa (ySa S 252 f) 252 g) 251 1 (Int32.ofInt (n : Int)) := rfl
  rw [e, ySa_ySa, ySi_ySi]; rfl
theorem uQ_up (S : yS) (f g : Nat → Int32) (n m : Nat) : ySi (ySa (uQ S f n) 269 g) 265 4 (Int32.ofInt (m : Int)) = uQ S g m := by
  have e : ySa (uQ S f n) 269 g = ySi (ySa (ySa S 269 f) 269 g) 265 4 (Int32.ofInt (n : Int)) := rfl
  rw [e, ySa_ySa, ySi_ySi]; rfl
theorem tQ_n (S : yS) (f : Nat → Int32) (n : Nat) : (tQ S f n).1 251 1 = Int32.ofInt (n : Int) := fld_at
theorem uQ_n (S : yS) (f : Nat → Int32) (n : Nat) : (uQ S f n).1 265 4 = Int32.ofInt (n : Int) := fld_at
theorem tQ_f (S : yS) (f : Nat → Int32) (n : Nat) : (tQ S f n).2.2.1 252 = f := ySa_at S 252 f
theorem uQ_f (S : yS) (f : Nat → Int32) (n : Nat) : (uQ S f n).2.2.1 269 = f := ySa_at S 269 f
/-- four bytes behind -/
def adB (v : Int32) (sh : Int) : Int32 := (v >>> (Int32.ofInt sh &&& 31)) &&& Int32.ofInt 255
def ad4 (f : Nat → Int32) (n : Nat) (v : Int32) : Nat → Int32 := upd (upd (upd (upd f n (adB v 24)) (n + 1) (adB v 16)) (n + 2) (adB v 8)) (n + 3) (adB v 0)
theorem c_add4 {S : yS} {f : Nat → Int32} {n N : Nat} (hN : 2000000 ≤ N) (hn : n + 4 ≤ 300) (v : Int32) : fX9_add N v (tQ S f n) = some (tQ S (ad4 f n v) (n + 4)) := by
  unfold fX9_add
  have st : ∀ (g : Nat → Int32) (m k : Nat) (sh : Int), 0 ≤ sh → sh ≤ 24 → m < 300 → lX9_add N (k + 1) v (Int32.ofInt sh) (tQ S g m) = lX9_add N k v (Int32.ofInt (sh - 8)) (tQ S (upd g m (adB v sh)) (m + 1)) := by
    intro g m k sh h1 h2 h3
    rw [lX9_add]
    refine h_neg (by first | omega | ((simp (disch := omega) only [i0, i1, i_lt, i_le, i_eq, i_add, i_sub, i_mul, i_neg, i_ofNat, i_rem, i_div, w_in, w_in2, w_cnt, w_cnt2, z01, z01', il, li, lc_ge, lc_le, lc_gt, lc_lt, lc_eq, l_ofNat, l0, l_eq, l_lt, l_le]) <;> omega)) ?_
    rw [tQ_n]
    refine h_neg (by first | omega | ((simp (disch := omega) only [i0, i1, i_lt, i_le, i_eq, i_add, i_sub, i_mul, i_neg, i_ofNat, i_rem, i_div, w_in, w_in2, w_cnt, w_cnt2, z01, z01', il, li, lc_ge, lc_le, lc_gt, lc_lt, lc_eq, l_ofNat, l0, l_eq, l_lt, l_le]) <;> omega)) ?_
    refine h_ainN (by omega) (by omega) (h_pst (h_pst ?_))
    rw [show (ySa (tQ S g m) 252 (upd ((tQ S g m).2.2.1 252) m ((v >>> (Int32.ofInt sh &&& 31)) &&& Int32.ofInt 255))).1 251 1 = (tQ S g m).1 251 1 from rfl, tQ_n, tQ_f, i_add, i_add, show (m : Int) + 1 = ((m + 1 : Nat) : Int) by omega, tQ_up]
    rfl
  have key : ∀ M, 5 ≤ M → lX9_add N M v (Int32.ofInt 24) (tQ S f n) = some (tQ S (ad4 f n v) (n + 4)) := by
    intro M hM
    obtain ⟨k, rfl⟩ : ∃ k, M = k + 1 + 1 + 1 + 1 + 1 := ⟨M - 5, by omega⟩
    rw [st _ _ _ 24 (by omega) (by omega) (by omega), st _ _ _ (24 - 8) (by omega) (by omega) (by omega), st _ _ _ (24 - 8 - 8) (by omega) (by omega) (by omega), st _ _ _ (24 - 8 - 8 - 8) (by omega) (by omega) (by omega), lX9_add]
    exact h_pos (by decide) rfl
  exact key N (by omega)
theorem r_add4 {S : yS} {f : Nat → Int32} {n N : Nat} (hN : 2000000 ≤ N) (hn : n + 4 ≤ 300) (v : Int32) : fX12_four N v (uQ S f n) = some (uQ S (ad4 f n v) (n + 4)) := by
  unfold fX12_four
  have st : ∀ (g : Nat → Int32) (m k : Nat) (sh : Int), 0 ≤ sh → sh ≤ 24 → m < 300 → lX12_four N (k + 1) v (Int32.ofInt sh) (uQ S g m) = lX12_four N k v (Int32.ofInt (sh - 8)) (uQ S (upd g m (adB v sh)) (m + 1)) := by
    intro g m k sh h1 h2 h3
    rw [lX12_four]
    refine h_neg (by first | omega | ((simp (disch := omega) only [i0, i1, i_lt, i_le, i_eq, i_add, i_sub, i_mul, i_neg, i_ofNat, i_rem, i_div, w_in, w_in2, w_cnt, w_cnt2, z01, z01', il, li, lc_ge, lc_le, lc_gt, lc_lt, lc_eq, l_ofNat, l0, l_eq, l_lt, l_le]) <;> omega)) ?_
    rw [uQ_n]
    refine h_ainN (by omega) (by omega) (h_pst (h_pst ?_))
    rw [show (ySa (uQ S g m) 269 (upd ((uQ S g m).2.2.1 269) m ((v >>> (Int32.ofInt sh &&& 31)) &&& Int32.ofInt 255))).1 265 4 = (uQ S g m).1 265 4 from rfl, uQ_n, uQ_f, i_add, i_add, show (m : Int) + 1 = ((m + 1 : Nat) : Int) by omega, uQ_up]
    rfl
  have key : ∀ M, 5 ≤ M → lX12_four N M v (Int32.ofInt 24) (uQ S f n) = some (uQ S (ad4 f n v) (n + 4)) := by
    intro M hM
    obtain ⟨k, rfl⟩ : ∃ k, M = k + 1 + 1 + 1 + 1 + 1 := ⟨M - 5, by omega⟩
    rw [st _ _ _ 24 (by omega) (by omega) (by omega), st _ _ _ (24 - 8) (by omega) (by omega) (by omega), st _ _ _ (24 - 8 - 8) (by omega) (by omega) (by omega), st _ _ _ (24 - 8 - 8 - 8) (by omega) (by omega) (by omega), lX12_four]
    exact h_pos (by decide) rfl
  exact key N (by omega)
def byE (f g : Nat → Int32) (n : Nat) : Prop := ∀ k, k < n → f k = g k ∧ 0 ≤ (f k).toInt ∧ (f k).toInt ≤ 255
theorem byE_upd {f g : Nat → Int32} {n : Nat} {v : Int32} {sh : Int} (h : byE f g n) : byE (upd f n (adB v sh)) (upd g n (adB v sh)) (n + 1) := by
  intro k hk
  by_cases hn : k = n
  · subst hn
    rw [upd_at, upd_at]
    exact ⟨rfl, i_255 _⟩
  · rw [upd_ne hn, upd_ne hn]
    exact h k (by omega)
theorem byE_4 {f g : Nat → Int32} {n : Nat} {v : Int32} (h : byE f g n) : byE (ad4 f n v) (ad4 g n v) (n + 4) := byE_upd (byE_upd (byE_upd (byE_upd h)))
theorem tQ_self {S : yS} {n : Nat} (h : S.1 251 1 = Int32.ofInt (n : Int)) : tQ S (S.2.2.1 252) n = S := by
  unfold tQ
  rw [ySa_self, ← h]
  have : yU S.1 251 (yU (S.1 251) 1 (S.1 251 1)) = S.1 := by
    funext j
    unfold yU
    by_cases hj : j = 251
    · rw [if_pos hj, hj]
      funext k
      by_cases hk : k = 1
      · rw [if_pos hk, hk]
      · rw [if_neg hk]
    · rw [if_neg hj]
  show (yU S.1 251 (yU (S.1 251) 1 (S.1 251 1)), S.2) = S
  rw [this]
theorem uQ_self {S : yS} {n : Nat} (h : S.1 265 4 = Int32.ofInt (n : Int)) : uQ S (S.2.2.1 269) n = S := by
  unfold uQ
  rw [ySa_self, ← h]
  have : yU S.1 265 (yU (S.1 265) 4 (S.1 265 4)) = S.1 := by
    funext j
    unfold yU
    by_cases hj : j = 265
    · rw [if_pos hj, hj]
      funext k
      by_cases hk : k = 4
      · rw [if_pos hk, hk]
      · rw [if_neg hk]
    · rw [if_neg hj]
  show (yU S.1 265 (yU (S.1 265) 4 (S.1 265 4)), S.2) = S
  rw [this]
section PMS
variable {T : yK} {S : yS}
theorem pm_feed (h : Rel T S) {N : Nat} (hN : 2000000 ≤ N) (v0 v1 v2 v3 v4 : Int32) : PM T S (fX11_feed N v0 v1 v2 v3 v4) (fX12_feed N v0 v1 v2 v3 v4) := by
  obtain ⟨n, n1, n2, n3, n4⟩ := h.2.2.2.2.1
  by_cases hn : n + 20 ≤ 300
  · let f5 : Nat → Int32 := ad4 (ad4 (ad4 (ad4 (ad4 (S.2.2.1 252) n v0) (n + 4) v1) (n + 8) v2) (n + 12) v3) (n + 16) v4
    let g5 : Nat → Int32 := ad4 (ad4 (ad4 (ad4 (ad4 (S.2.2.1 269) n v0) (n + 4) v1) (n + 8) v2) (n + 12) v3) (n + 16) v4
    have hE : byE f5 g5 (n + 20) := byE_4 (byE_4 (byE_4 (byE_4 (byE_4 n4))))
    refine ⟨Int32.ofInt ((n + 20 : Nat) : Int), tQ S f5 (n + 20), uQ (tQ S f5 (n + 20)) g5 (n + 20), ?_, ?_, ?_⟩
    · unfold fX11_feed
      rw [n2, i_add]
      refine h_pos (by first | omega | ((simp (disch := omega) only [i0, i1, i_lt, i_le, i_eq, i_add, i_sub, i_mul, i_neg, i_ofNat, i_rem, i_div, w_in, w_in2, w_cnt, w_cnt2, z01, z01', il, li, lc_ge, lc_le, lc_gt, lc_lt, lc_eq, l_ofNat, l0, l_eq, l_lt, l_le]) <;> omega)) ?_
      have e := c_add4 (S := S) (f := S.2.2.1 252) (n := n) hN (by omega) v0
      rw [tQ_self n2] at e
      refine h_bind e (h_bind (c_add4 hN (by omega) v1) (h_bind (c_add4 hN (by omega) v2) (h_bind (c_add4 hN (by omega) v3) (h_bind (c_add4 hN (by omega) v4) ?_))))
      rw [tQ_n]
    · unfold fX12_feed
      have q3 : (tQ S f5 (n + 20)).1 265 4 = Int32.ofInt (n : Int) := n3
      rw [q3, i_add]
      refine h_pos (by first | omega | ((simp (disch := omega) only [i0, i1, i_lt, i_le, i_eq, i_add, i_sub, i_mul, i_neg, i_ofNat, i_rem, i_div, w_in, w_in2, w_cnt, w_cnt2, z01, z01', il, li, lc_ge, lc_le, lc_gt, lc_lt, lc_eq, l_ofNat, l0, l_eq, l_lt, l_le]) <;> omega)) ?_
      have e := r_add4 (S := tQ S f5 (n + 20)) (f := (tQ S f5 (n + 20)).2.2.1 269) (n := n) hN (by omega) v0
      rw [uQ_self q3] at e
      refine h_bind e (h_bind (r_add4 hN (by omega) v1) (h_bind (r_add4 hN (by omega) v2) (h_bind (r_add4 hN (by omega) v3) (h_bind (r_add4 hN (by omega) v4) ?_))))
      rw [uQ_n]
      rfl
    · refine Rel_tape h (fun i a b => ?_) (fun k hk => ?_) (fun i a b => ?_) rfl ⟨n + 20, by omega, ?_, uQ_n _ _ _, fun k hk => ?_⟩
      · unfold uQ tQ; rw [fld_o b]; exact fld_o a
      · unfold uQ tQ; rw [fld_ne hk]; rfl
      · unfold uQ tQ; exact (ySa_ne _ _ b).trans (ySa_ne _ _ a)
      · exact tQ_n S f5 (n + 20)
      · have := hE k hk
        rw [show rv (uQ (tQ S f5 (n + 20)) g5 (n + 20)) 252 = rf f5 from rfl, show (uQ (tQ S f5 (n + 20)) g5 (n + 20)).2.2.1 252 = f5 from rfl, uQ_f]
        exact this
  · refine ⟨Int32.ofInt (-1), S, S, ?_, ?_, h⟩
    · unfold fX11_feed
      rw [n2, i_add]
      exact h_neg (by first | omega | ((simp (disch := omega) only [i0, i1, i_lt, i_le, i_eq, i_add, i_sub, i_mul, i_neg, i_ofNat, i_rem, i_div, w_in, w_in2, w_cnt, w_cnt2, z01, z01', il, li, lc_ge, lc_le, lc_gt, lc_lt, lc_eq, l_ofNat, l0, l_eq, l_lt, l_le]) <;> omega)) rfl
    · unfold fX12_feed
      rw [n3, i_add]
      exact h_neg (by first | omega | ((simp (disch := omega) only [i0, i1, i_lt, i_le, i_eq, i_add, i_sub, i_mul, i_neg, i_ofNat, i_rem, i_div, w_in, w_in2, w_cnt, w_cnt2, z01, z01', il, li, lc_ge, lc_le, lc_gt, lc_lt, lc_eq, l_ofNat, l0, l_eq, l_lt, l_le]) <;> omega)) rfl
theorem pm_end (h : Rel T S) (v0 : Int32) : PM T S (fX11_end v0) (fX12_end v0) := by
  obtain ⟨a, a1, a2, rfl⟩ := i_ex v0
  obtain ⟨n, n1, n2, n3, n4⟩ := h.2.2.2.2.1
  unfold PM fX11_end fX12_end
  by_cases ha : 0 ≤ a ∧ a ≤ n
  · obtain ⟨m, rfl⟩ := Int.eq_ofNat_of_zero_le ha.1
    refine ⟨Int32.ofInt (m : Int), ySi S 251 1 (Int32.ofInt (m : Int)), ySi (ySi S 251 1 (Int32.ofInt (m : Int))) 265 4 (Int32.ofInt (m : Int)), ?_, ?_, ?_⟩
    · rw [n2]; exact h_pos (by first | omega | ((simp (disch := omega) only [i0, i1, i_lt, i_le, i_eq, i_add, i_sub, i_mul, i_neg, i_ofNat, i_rem, i_div, w_in, w_in2, w_cnt, w_cnt2, z01, z01', il, li, lc_ge, lc_le, lc_gt, lc_lt, lc_eq, l_ofNat, l0, l_eq, l_lt, l_le]) <;> omega)) rfl
    · rw [show (ySi S 251 1 (Int32.ofInt (m : Int))).1 265 4 = S.1 265 4 from rfl, n3]; exact h_pos (by first | omega | ((simp (disch := omega) only [i0, i1, i_lt, i_le, i_eq, i_add, i_sub, i_mul, i_neg, i_ofNat, i_rem, i_div, w_in, w_in2, w_cnt, w_cnt2, z01, z01', il, li, lc_ge, lc_le, lc_gt, lc_lt, lc_eq, l_ofNat, l0, l_eq, l_lt, l_le]) <;> omega)) rfl
    · refine Rel_tape h (fun i a b => ?_) (fun k hk => ?_) (fun i a b => rfl) rfl ⟨m, by omega, ?_, fld_at, fun k hk => n4 k (by omega)⟩
      · rw [fld_o b]; exact fld_o a
      · rw [fld_ne hk]; rfl
      · show (ySi S 251 1 (Int32.ofInt (m : Int))).1 251 1 = _
        exact fld_at
  · refine ⟨Int32.ofInt (-1), S, S, ?_, ?_, h⟩
    · rw [n2]; exact h_neg (by first | omega | ((simp (disch := omega) only [i0, i1, i_lt, i_le, i_eq, i_add, i_sub, i_mul, i_neg, i_ofNat, i_rem, i_div, w_in, w_in2, w_cnt, w_cnt2, z01, z01', il, li, lc_ge, lc_le, lc_gt, lc_lt, lc_eq, l_ofNat, l0, l_eq, l_lt, l_le]) <;> omega)) rfl
    · rw [n3]; exact h_neg (by first | omega | ((simp (disch := omega) only [i0, i1, i_lt, i_le, i_eq, i_add, i_sub, i_mul, i_neg, i_ofNat, i_rem, i_div, w_in, w_in2, w_cnt, w_cnt2, z01, z01', il, li, lc_ge, lc_le, lc_gt, lc_lt, lc_eq, l_ofNat, l0, l_eq, l_lt, l_le]) <;> omega)) rfl
/-! who is due -/
def dueB (A : Nat → Int) (d : Int) (b : Nat) : Bool := !(tb (Int32.ofInt (A 12)) b) && decide (d % A (21 + b) = A (29 + b))
theorem c_gone (h : Rel T S) {b : Nat} (hb : b < 32) : fX2_isGone (Int32.ofInt (b : Int)) S = some (Int32.ofInt (if tb (Int32.ofInt (rv S 266 12)) b = true then 1 else 0)) := by
  unfold fX2_isGone
  rw [C_gone h, in_tb _ hb, i0, i1]
  refine h_pos (by rw [z01']; trivial) rfl
theorem r_gone (h : Rel T S) {b : Nat} (hb : b < 32) : fX12_isGone (Int32.ofInt (b : Int)) S = some (Int32.ofInt (if tb (Int32.ofInt (rv S 266 12)) b = true then 1 else 0)) := by
  unfold fX12_isGone
  rw [rv_eq S 266 12, has_tb _ hb, i0, i1]
  refine h_pos (by rw [z01']; trivial) rfl
theorem c_due (h : Rel T S) {b : Nat} (hb : (b : Int) < rv S 266 0) {d : Int} (hd : 0 ≤ d ∧ d < 1000000) : fX0_isDue (Int32.ofInt (b : Int)) (Int32.ofInt d) S = some (Int32.ofInt (if dueB (rv S 266) d b = true then 1 else 0)) := by
  have h8 := R_i0 h
  have hp := R_bird h hb
  have hp2 := R_per h (show b < 8 by omega)
  have hf2 := R_pha h (show b < 8 by omega)
  unfold fX0_isDue dueB
  refine h_bind (c_gone h (by omega)) ?_
  cases hg : tb (Int32.ofInt (rv S 266 12)) b with
  | true => exact h_pos (by decide) rfl
  | false =>
    refine h_neg (by decide) ?_
    refine h_ainN (by omega) (by omega) ?_
    rw [C_per h (by omega)]
    refine h_neg (by first | omega | ((simp (disch := omega) only [i0, i1, i_lt, i_le, i_eq, i_add, i_sub, i_mul, i_neg, i_ofNat, i_rem, i_div, w_in, w_in2, w_cnt, w_cnt2, z01, z01', il, li, lc_ge, lc_le, lc_gt, lc_lt, lc_eq, l_ofNat, l0, l_eq, l_lt, l_le]) <;> omega)) ?_
    refine h_ainN (by omega) (by omega) ?_
    rw [C_per h (by omega)]
    refine h_neg (by first | omega | ((simp (disch := omega) only [i0, i1, i_lt, i_le, i_eq, i_add, i_sub, i_mul, i_neg, i_ofNat, i_rem, i_div, w_in, w_in2, w_cnt, w_cnt2, z01, z01', il, li, lc_ge, lc_le, lc_gt, lc_lt, lc_eq, l_ofNat, l0, l_eq, l_lt, l_le]) <;> omega)) ?_
    refine h_ainN (by omega) (by omega) ?_
    rw [C_pha h (by omega), i_rem (by omega) (by omega) (by omega) (by omega)]
    have hm : 0 ≤ d % rv S 266 (21 + b) ∧ d % rv S 266 (21 + b) < rv S 266 (21 + b) := ⟨Int.emod_nonneg _ (by omega), Int.emod_lt_of_pos _ (by omega)⟩
    by_cases hq : d % rv S 266 (21 + b) = rv S 266 (29 + b)
    · rw [decide_eq_true hq]
      exact h_neg (by first | omega | ((simp (disch := omega) only [i0, i1, i_lt, i_le, i_eq, i_add, i_sub, i_mul, i_neg, i_ofNat, i_rem, i_div, w_in, w_in2, w_cnt, w_cnt2, z01, z01', il, li, lc_ge, lc_le, lc_gt, lc_lt, lc_eq, l_ofNat, l0, l_eq, l_lt, l_le]) <;> omega)) rfl
    · rw [decide_eq_false hq]
      exact h_pos (by first | omega | ((simp (disch := omega) only [i0, i1, i_lt, i_le, i_eq, i_add, i_sub, i_mul, i_neg, i_ofNat, i_rem, i_div, w_in, w_in2, w_cnt, w_cnt2, z01, z01', il, li, lc_ge, lc_le, lc_gt, lc_lt, lc_eq, l_ofNat, l0, l_eq, l_lt, l_le]) <;> omega)) rfl
theorem r_due (h : Rel T S) {b : Nat} (hb : (b : Int) < rv S 266 0) {d : Int} (hd : 0 ≤ d ∧ d < 900000) : fX12_isDue (Int32.ofInt (b : Int)) (Int32.ofInt d) S = some (Int32.ofInt (if dueB (rv S 266) (rv S 266 6 + d) b = true then 1 else 0)) := by
  have h8 := R_i0 h
  have h6 := R_day h
  have hp := R_bird h hb
  have hp2 := R_per h (show b < 8 by omega)
  have hf2 := R_pha h (show b < 8 by omega)
  unfold fX12_isDue dueB
  refine h_bind (r_gone h (by omega)) ?_
  cases hg : tb (Int32.ofInt (rv S 266 12)) b with
  | true => exact h_pos (by decide) rfl
  | false =>
    refine h_neg (by decide) ?_
    rw [rv_eq S 266 6, i_add, i_add, i_add, show (21 : Int) + (b : Int) = ((21 + b : Nat) : Int) by omega, show (29 : Int) + (b : Int) = ((29 + b : Nat) : Int) by omega]
    refine h_ainN (by omega) (by omega) ?_
    rw [rv_eq S 266 (21 + b)]
    refine h_neg (by first | omega | ((simp (disch := omega) only [i0, i1, i_lt, i_le, i_eq, i_add, i_sub, i_mul, i_neg, i_ofNat, i_rem, i_div, w_in, w_in2, w_cnt, w_cnt2, z01, z01', il, li, lc_ge, lc_le, lc_gt, lc_lt, lc_eq, l_ofNat, l0, l_eq, l_lt, l_le]) <;> omega)) ?_
    refine h_ainN (by omega) (by omega) ?_
    rw [rv_eq S 266 (29 + b), i_rem (by omega) (by omega) (by omega) (by omega)]
    have hm : 0 ≤ (rv S 266 6 + d) % rv S 266 (21 + b) ∧ (rv S 266 6 + d) % rv S 266 (21 + b) < rv S 266 (21 + b) := ⟨Int.emod_nonneg _ (by omega), Int.emod_lt_of_pos _ (by omega)⟩
    by_cases hq : (rv S 266 6 + d) % rv S 266 (21 + b) = rv S 266 (29 + b)
    · rw [decide_eq_true hq]
      exact h_neg (by first | omega | ((simp (disch := omega) only [i0, i1, i_lt, i_le, i_eq, i_add, i_sub, i_mul, i_neg, i_ofNat, i_rem, i_div, w_in, w_in2, w_cnt, w_cnt2, z01, z01', il, li, lc_ge, lc_le, lc_gt, lc_lt, lc_eq, l_ofNat, l0, l_eq, l_lt, l_le]) <;> omega)) rfl
    · rw [decide_eq_false hq]
      exact h_pos (by first | omega | ((simp (disch := omega) only [i0, i1, i_lt, i_le, i_eq, i_add, i_sub, i_mul, i_neg, i_ofNat, i_rem, i_div, w_in, w_in2, w_cnt, w_cnt2, z01, z01', il, li, lc_ge, lc_le, lc_gt, lc_lt, lc_eq, l_ofNat, l0, l_eq, l_lt, l_le]) <;> omega)) rfl
theorem c_dueL (h : Rel T S) {N : Nat} {d : Int} (hd : 0 ≤ d ∧ d < 1000000) : ∀ (m n b : Nat) (x : Int32), (b : Int) + m = rv S 266 0 → m < n → lX0_dueOn N n (Int32.ofInt d) x (Int32.ofInt (b : Int)) S = some (orB (dueB (rv S 266) d) b m x)
  | 0, n + 1, b, x, hm, _ => by
    have h8 := R_i0 h
    rw [lX0_dueOn, C_birds h]
    exact h_pos (by first | omega | ((simp (disch := omega) only [i0, i1, i_lt, i_le, i_eq, i_add, i_sub, i_mul, i_neg, i_ofNat, i_rem, i_div, w_in, w_in2, w_cnt, w_cnt2, z01, z01', il, li, lc_ge, lc_le, lc_gt, lc_lt, lc_eq, l_ofNat, l0, l_eq, l_lt, l_le]) <;> omega)) rfl
  | m + 1, n + 1, b, x, hm, hn => by
    have h8 := R_i0 h
    rw [lX0_dueOn, C_birds h]
    refine h_neg (by first | omega | ((simp (disch := omega) only [i0, i1, i_lt, i_le, i_eq, i_add, i_sub, i_mul, i_neg, i_ofNat, i_rem, i_div, w_in, w_in2, w_cnt, w_cnt2, z01, z01', il, li, lc_ge, lc_le, lc_gt, lc_lt, lc_eq, l_ofNat, l0, l_eq, l_lt, l_le]) <;> omega)) ?_
    refine h_bind (c_due h (by omega) hd) ?_
    rw [i_add, show (b : Int) + 1 = ((b + 1 : Nat) : Int) by omega]
    unfold orB
    cases dueB (rv S 266) d b with
    | false => exact h_pos (by decide) (c_dueL h hd m n (b + 1) x (by omega) (by omega))
    | true => exact h_neg (by decide) (c_dueL h hd m n (b + 1) _ (by omega) (by omega))
theorem r_dueL (h : Rel T S) {N : Nat} {d : Int} (hd : 0 ≤ d ∧ d < 900000) : ∀ (m n b : Nat) (x : Int32), (b : Int) + m = rv S 266 0 → m < n → lX12_dueBy N n (Int32.ofInt d) x (Int32.ofInt (b : Int)) S = some (orB (dueB (rv S 266) (rv S 266 6 + d)) b m x)
  | 0, n + 1, b, x, hm, _ => by
    have h8 := R_i0 h
    rw [lX12_dueBy, rv_eq S 266 0]
    exact h_pos (by first | omega | ((simp (disch := omega) only [i0, i1, i_lt, i_le, i_eq, i_add, i_sub, i_mul, i_neg, i_ofNat, i_rem, i_div, w_in, w_in2, w_cnt, w_cnt2, z01, z01', il, li, lc_ge, lc_le, lc_gt, lc_lt, lc_eq, l_ofNat, l0, l_eq, l_lt, l_le]) <;> omega)) rfl
  | m + 1, n + 1, b, x, hm, hn => by
    have h8 := R_i0 h
    rw [lX12_dueBy, rv_eq S 266 0]
    refine h_neg (by first | omega | ((simp (disch := omega) only [i0, i1, i_lt, i_le, i_eq, i_add, i_sub, i_mul, i_neg, i_ofNat, i_rem, i_div, w_in, w_in2, w_cnt, w_cnt2, z01, z01', il, li, lc_ge, lc_le, lc_gt, lc_lt, lc_eq, l_ofNat, l0, l_eq, l_lt, l_le]) <;> omega)) ?_
    refine h_bind (r_due h (by omega) hd) ?_
    rw [i_add, show (b : Int) + 1 = ((b + 1 : Nat) : Int) by omega, show x ||| Int32.ofInt 0 = x from Int32.or_zero]
    unfold orB
    cases dueB (rv S 266) (rv S 266 6 + d) b with
    | false => exact h_pos (by decide) (r_dueL h hd m n (b + 1) x (by omega) (by omega))
    | true => exact h_neg (by decide) (r_dueL h hd m n (b + 1) _ (by omega) (by omega))
def dueS (A : Nat → Int) (d : Int) : Int32 := orB (dueB A d) 0 (A 0).toNat (Int32.ofInt 0)
theorem c_dueS (h : Rel T S) {N : Nat} (hN : 2000000 ≤ N) {d : Int} (hd : 0 ≤ d ∧ d < 1000000) : fX0_dueOn N (Int32.ofInt d) S = some (dueS (rv S 266) d) := by
  have h8 := R_i0 h
  exact c_dueL h hd (rv S 266 0).toNat N 0 _ (by omega) (by omega)
theorem r_dueS (h : Rel T S) {N : Nat} (hN : 2000000 ≤ N) {d : Int} (hd : 0 ≤ d ∧ d < 900000) : fX12_dueBy N (Int32.ofInt d) S = some (dueS (rv S 266) (rv S 266 6 + d)) := by
  have h8 := R_i0 h
  exact r_dueL h hd (rv S 266 0).toNat N 0 _ (by omega) (by omega)
theorem r_dueN (h : Rel T S) {N : Nat} (hN : 2000000 ≤ N) : fX12_dueNow N S = some (dueS (rv S 266) (rv S 266 6)) := by
  unfold fX12_dueNow
  refine h_bind (r_dueS h hN (by omega)) ?_
  rw [Int.add_zero]
theorem pm_due (h : Rel T S) {N : Nat} (hN : 2000000 ≤ N) : PM0 S (fX11_due N) (fX12_due N) := by
  have h6 := R_day h
  unfold PM0 fX11_due fX12_due
  rw [C_day h]
  exact ⟨_, h_bind (c_dueS h hN (by omega)) rfl, h_bind (r_dueN h hN) rfl⟩
theorem pm_rota (h : Rel T S) {N : Nat} (hN : 2000000 ≤ N) (v0 : Int32) : PM0 S (fX11_rota N v0) (fX12_rota N v0) := by
  obtain ⟨a, a1, a2, rfl⟩ := i_ex v0
  have h6 := R_day h
  unfold PM0 fX11_rota fX12_rota
  rw [C_day h, i_add]
  by_cases ha : 0 ≤ a ∧ a ≤ 999
  · exact ⟨_, h_neg (by first | omega | ((simp (disch := omega) only [i0, i1, i_lt, i_le, i_eq, i_add, i_sub, i_mul, i_neg, i_ofNat, i_rem, i_div, w_in, w_in2, w_cnt, w_cnt2, z01, z01', il, li, lc_ge, lc_le, lc_gt, lc_lt, lc_eq, l_ofNat, l0, l_eq, l_lt, l_le]) <;> omega)) (h_bind (c_dueS h hN (by omega)) rfl), h_neg (by first | omega | ((simp (disch := omega) only [i0, i1, i_lt, i_le, i_eq, i_add, i_sub, i_mul, i_neg, i_ofNat, i_rem, i_div, w_in, w_in2, w_cnt, w_cnt2, z01, z01', il, li, lc_ge, lc_le, lc_gt, lc_lt, lc_eq, l_ofNat, l0, l_eq, l_lt, l_le]) <;> omega)) (h_bind (r_dueS h hN (by omega)) rfl)⟩
  · exact ⟨_, h_pos (by first | omega | ((simp (disch := omega) only [i0, i1, i_lt, i_le, i_eq, i_add, i_sub, i_mul, i_neg, i_ofNat, i_rem, i_div, w_in, w_in2, w_cnt, w_cnt2, z01, z01', il, li, lc_ge, lc_le, lc_gt, lc_lt, lc_eq, l_ofNat, l0, l_eq, l_lt, l_le]) <;> omega)) rfl, h_pos (by first | omega | ((simp (disch := omega) only [i0, i1, i_lt, i_le, i_eq, i_add, i_sub, i_mul, i_neg, i_ofNat, i_rem, i_div, w_in, w_in2, w_cnt, w_cnt2, z01, z01', il, li, lc_ge, lc_le, lc_gt, lc_lt, lc_eq, l_ofNat, l0, l_eq, l_lt, l_le]) <;> omega)) rfl⟩
end PMS
