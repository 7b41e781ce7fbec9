/-! ===== the winner, the runoff ===== -/
section PMS
variable {T : yK} {S : yS}
def cntS (B : Nat → Nat → Bool) (c : Nat) : Nat → Nat → Nat → Nat
  | _, 0, x => x
  | d, m + 1, x => cntS B c (d + 1) m (if d = c then x else if B c d = true then x + 1 else x)
def allS (B : Nat → Nat → Bool) (c : Nat) : Nat → Nat → Nat → Nat
  | _, 0, z => z
  | d, m + 1, z => allS B c (d + 1) m (if z = 0 then 0 else if c = d then 1 else if B c d = true then 1 else 0)
theorem cnt_all (B : Nat → Nat → Bool) {c : Nat} (hc : c < 4) : (cntS B c 0 4 0 = 3) = (allS B c 0 4 1 = 1) := by
  have h : c = 0 ∨ c = 1 ∨ c = 2 ∨ c = 3 := by omega
  rcases h with rfl | rfl | rfl | rfl
  · simp only [cntS, allS]; cases B 0 1 <;> cases B 0 2 <;> cases B 0 3 <;> simp
  · simp only [cntS, allS]; cases B 1 0 <;> cases B 1 2 <;> cases B 1 3 <;> simp
  · simp only [cntS, allS]; cases B 2 0 <;> cases B 2 1 <;> cases B 2 3 <;> simp
  · simp only [cntS, allS]; cases B 3 0 <;> cases B 3 1 <;> cases B 3 2 <;> simp
theorem c_wi1 (h : Rel T S) {N : Nat} (hN : 2000000 ≤ N) {c : Nat} (hc : c < 4) : ∀ (m n d x : Nat), d + m = 4 → x + m ≤ 4 → lX4_aheadOfAll N (n + m + 1) 1 (Int32.ofInt (c : Int)) (Int32.ofInt (x : Int)) (Int32.ofInt (d : Int)) S = if cntS (btB (rv S 266)) c d m x = 3 then some (Int32.ofInt (c : Int)) else lX4_aheadOfAll N n 0 (Int32.ofInt ((c + 1 : Nat) : Int)) 0 0 S
  | 0, n, d, x, hm, hx => by
    rw [lX4_aheadOfAll]
    refine h_neg (by omega) (h_pos (by first | omega | ((simp (disch := omega) only [i0, i1, i_lt, i_le, i_eq, i_add, i_sub, i_mul, i_neg, i_ofNat, i_rem, i_div, w_in, w_in2, w_cnt, w_cnt2, z01, z01', il, li, lc_ge, lc_le, lc_gt, lc_lt, lc_eq, l_ofNat, l0, l_eq, l_lt, l_le]) <;> omega)) ?_)
    rw [i_add, show (c : Int) + 1 = ((c + 1 : Nat) : Int) by omega]
    show _ = if x = 3 then _ else _
    by_cases h3 : x = 3
    · rw [if_pos h3]; exact h_neg (by first | omega | ((simp (disch := omega) only [i0, i1, i_lt, i_le, i_eq, i_add, i_sub, i_mul, i_neg, i_ofNat, i_rem, i_div, w_in, w_in2, w_cnt, w_cnt2, z01, z01', il, li, lc_ge, lc_le, lc_gt, lc_lt, lc_eq, l_ofNat, l0, l_eq, l_lt, l_le]) <;> omega)) rfl
    · rw [if_neg h3]; exact h_pos (by first | omega | ((simp (disch := omega) only [i0, i1, i_lt, i_le, i_eq, i_add, i_sub, i_mul, i_neg, i_ofNat, i_rem, i_div, w_in, w_in2, w_cnt, w_cnt2, z01, z01', il, li, lc_ge, lc_le, lc_gt, lc_lt, lc_eq, l_ofNat, l0, l_eq, l_lt, l_le]) <;> omega)) rfl
  | m + 1, n, d, x, hm, hx => by
    rw [show n + (m + 1) + 1 = (n + m + 1) + 1 by omega, lX4_aheadOfAll]
    refine h_neg (by omega) (h_neg (by first | omega | ((simp (disch := omega) only [i0, i1, i_lt, i_le, i_eq, i_add, i_sub, i_mul, i_neg, i_ofNat, i_rem, i_div, w_in, w_in2, w_cnt, w_cnt2, z01, z01', il, li, lc_ge, lc_le, lc_gt, lc_lt, lc_eq, l_ofNat, l0, l_eq, l_lt, l_le]) <;> omega)) ?_)
    simp only [i_add]
    rw [show (d : Int) + 1 = ((d + 1 : Nat) : Int) by omega]
    have e : cntS (btB (rv S 266)) c d (m + 1) x = cntS (btB (rv S 266)) c (d + 1) m (if d = c then x else if btB (rv S 266) c d = true then x + 1 else x) := rfl
    rw [e]
    by_cases hdc : d = c
    · rw [if_pos hdc]
      exact h_pos (by first | omega | ((simp (disch := omega) only [i0, i1, i_lt, i_le, i_eq, i_add, i_sub, i_mul, i_neg, i_ofNat, i_rem, i_div, w_in, w_in2, w_cnt, w_cnt2, z01, z01', il, li, lc_ge, lc_le, lc_gt, lc_lt, lc_eq, l_ofNat, l0, l_eq, l_lt, l_le]) <;> omega)) (c_wi1 h hN hc m n (d + 1) x (by omega) (by omega))
    · rw [if_neg hdc]
      refine h_neg (by first | omega | ((simp (disch := omega) only [i0, i1, i_lt, i_le, i_eq, i_add, i_sub, i_mul, i_neg, i_ofNat, i_rem, i_div, w_in, w_in2, w_cnt, w_cnt2, z01, z01', il, li, lc_ge, lc_le, lc_gt, lc_lt, lc_eq, l_ofNat, l0, l_eq, l_lt, l_le]) <;> omega)) (h_bind (c_btF h hN hc (by omega)) ?_)
      cases btB (rv S 266) c d with
      | false => exact h_pos (by decide) (c_wi1 h hN hc m n (d + 1) x (by omega) (by omega))
      | true =>
        refine h_neg (by decide) ?_
        rw [show (x : Int) + 1 = ((x + 1 : Nat) : Int) by omega]
        exact c_wi1 h hN hc m n (d + 1) (x + 1) (by omega) (by omega)
theorem r_wi1 (h : Rel T S) {N : Nat} (hN : 2000000 ≤ N) {c : Nat} (hc : c < 4) : ∀ (m n d z : Nat), d + m = 4 → z ≤ 1 → lX12_winner N (n + m + 1) 1 (Int32.ofInt (c : Int)) (Int32.ofInt (z : Int)) (Int32.ofInt (d : Int)) S = if allS (btB (rv S 266)) c d m z = 1 then some (Int32.ofInt (c : Int)) else lX12_winner N n 0 (Int32.ofInt ((c + 1 : Nat) : Int)) 0 0 S
  | 0, n, d, z, hm, hz => by
    rw [lX12_winner]
    refine h_neg (by omega) (h_pos (by first | omega | ((simp (disch := omega) only [i0, i1, i_lt, i_le, i_eq, i_add, i_sub, i_mul, i_neg, i_ofNat, i_rem, i_div, w_in, w_in2, w_cnt, w_cnt2, z01, z01', il, li, lc_ge, lc_le, lc_gt, lc_lt, lc_eq, l_ofNat, l0, l_eq, l_lt, l_le]) <;> omega)) ?_)
    rw [i_add, show (c : Int) + 1 = ((c + 1 : Nat) : Int) by omega]
    show _ = if z = 1 then _ else _
    by_cases h3 : z = 1
    · rw [if_pos h3]; exact h_neg (by first | omega | ((simp (disch := omega) only [i0, i1, i_lt, i_le, i_eq, i_add, i_sub, i_mul, i_neg, i_ofNat, i_rem, i_div, w_in, w_in2, w_cnt, w_cnt2, z01, z01', il, li, lc_ge, lc_le, lc_gt, lc_lt, lc_eq, l_ofNat, l0, l_eq, l_lt, l_le]) <;> omega)) rfl
    · rw [if_neg h3]; exact h_pos (by first | omega | ((simp (disch := omega) only [i0, i1, i_lt, i_le, i_eq, i_add, i_sub, i_mul, i_neg, i_ofNat, i_rem, i_div, w_in, w_in2, w_cnt, w_cnt2, z01, z01', il, li, lc_ge, lc_le, lc_gt, lc_lt, lc_eq, l_ofNat, l0, l_eq, l_lt, l_le]) <;> omega)) rfl
  | m + 1, n, d, z, hm, hz => by
    rw [show n + (m + 1) + 1 = (n + m + 1) + 1 by omega, lX12_winner]
    refine h_neg (by omega) (h_neg (by first | omega | ((simp (disch := omega) only [i0, i1, i_lt, i_le, i_eq, i_add, i_sub, i_mul, i_neg, i_ofNat, i_rem, i_div, w_in, w_in2, w_cnt, w_cnt2, z01, z01', il, li, lc_ge, lc_le, lc_gt, lc_lt, lc_eq, l_ofNat, l0, l_eq, l_lt, l_le]) <;> omega)) ?_)
    simp only [i_add]
    rw [show (d : Int) + 1 = ((d + 1 : Nat) : Int) by omega]
    have e : allS (btB (rv S 266)) c d (m + 1) z = allS (btB (rv S 266)) c (d + 1) m (if z = 0 then 0 else if c = d then 1 else if btB (rv S 266) c d = true then 1 else 0) := rfl
    rw [e]
    by_cases hz0 : z = 0
    · rw [if_pos hz0]
      exact h_pos (by first | omega | ((simp (disch := omega) only [i0, i1, i_lt, i_le, i_eq, i_add, i_sub, i_mul, i_neg, i_ofNat, i_rem, i_div, w_in, w_in2, w_cnt, w_cnt2, z01, z01', il, li, lc_ge, lc_le, lc_gt, lc_lt, lc_eq, l_ofNat, l0, l_eq, l_lt, l_le]) <;> omega)) (r_wi1 h hN hc m n (d + 1) 0 (by omega) (by omega))
    · rw [if_neg hz0]
      refine h_neg (by first | omega | ((simp (disch := omega) only [i0, i1, i_lt, i_le, i_eq, i_add, i_sub, i_mul, i_neg, i_ofNat, i_rem, i_div, w_in, w_in2, w_cnt, w_cnt2, z01, z01', il, li, lc_ge, lc_le, lc_gt, lc_lt, lc_eq, l_ofNat, l0, l_eq, l_lt, l_le]) <;> omega)) ?_
      by_cases hdc : c = d
      · rw [if_pos hdc]
        exact h_pos (by first | omega | ((simp (disch := omega) only [i0, i1, i_lt, i_le, i_eq, i_add, i_sub, i_mul, i_neg, i_ofNat, i_rem, i_div, w_in, w_in2, w_cnt, w_cnt2, z01, z01', il, li, lc_ge, lc_le, lc_gt, lc_lt, lc_eq, l_ofNat, l0, l_eq, l_lt, l_le]) <;> omega)) (r_wi1 h hN hc m n (d + 1) 1 (by omega) (by omega))
      · rw [if_neg hdc]
        refine h_neg (by first | omega | ((simp (disch := omega) only [i0, i1, i_lt, i_le, i_eq, i_add, i_sub, i_mul, i_neg, i_ofNat, i_rem, i_div, w_in, w_in2, w_cnt, w_cnt2, z01, z01', il, li, lc_ge, lc_le, lc_gt, lc_lt, lc_eq, l_ofNat, l0, l_eq, l_lt, l_le]) <;> omega)) (h_bind (r_btF h hN hc (by omega)) ?_)
        cases btB (rv S 266) c d with
        | false => exact h_pos (by decide) (r_wi1 h hN hc m n (d + 1) 0 (by omega) (by omega))
        | true => exact h_neg (by decide) (r_wi1 h hN hc m n (d + 1) 1 (by omega) (by omega))
def wnS (B : Nat → Nat → Bool) : Nat → Nat → Int
  | _, 0 => -1
  | c, q + 1 => if allS B c 0 4 1 = 1 then c else wnS B (c + 1) q
theorem c_wi0 (h : Rel T S) {N : Nat} (hN : 2000000 ≤ N) : ∀ (q n c : Nat), c + q = 4 → 10 * q < n → lX4_aheadOfAll N n 0 (Int32.ofInt (c : Int)) 0 0 S = some (Int32.ofInt (wnS (btB (rv S 266)) c q))
  | 0, n, c, hq, hn => by
    obtain ⟨n, rfl⟩ : ∃ k, n = k + 1 := ⟨n - 1, by omega⟩
    rw [lX4_aheadOfAll]
    exact h_pos rfl (h_pos (by first | omega | ((simp (disch := omega) only [i0, i1, i_lt, i_le, i_eq, i_add, i_sub, i_mul, i_neg, i_ofNat, i_rem, i_div, w_in, w_in2, w_cnt, w_cnt2, z01, z01', il, li, lc_ge, lc_le, lc_gt, lc_lt, lc_eq, l_ofNat, l0, l_eq, l_lt, l_le]) <;> omega)) rfl)
  | q + 1, n, c, hq, hn => by
    obtain ⟨n, rfl⟩ : ∃ k, n = k + 4 + 1 + 1 := ⟨n - 6, by omega⟩
    rw [lX4_aheadOfAll]
    refine h_pos rfl (h_neg (by first | omega | ((simp (disch := omega) only [i0, i1, i_lt, i_le, i_eq, i_add, i_sub, i_mul, i_neg, i_ofNat, i_rem, i_div, w_in, w_in2, w_cnt, w_cnt2, z01, z01', il, li, lc_ge, lc_le, lc_gt, lc_lt, lc_eq, l_ofNat, l0, l_eq, l_lt, l_le]) <;> omega)) ((c_wi1 h hN (show c < 4 by omega) 4 n 0 0 (by omega) (by omega)).trans ?_))
    unfold wnS
    simp only [cnt_all _ (show c < 4 by omega)]
    by_cases ha : allS (btB (rv S 266)) c 0 4 1 = 1
    · rw [if_pos ha, if_pos ha]
    · rw [if_neg ha, if_neg ha]
      exact c_wi0 h hN q n (c + 1) (by omega) (by omega)
theorem r_wi0 (h : Rel T S) {N : Nat} (hN : 2000000 ≤ N) : ∀ (q n c : Nat), c + q = 4 → 10 * q < n → lX12_winner N n 0 (Int32.ofInt (c : Int)) 0 0 S = some (Int32.ofInt (wnS (btB (rv S 266)) c q))
  | 0, n, c, hq, hn => by
    obtain ⟨n, rfl⟩ : ∃ k, n = k + 1 := ⟨n - 1, by omega⟩
    rw [lX12_winner]
    exact h_pos rfl (h_pos (by first | omega | ((simp (disch := omega) only [i0, i1, i_lt, i_le, i_eq, i_add, i_sub, i_mul, i_neg, i_ofNat, i_rem, i_div, w_in, w_in2, w_cnt, w_cnt2, z01, z01', il, li, lc_ge, lc_le, lc_gt, lc_lt, lc_eq, l_ofNat, l0, l_eq, l_lt, l_le]) <;> omega)) rfl)
  | q + 1, n, c, hq, hn => by
    obtain ⟨n, rfl⟩ : ∃ k, n = k + 4 + 1 + 1 := ⟨n - 6, by omega⟩
    rw [lX12_winner]
    refine h_pos rfl (h_neg (by first | omega | ((simp (disch := omega) only [i0, i1, i_lt, i_le, i_eq, i_add, i_sub, i_mul, i_neg, i_ofNat, i_rem, i_div, w_in, w_in2, w_cnt, w_cnt2, z01, z01', il, li, lc_ge, lc_le, lc_gt, lc_lt, lc_eq, l_ofNat, l0, l_eq, l_lt, l_le]) <;> omega)) ((r_wi1 h hN (show c < 4 by omega) 4 n 0 1 (by omega) (by omega)).trans ?_))
    unfold wnS
    by_cases ha : allS (btB (rv S 266)) c 0 4 1 = 1
    · rw [if_pos ha, if_pos ha]
    · rw [if_neg ha, if_neg ha]
      exact r_wi0 h hN q n (c + 1) (by omega) (by omega)
theorem pm_winner (h : Rel T S) {N : Nat} (hN : 2000000 ≤ N) : PM0 S (fX11_winner N) (fX12_winner N) :=
  ⟨_, h_bind (c_wi0 h hN 4 N 0 (by omega) (by omega)) rfl, r_wi0 h hN 4 N 0 (by omega) (by omega)⟩
/-! the runoff -/
def frs (o s : Nat) : Nat := if s.testBit (cau o 0) then cau o 0 else if s.testBit (cau o 1) then cau o 1 else if s.testBit (cau o 2) then cau o 2 else cau o 3
def flN (o s c : Nat) : Bool := (List.range 4).all (fun d => !s.testBit d || decide (plc o c ≤ plc o d))
theorem frs_fl : ∀ o, o < 24 → ∀ s, s < 16 → ∀ c, c < 4 → s.testBit c = true → decide (frs o s = c) = flN o s c := by decide +kernel
theorem in_nat {s b : Nat} (hs : s < 256) (hb : b < 32) : fX11_isIn (Int32.ofInt (s : Int)) (Int32.ofInt (b : Int)) = Int32.ofInt (if s.testBit b = true then 1 else 0) := by rw [in_tb _ hb, tb_nat s hs b hb]
theorem has_nat {s b : Nat} (hs : s < 256) (hb : b < 32) : fX12_has (Int32.ofInt (s : Int)) (Int32.ofInt (b : Int)) = Int32.ofInt (if s.testBit b = true then 1 else 0) := in_nat hs hb
def fvS (A : Nat → Int) (s c : Nat) : Nat → Nat → Int → Int
  | _, 0, x => x
  | p, m + 1, x => fvS A s c (p + 1) m (if frs (ordP A p) s = c then x + A (87 + p) else x)
theorem c_fv1 (h : Rel T S) {N : Nat} {s c p : Nat} (hs : s < 16) (hc : c < 4) (hp : p < 5) (x : Int) : ∃ r, r ≤ 4 ∧ ∀ n, lX4_firstVotes N (n + r) 1 (Int32.ofInt (c : Int)) (Int32.ofInt (s : Int)) (Int32.ofInt x) (Int32.ofInt (p : Int)) (Int32.ofInt 0) S = lX4_firstVotes N n 0 (Int32.ofInt (c : Int)) (Int32.ofInt (s : Int)) (Int32.ofInt (if frs (ordP (rv S 266) p) s = c then x + rv S 266 (87 + p) else x)) (Int32.ofInt ((p + 1 : Nat) : Int)) 0 S := by
  have ho := ord_lt h hp
  have q0 := cau_lt _ ho.1 0 (by omega)
  have q1 := cau_lt _ ho.1 1 (by omega)
  have q2 := cau_lt _ ho.1 2 (by omega)
  have q3 := cau_lt _ ho.1 3 (by omega)
  have k0 := c_cau h hp (show 0 < 4 by omega)
  have k1 := c_cau h hp (show 1 < 4 by omega)
  have k2 := c_cau h hp (show 2 < 4 by omega)
  have k3 := c_cau h hp (show 3 < 4 by omega)
  unfold frs
  generalize cau (ordP (rv S 266) p) 0 = e0 at *
  generalize cau (ordP (rv S 266) p) 1 = e1 at *
  generalize cau (ordP (rv S 266) p) 2 = e2 at *
  generalize cau (ordP (rv S 266) p) 3 = e3 at *
  have fin : ∀ (e n : Nat), e < 4 → (if ¬ Int32.ofInt (e : Int) = Int32.ofInt (c : Int) then lX4_firstVotes N n 0 (Int32.ofInt (c : Int)) (Int32.ofInt (s : Int)) (Int32.ofInt x) (Int32.ofInt (p : Int) + Int32.ofInt 1) 0 S else (ain 5 (Int32.ofInt (p : Int))).bind fun j8 => lX4_firstVotes N n 0 (Int32.ofInt (c : Int)) (Int32.ofInt (s : Int)) (Int32.ofInt x + S.2.2.1 125 j8) (Int32.ofInt (p : Int) + Int32.ofInt 1) 0 S) = lX4_firstVotes N n 0 (Int32.ofInt (c : Int)) (Int32.ofInt (s : Int)) (Int32.ofInt (if e = c then x + rv S 266 (87 + p) else x)) (Int32.ofInt ((p + 1 : Nat) : Int)) 0 S := by
    intro e n he
    rw [i_add, show (p : Int) + 1 = ((p + 1 : Nat) : Int) by omega]
    by_cases hec : e = c
    · rw [if_pos hec]
      refine h_neg (by first | omega | ((simp (disch := omega) only [i0, i1, i_lt, i_le, i_eq, i_add, i_sub, i_mul, i_neg, i_ofNat, i_rem, i_div, w_in, w_in2, w_cnt, w_cnt2, z01, z01', il, li, lc_ge, lc_le, lc_gt, lc_lt, lc_eq, l_ofNat, l0, l_eq, l_lt, l_le]) <;> omega)) (h_ainN hp (by omega) ?_)
      rw [C_vot h hp, i_add]
    · rw [if_neg hec]
      exact h_pos (by first | omega | ((simp (disch := omega) only [i0, i1, i_lt, i_le, i_eq, i_add, i_sub, i_mul, i_neg, i_ofNat, i_rem, i_div, w_in, w_in2, w_cnt, w_cnt2, z01, z01', il, li, lc_ge, lc_le, lc_gt, lc_lt, lc_eq, l_ofNat, l0, l_eq, l_lt, l_le]) <;> omega)) rfl
  cases t0 : s.testBit e0 with
  | true =>
    refine ⟨1, by omega, fun n => ?_⟩
    simp only [if_true]
    rw [lX4_firstVotes]
    refine h_neg (by omega) (h_neg (by decide) (h_bind k0 ?_))
    rw [in_nat (by omega) (by omega), t0]
    exact h_pos (by decide) (h_bind k0 (fin e0 n q0))
  | false =>
    have s0 : ∀ n, lX4_firstVotes N (n + 1) 1 (Int32.ofInt (c : Int)) (Int32.ofInt (s : Int)) (Int32.ofInt x) (Int32.ofInt (p : Int)) (Int32.ofInt 0) S = lX4_firstVotes N n 1 (Int32.ofInt (c : Int)) (Int32.ofInt (s : Int)) (Int32.ofInt x) (Int32.ofInt (p : Int)) (Int32.ofInt 1) S := by
      intro n
      rw [lX4_firstVotes]
      refine h_neg (by omega) (h_neg (by decide) (h_bind k0 ?_))
      rw [in_nat (by omega) (by omega), t0]
      exact h_neg (by decide) rfl
    cases t1 : s.testBit e1 with
    | true =>
      refine ⟨2, by omega, fun n => ?_⟩
      simp only [if_true, Bool.false_eq_true, if_false]
      rw [show n + 2 = (n + 1) + 1 by omega, s0, lX4_firstVotes]
      refine h_neg (by omega) (h_neg (by decide) (h_bind k1 ?_))
      rw [in_nat (by omega) (by omega), t1]
      exact h_pos (by decide) (h_bind k1 (fin e1 n q1))
    | false =>
      have s1 : ∀ n, lX4_firstVotes N (n + 1) 1 (Int32.ofInt (c : Int)) (Int32.ofInt (s : Int)) (Int32.ofInt x) (Int32.ofInt (p : Int)) (Int32.ofInt 1) S = lX4_firstVotes N n 1 (Int32.ofInt (c : Int)) (Int32.ofInt (s : Int)) (Int32.ofInt x) (Int32.ofInt (p : Int)) (Int32.ofInt 2) S := by
        intro n
        rw [lX4_firstVotes]
        refine h_neg (by omega) (h_neg (by decide) (h_bind k1 ?_))
        rw [in_nat (by omega) (by omega), t1]
        exact h_neg (by decide) rfl
      cases t2 : s.testBit e2 with
      | true =>
        refine ⟨3, by omega, fun n => ?_⟩
        simp only [if_true, Bool.false_eq_true, if_false]
        rw [show n + 3 = (n + 2) + 1 by omega, s0, show n + 2 = (n + 1) + 1 by omega, s1, lX4_firstVotes]
        refine h_neg (by omega) (h_neg (by decide) (h_bind k2 ?_))
        rw [in_nat (by omega) (by omega), t2]
        exact h_pos (by decide) (h_bind k2 (fin e2 n q2))
      | false =>
        have s2 : ∀ n, lX4_firstVotes N (n + 1) 1 (Int32.ofInt (c : Int)) (Int32.ofInt (s : Int)) (Int32.ofInt x) (Int32.ofInt (p : Int)) (Int32.ofInt 2) S = lX4_firstVotes N n 1 (Int32.ofInt (c : Int)) (Int32.ofInt (s : Int)) (Int32.ofInt x) (Int32.ofInt (p : Int)) (Int32.ofInt 3) S := by
          intro n
          rw [lX4_firstVotes]
          refine h_neg (by omega) (h_neg (by decide) (h_bind k2 ?_))
          rw [in_nat (by omega) (by omega), t2]
          exact h_neg (by decide) rfl
        refine ⟨4, by omega, fun n => ?_⟩
        simp only [Bool.false_eq_true, if_false]
        rw [show n + 4 = (n + 3) + 1 by omega, s0, show n + 3 = (n + 2) + 1 by omega, s1, show n + 2 = (n + 1) + 1 by omega, s2, lX4_firstVotes]
        refine h_neg (by omega) (h_pos (by decide) (h_bind k3 ?_))
        exact fin e3 n q3
theorem c_fv0 (h : Rel T S) {N : Nat} {s c : Nat} (hs : s < 16) (hc : c < 4) : ∀ (m n p : Nat) (x : Int), p + m = 5 → 6 * m < n → lX4_firstVotes N n 0 (Int32.ofInt (c : Int)) (Int32.ofInt (s : Int)) (Int32.ofInt x) (Int32.ofInt (p : Int)) 0 S = some (Int32.ofInt (fvS (rv S 266) s c p m x))
  | 0, n, p, x, hm, hn => by
    obtain ⟨n, rfl⟩ : ∃ k, n = k + 1 := ⟨n - 1, by omega⟩
    rw [lX4_firstVotes]
    exact h_pos rfl (h_pos (by first | omega | ((simp (disch := omega) only [i0, i1, i_lt, i_le, i_eq, i_add, i_sub, i_mul, i_neg, i_ofNat, i_rem, i_div, w_in, w_in2, w_cnt, w_cnt2, z01, z01', il, li, lc_ge, lc_le, lc_gt, lc_lt, lc_eq, l_ofNat, l0, l_eq, l_lt, l_le]) <;> omega)) rfl)
  | m + 1, n, p, x, hm, hn => by
    obtain ⟨r, hr, e⟩ := c_fv1 h (N := N) hs hc (show p < 5 by omega) x
    obtain ⟨n, rfl⟩ : ∃ k, n = k + r + 1 := ⟨n - r - 1, by omega⟩
    rw [lX4_firstVotes]
    refine h_pos rfl (h_neg (by first | omega | ((simp (disch := omega) only [i0, i1, i_lt, i_le, i_eq, i_add, i_sub, i_mul, i_neg, i_ofNat, i_rem, i_div, w_in, w_in2, w_cnt, w_cnt2, z01, z01', il, li, lc_ge, lc_le, lc_gt, lc_lt, lc_eq, l_ofNat, l0, l_eq, l_lt, l_le]) <;> omega)) ((e n).trans ?_))
    exact c_fv0 h hs hc m n (p + 1) _ (by omega) (by omega)
theorem c_fv (h : Rel T S) {N : Nat} (hN : 2000000 ≤ N) {s c : Nat} (hs : s < 16) (hc : c < 4) : fX4_firstVotes N (Int32.ofInt (c : Int)) (Int32.ofInt (s : Int)) S = some (Int32.ofInt (fvS (rv S 266) s c 0 5 0)) := c_fv0 h hs hc 5 N 0 0 (by omega) (by omega)
def flS (o s c : Nat) : Nat → Nat → Nat → Nat
  | _, 0, z => z
  | d, m + 1, z => flS o s c (d + 1) m (if z = 0 then 0 else if s.testBit d = true then (if plc o d < plc o c then 0 else 1) else 1)
theorem flS_fl : ∀ o, o < 24 → ∀ s, s < 16 → ∀ c, c < 4 → flS o s c 0 4 1 = if flN o s c = true then 1 else 0 := by decide +kernel
theorem r_fv1 (h : Rel T S) {N : Nat} (hN : 2000000 ≤ N) {s c p : Nat} (hs : s < 16) (hc : c < 4) (hp : p < 5) (x : Int) : ∀ (m n d z : Nat), d + m = 4 → z ≤ 1 → lX12_firstVotes N (n + m + 1) 1 (Int32.ofInt (c : Int)) (Int32.ofInt (s : Int)) (Int32.ofInt x) (Int32.ofInt (p : Int)) (Int32.ofInt (z : Int)) (Int32.ofInt (d : Int)) S = lX12_firstVotes N n 0 (Int32.ofInt (c : Int)) (Int32.ofInt (s : Int)) (Int32.ofInt (if flS (ordP (rv S 266) p) s c d m z = 1 then x + rv S 266 (87 + p) else x)) (Int32.ofInt ((p + 1 : Nat) : Int)) 0 0 S
  | 0, n, d, z, hm, hz => by
    rw [lX12_firstVotes]
    refine h_neg (by omega) (h_pos (by first | omega | ((simp (disch := omega) only [i0, i1, i_lt, i_le, i_eq, i_add, i_sub, i_mul, i_neg, i_ofNat, i_rem, i_div, w_in, w_in2, w_cnt, w_cnt2, z01, z01', il, li, lc_ge, lc_le, lc_gt, lc_lt, lc_eq, l_ofNat, l0, l_eq, l_lt, l_le]) <;> omega)) ?_)
    rw [i_add, i_add, i_add, show (p : Int) + 1 = ((p + 1 : Nat) : Int) by omega, show (87 : Int) + (p : Int) = ((87 + p : Nat) : Int) by omega, Int.add_zero]
    show _ = lX12_firstVotes N n 0 _ _ (Int32.ofInt (if z = 1 then _ else _)) _ 0 0 S
    by_cases h3 : z = 1
    · rw [if_pos h3]
      refine h_neg (by first | omega | ((simp (disch := omega) only [i0, i1, i_lt, i_le, i_eq, i_add, i_sub, i_mul, i_neg, i_ofNat, i_rem, i_div, w_in, w_in2, w_cnt, w_cnt2, z01, z01', il, li, lc_ge, lc_le, lc_gt, lc_lt, lc_eq, l_ofNat, l0, l_eq, l_lt, l_le]) <;> omega)) (h_ainN (by omega) (by omega) ?_)
      rw [rv_eq S 266 (87 + p), i_add]
    · rw [if_neg h3]; exact h_pos (by first | omega | ((simp (disch := omega) only [i0, i1, i_lt, i_le, i_eq, i_add, i_sub, i_mul, i_neg, i_ofNat, i_rem, i_div, w_in, w_in2, w_cnt, w_cnt2, z01, z01', il, li, lc_ge, lc_le, lc_gt, lc_lt, lc_eq, l_ofNat, l0, l_eq, l_lt, l_le]) <;> omega)) rfl
  | m + 1, n, d, z, hm, hz => by
    have l1 := plc_lt (ordP (rv S 266) p) c
    have l2 := plc_lt (ordP (rv S 266) p) d
    rw [show n + (m + 1) + 1 = (n + m + 1) + 1 by omega, lX12_firstVotes]
    refine h_neg (by omega) (h_neg (by first | omega | ((simp (disch := omega) only [i0, i1, i_lt, i_le, i_eq, i_add, i_sub, i_mul, i_neg, i_ofNat, i_rem, i_div, w_in, w_in2, w_cnt, w_cnt2, z01, z01', il, li, lc_ge, lc_le, lc_gt, lc_lt, lc_eq, l_ofNat, l0, l_eq, l_lt, l_le]) <;> omega)) ?_)
    rw [has_nat (by omega) (by omega)]
    simp only [i_add]
    rw [show (d : Int) + 1 = ((d + 1 : Nat) : Int) by omega]
    have e : flS (ordP (rv S 266) p) s c d (m + 1) z = flS (ordP (rv S 266) p) s c (d + 1) m (if z = 0 then 0 else if s.testBit d = true then (if plc (ordP (rv S 266) p) d < plc (ordP (rv S 266) p) c then 0 else 1) else 1) := rfl
    rw [e]
    by_cases hz0 : z = 0
    · simp only [hz0, if_true]
      exact h_pos (by first | omega | ((simp (disch := omega) only [i0, i1, i_lt, i_le, i_eq, i_add, i_sub, i_mul, i_neg, i_ofNat, i_rem, i_div, w_in, w_in2, w_cnt, w_cnt2, z01, z01', il, li, lc_ge, lc_le, lc_gt, lc_lt, lc_eq, l_ofNat, l0, l_eq, l_lt, l_le]) <;> omega)) (r_fv1 h hN hs hc hp x m n (d + 1) 0 (by omega) (by omega))
    · simp only [hz0, if_false]
      refine h_neg (by first | omega | ((simp (disch := omega) only [i0, i1, i_lt, i_le, i_eq, i_add, i_sub, i_mul, i_neg, i_ofNat, i_rem, i_div, w_in, w_in2, w_cnt, w_cnt2, z01, z01', il, li, lc_ge, lc_le, lc_gt, lc_lt, lc_eq, l_ofNat, l0, l_eq, l_lt, l_le]) <;> omega)) ?_
      cases s.testBit d with
      | false => exact h_pos (by decide) (r_fv1 h hN hs hc hp x m n (d + 1) 1 (by omega) (by omega))
      | true =>
        refine h_neg (by decide) (h_bind (r_pl h hN hp hc) (h_bind (r_pl h hN hp (by omega)) ?_))
        by_cases hq : plc (ordP (rv S 266) p) d < plc (ordP (rv S 266) p) c
        · simp only [hq, if_true]
          exact h_pos (by first | omega | ((simp (disch := omega) only [i0, i1, i_lt, i_le, i_eq, i_add, i_sub, i_mul, i_neg, i_ofNat, i_rem, i_div, w_in, w_in2, w_cnt, w_cnt2, z01, z01', il, li, lc_ge, lc_le, lc_gt, lc_lt, lc_eq, l_ofNat, l0, l_eq, l_lt, l_le]) <;> omega)) (r_fv1 h hN hs hc hp x m n (d + 1) 0 (by omega) (by omega))
        · simp only [hq, if_true, if_false]
          exact h_neg (by first | omega | ((simp (disch := omega) only [i0, i1, i_lt, i_le, i_eq, i_add, i_sub, i_mul, i_neg, i_ofNat, i_rem, i_div, w_in, w_in2, w_cnt, w_cnt2, z01, z01', il, li, lc_ge, lc_le, lc_gt, lc_lt, lc_eq, l_ofNat, l0, l_eq, l_lt, l_le]) <;> omega)) (r_fv1 h hN hs hc hp x m n (d + 1) 1 (by omega) (by omega))
theorem r_fv0 (h : Rel T S) {N : Nat} (hN : 2000000 ≤ N) {s c : Nat} (hs : s < 16) (hc : c < 4) (hsc : s.testBit c = true) : ∀ (m n p : Nat) (x : Int), p + m = 5 → 10 * m < n → lX12_firstVotes N n 0 (Int32.ofInt (c : Int)) (Int32.ofInt (s : Int)) (Int32.ofInt x) (Int32.ofInt (p : Int)) 0 0 S = some (Int32.ofInt (fvS (rv S 266) s c p m x))
  | 0, n, p, x, hm, hn => by
    obtain ⟨n, rfl⟩ : ∃ k, n = k + 1 := ⟨n - 1, by omega⟩
    rw [lX12_firstVotes]
    exact h_pos rfl (h_pos (by first | omega | ((simp (disch := omega) only [i0, i1, i_lt, i_le, i_eq, i_add, i_sub, i_mul, i_neg, i_ofNat, i_rem, i_div, w_in, w_in2, w_cnt, w_cnt2, z01, z01', il, li, lc_ge, lc_le, lc_gt, lc_lt, lc_eq, l_ofNat, l0, l_eq, l_lt, l_le]) <;> omega)) rfl)
  | m + 1, n, p, x, hm, hn => by
    have ho := ord_lt h (show p < 5 by omega)
    obtain ⟨n, rfl⟩ : ∃ k, n = k + 4 + 1 + 1 := ⟨n - 6, by omega⟩
    rw [lX12_firstVotes]
    refine h_pos rfl (h_neg (by first | omega | ((simp (disch := omega) only [i0, i1, i_lt, i_le, i_eq, i_add, i_sub, i_mul, i_neg, i_ofNat, i_rem, i_div, w_in, w_in2, w_cnt, w_cnt2, z01, z01', il, li, lc_ge, lc_le, lc_gt, lc_lt, lc_eq, l_ofNat, l0, l_eq, l_lt, l_le]) <;> omega)) ((r_fv1 h hN hs hc (show p < 5 by omega) x 4 n 0 1 (by omega) (by omega)).trans ?_))
    have e1 := flS_fl _ ho.1 s hs c hc
    have e2 := frs_fl _ ho.1 s hs c hc hsc
    unfold fvS
    have e3 : (flS (ordP (rv S 266) p) s c 0 4 1 = 1) = (frs (ordP (rv S 266) p) s = c) := by
      rw [e1, ← e2]
      by_cases hq : frs (ordP (rv S 266) p) s = c
      · simp [hq]
      · simp [hq]
    simp only [e3]
    exact r_fv0 h hN hs hc hsc m n (p + 1) _ (by omega) (by omega)
theorem r_fv (h : Rel T S) {N : Nat} (hN : 2000000 ≤ N) {s c : Nat} (hs : s < 16) (hc : c < 4) (hsc : s.testBit c = true) : fX12_firstVotes N (Int32.ofInt (c : Int)) (Int32.ofInt (s : Int)) S = some (Int32.ofInt (fvS (rv S 266) s c 0 5 0)) := r_fv0 h hN hs hc hsc 5 N 0 0 (by omega) (by omega)
theorem fvS_rng (h : Rel T S) {s c : Nat} : ∀ (m p : Nat) (x : Int), p + m = 5 → x ≤ fvS (rv S 266) s c p m x ∧ fvS (rv S 266) s c p m x ≤ x + 999 * m
  | 0, p, x, _ => by unfold fvS; omega
  | m + 1, p, x, hm => by
    have hv := R_vot h (show p < 5 by omega)
    have ih := fvS_rng h (s := s) (c := c) m (p + 1) (if frs (ordP (rv S 266) p) s = c then x + rv S 266 (87 + p) else x) (by omega)
    unfold fvS
    by_cases q : frs (ordP (rv S 266) p) s = c
    · simp only [q, if_true] at ih ⊢; omega
    · simp only [q, if_false] at ih ⊢; omega
/-- the one that goes: fewest, of like ones the highest -/
def isMn (s : Nat) (fv : Nat → Int) (w : Nat) : Prop := w < 4 ∧ s.testBit w = true ∧ ∀ c, c < 4 → s.testBit c = true → fv w ≤ fv c ∧ (fv c = fv w → c ≤ w)
theorem isMn_u {s : Nat} {fv : Nat → Int} {w w' : Nat} (h : isMn s fv w) (h' : isMn s fv w') : w = w' := by
  have a := h.2.2 w' h'.1 h'.2.1
  have b := h'.2.2 w h.1 h.2.1
  have e : fv w = fv w' := by omega
  have := a.2 e.symm
  have := b.2 e
  omega
theorem c_wk (h : Rel T S) {N : Nat} (hN : 2000000 ≤ N) {s : Nat} (hs : s < 16) : ∀ (m n k w : Nat) (f : Int), k + m = 4 → m < n → ((f = 4995 ∧ w = 0 ∧ (∀ c, c < k → s.testBit c = false)) ∨ (w < k ∧ s.testBit w = true ∧ f = fvS (rv S 266) s w 0 5 0 ∧ ∀ c, c < k → s.testBit c = true → f ≤ fvS (rv S 266) s c 0 5 0 ∧ (fvS (rv S 266) s c 0 5 0 = f → c ≤ w))) → (∃ c, c < 4 ∧ s.testBit c = true) → ∃ w', isMn s (fun c => fvS (rv S 266) s c 0 5 0) w' ∧ lX4_weakest N n (Int32.ofInt (s : Int)) (Int32.ofInt (w : Int)) (Int32.ofInt f) (Int32.ofInt (k : Int)) S = some (Int32.ofInt (w' : Int))
  | 0, n + 1, k, w, f, hm, _, hI, hex => by
    rcases hI with ⟨_, _, hI⟩ | ⟨h1, h2, h3, h4⟩
    · obtain ⟨c, hc, hc2⟩ := hex
      rw [hI c (by omega)] at hc2
      cases hc2
    · refine ⟨w, ⟨by omega, h2, fun c hc hc2 => ?_⟩, ?_⟩
      · have := h4 c (by omega) hc2
        rw [h3] at this
        exact this
      · rw [lX4_weakest]
        exact h_pos (by first | omega | ((simp (disch := omega) only [i0, i1, i_lt, i_le, i_eq, i_add, i_sub, i_mul, i_neg, i_ofNat, i_rem, i_div, w_in, w_in2, w_cnt, w_cnt2, z01, z01', il, li, lc_ge, lc_le, lc_gt, lc_lt, lc_eq, l_ofNat, l0, l_eq, l_lt, l_le]) <;> omega)) rfl
  | m + 1, n + 1, k, w, f, hm, hn, hI, hex => by
    have hr := fvS_rng h (s := s) (c := k) 5 0 0 (by omega)
    have hrw := fvS_rng h (s := s) (c := w) 5 0 0 (by omega)
    cases tk : s.testBit k with
    | false =>
      obtain ⟨w', e1, e2⟩ := c_wk h hN hs m n (k + 1) w f (by omega) (by omega) (by
        rcases hI with ⟨q1, q0, q2⟩ | ⟨q1, q2, q3, q4⟩
        · refine Or.inl ⟨q1, q0, fun c hc => ?_⟩
          by_cases hck : c = k
          · rw [hck]; exact tk
          · exact q2 c (by omega)
        · refine Or.inr ⟨by omega, q2, q3, fun c hc hc2 => ?_⟩
          by_cases hck : c = k
          · rw [hck, tk] at hc2; cases hc2
          · exact q4 c (by omega) hc2) hex
      refine ⟨w', e1, ?_⟩
      rw [lX4_weakest]
      refine h_neg (by first | omega | ((simp (disch := omega) only [i0, i1, i_lt, i_le, i_eq, i_add, i_sub, i_mul, i_neg, i_ofNat, i_rem, i_div, w_in, w_in2, w_cnt, w_cnt2, z01, z01', il, li, lc_ge, lc_le, lc_gt, lc_lt, lc_eq, l_ofNat, l0, l_eq, l_lt, l_le]) <;> omega)) ?_
      rw [in_nat (by omega) (by omega), tk, i_add, show (k : Int) + 1 = ((k + 1 : Nat) : Int) by omega]
      exact h_pos (by decide) e2
    | true =>
      by_cases hlt : f < fvS (rv S 266) s k 0 5 0
      · obtain ⟨w', e1, e2⟩ := c_wk h hN hs m n (k + 1) w f (by omega) (by omega) (by
          rcases hI with ⟨q1, q0, q2⟩ | ⟨q1, q2, q3, q4⟩
          · omega
          · refine Or.inr ⟨by omega, q2, q3, fun c hc hc2 => ?_⟩
            by_cases hck : c = k
            · subst hck; exact ⟨by omega, fun e => by omega⟩
            · exact q4 c (by omega) hc2) hex
        refine ⟨w', e1, ?_⟩
        rw [lX4_weakest]
        refine h_neg (by first | omega | ((simp (disch := omega) only [i0, i1, i_lt, i_le, i_eq, i_add, i_sub, i_mul, i_neg, i_ofNat, i_rem, i_div, w_in, w_in2, w_cnt, w_cnt2, z01, z01', il, li, lc_ge, lc_le, lc_gt, lc_lt, lc_eq, l_ofNat, l0, l_eq, l_lt, l_le]) <;> omega)) ?_
        rw [in_nat (by omega) (by omega), tk, i_add, show (k : Int) + 1 = ((k + 1 : Nat) : Int) by omega]
        refine h_neg (by decide) (h_bind (c_fv h hN hs (by omega)) ?_)
        refine h_pos ?_ e2
        rcases hI with ⟨q1, q0, q2⟩ | ⟨q1, q2, q3, q4⟩
        · omega
        · rw [i_lt (by omega) (by omega) (by omega) (by omega)]; exact hlt
      · obtain ⟨w', e1, e2⟩ := c_wk h hN hs m n (k + 1) k (fvS (rv S 266) s k 0 5 0) (by omega) (by omega) (by
          refine Or.inr ⟨by omega, tk, rfl, fun c hc hc2 => ?_⟩
          by_cases hck : c = k
          · subst hck; exact ⟨Int.le_refl _, fun _ => Nat.le_refl _⟩
          · rcases hI with ⟨q1, q0, q2⟩ | ⟨q1, q2, q3, q4⟩
            · rw [q2 c (by omega)] at hc2; cases hc2
            · have := q4 c (by omega) hc2
              exact ⟨by omega, fun _ => by omega⟩) hex
        refine ⟨w', e1, ?_⟩
        rw [lX4_weakest]
        refine h_neg (by first | omega | ((simp (disch := omega) only [i0, i1, i_lt, i_le, i_eq, i_add, i_sub, i_mul, i_neg, i_ofNat, i_rem, i_div, w_in, w_in2, w_cnt, w_cnt2, z01, z01', il, li, lc_ge, lc_le, lc_gt, lc_lt, lc_eq, l_ofNat, l0, l_eq, l_lt, l_le]) <;> omega)) ?_
        rw [in_nat (by omega) (by omega), tk, i_add, show (k : Int) + 1 = ((k + 1 : Nat) : Int) by omega]
        refine h_neg (by decide) (h_bind (c_fv h hN hs (by omega)) ?_)
        refine h_neg ?_ e2
        rcases hI with ⟨q1, q0, q2⟩ | ⟨q1, q2, q3, q4⟩
        · rw [i_lt (by omega) (by omega) (by omega) (by omega)]; exact hlt
        · rw [i_lt (by omega) (by omega) (by omega) (by omega)]; exact hlt
end PMS
