/-! ===== best ===== -/
/-- thinned birds count as ones of chance 0: ten times as many ways each -/
theorem spL_sc {p s : Nat → Bool} {q : Nat → Int} : ∀ (r b j : Nat) (w w' : Nat → Int), (∀ k, w' k = 10 ^ j * w k) → ∀ k, spL p (fun b => if s b = true then 0 else q b) r b w' k = 10 ^ (j + cnL (fun b => p b && s b) r b) * spL (fun b => p b && !(s b)) q r b w k
  | 0, b, j, w, w', h, k => h k
  | r + 1, b, j, w, w', h, k => by
    unfold spL cnL
    cases hp : p b with
    | false =>
      simp only [Bool.false_and, Bool.false_eq_true, if_false, Nat.zero_add]
      exact spL_sc r (b + 1) j w w' h k
    | true =>
      cases hs : s b with
      | true =>
        simp only [Bool.true_and, Bool.not_true, Bool.false_eq_true, if_true, if_false]
        rw [show j + (1 + cnL (fun b => p b && s b) r (b + 1)) = (j + 1) + cnL (fun b => p b && s b) r (b + 1) by omega]
        refine spL_sc r (b + 1) (j + 1) w _ (fun k => ?_) k
        unfold spS
        rw [h k, Int.pow_succ, Int.mul_assoc, Int.mul_assoc]
        have e : (if k = 0 then (0 : Int) else w' (k - 1) * 0) = 0 := by split <;> omega
        rw [e, Int.add_zero, show (10 : Int) - 0 = 10 from rfl, Int.mul_comm (w k) 10]
      | false =>
        simp only [Bool.true_and, Bool.not_false, Bool.false_eq_true, if_true, if_false, Nat.zero_add]
        refine spL_sc r (b + 1) j _ _ (fun k => ?_) k
        unfold spS
        rw [h k, h (k - 1), Int.mul_add, Int.mul_assoc]
        congr 1
        split
        · rw [Int.mul_zero]
        · rw [Int.mul_assoc]
theorem cnL_sp {p s : Nat → Bool} : ∀ r b, cnL p r b = cnL (fun b => p b && s b) r b + cnL (fun b => p b && !(s b)) r b
  | 0, _ => rfl
  | r + 1, b => by
    unfold cnL
    rw [cnL_sp (p := p) (s := s) r (b + 1)]
    cases p b <;> cases s b <;> simp <;> omega
def beS (w : Nat → Int) (ok : Nat → Bool) (s : Nat) (x : Nat × Int) : Nat × Int := if ok s = true then (if x.2 < w s ∨ (w s = x.2 ∧ pc8 s < pc8 x.1) then (s, w s) else x) else x
def beL (w : Nat → Int) (ok : Nat → Bool) : Nat → Nat → Nat × Int → Nat × Int
  | 0, _, x => x
  | r + 1, s, x => beL w ok r (s + 1) (beS w ok s x)
def okB (D : Int32) (s : Nat) : Bool := decide ((Int32.ofInt (s : Int) &&& (D ^^^ Int32.ofInt (-1))) = 0)
theorem ok_sub {D : Int32} {s : Nat} (h : okB D s = true) {b : Nat} (hb : b < 32) (ht : tb (Int32.ofInt (s : Int)) b = true) : tb D b = true := by
  have e := of_decide_eq_true h
  have e2 : tb (Int32.ofInt (s : Int) &&& (D ^^^ Int32.ofInt (-1))) b = false := by rw [e]; exact tb_0 b
  rw [tb_and, tb_xor, tb_m1 b hb, ht] at e2
  cases hd : tb D b with
  | true => rfl
  | false => rw [hd] at e2; exact absurd e2 (by decide)
/-- ways of a count, of all that are due, some thinned -/
def wyS (W : Nat → wP) (A : Nat → Int) (D : Int32) (c s : Nat) : Int := spL (tb D) (fun b => if tb (Int32.ofInt (s : Int)) b = true then 0 else chS W A b) 8 0 sp0 c
section PMS
variable {T : yK} {S S' S1 S2 : yS} {A A' : Nat → Int} {W : Nat → wP}
theorem wy_c (hr : rI A) {D : Int32} {X : yS} (hD : ∀ b, b < 32 → tb D b = true → (b : Int) < A 0) (hx : chN W A X (A 0).toNat) {N : Nat} (hN : 2000000 ≤ N) {c s : Nat} (hc : c < 9) : ∃ f' n, f' c = Int64.ofInt (wyS W A D c s) ∧ 0 ≤ wyS W A D c s ∧ wyS W A D c s ≤ 100000000 ∧ fX11_spreadOver N D (Int32.ofInt (s : Int)) X = some (sQ X f' n (10 ^ n)) := by
  have h0 := I_i0 hr
  have hq : ∀ b, 0 ≤ (if b < 8 then (if tb (Int32.ofInt (s : Int)) b = true then 0 else chS W A b) else 0) ∧ (if b < 8 then (if tb (Int32.ofInt (s : Int)) b = true then 0 else chS W A b) else 0) ≤ 10 := fun b => by
    by_cases q : b < 8
    · rw [if_pos q]
      split
      · omega
      · exact chS_rng hr q
    · rw [if_neg q]; omega
  have es : spL (tb D) (fun b => if b < 8 then (if tb (Int32.ofInt (s : Int)) b = true then 0 else chS W A b) else 0) 8 0 sp0 = spL (tb D) (fun b => if tb (Int32.ofInt (s : Int)) b = true then 0 else chS W A b) 8 0 sp0 := spL_ext _ _ _ (fun k _ hk => ⟨rfl, fun _ => if_pos (by omega)⟩)
  obtain ⟨f, s1, s2⟩ := c_spr hN (X := X) (D := D) (t := Int32.ofInt (s : Int)) hq (fun b b8 hb ht => by
    have := hD b (by omega) hb
    rw [if_pos b8, ht, if_neg (by decide)]
    exact hx b (by omega)) (fun b b8 _ ht => by rw [if_pos b8, if_pos ht])
  have hI := spL_I (p := tb D) hq 8 0 0 sp0 wI_0 (by omega)
  have hle := cnL_le (tb D) 8 0
  have hwc := wI_le hI (show c < 13 by omega)
  have hwn := hI.1 c
  have hp : (10 : Int) ^ (0 + cnL (tb D) 8 0) ≤ 10 ^ 8 := by
    have : 10 ^ (0 + cnL (tb D) 8 0) ≤ 10 ^ 8 := Nat.pow_le_pow_right (by omega) (by omega)
    exact_mod_cast this
  have e8 : (10 : Int) ^ 8 = 100000000 := rfl
  rw [es] at s1 hwc hwn
  exact ⟨f, cnL (tb D) 8 0, s1 c (by omega), hwn, by unfold wyS; omega, s2⟩
theorem wy_q (h : RfR S W) (hA : rv S 266 = A) {D : Int32} (hD : ∀ b, b < 32 → tb D b = true → (b : Int) < A 0) {N : Nat} (hN : 2000000 ≤ N) {c s : Nat} (hc : c < 9) (hs : s < 256) : ∃ S' n, n ≤ 8 ∧ fX12_layRows N (D &&& (Int32.ofInt (s : Int) ^^^ Int32.ofInt (-1))) S = some (Int64.ofInt (10 ^ n), S') ∧ (∃ y : Int, S'.2.2.2.1 275 c = Int64.ofInt y ∧ 0 ≤ y ∧ y ≤ 10 ^ n ∧ 10 ^ (8 - n) * y = 10 ^ (8 - cnL (tb D) 8 0) * wyS W A D c s) ∧ Fq S S' := by
  have hr := h.1
  rw [hA] at hr
  have h0 := I_i0 hr
  obtain ⟨f, S', g1, g2, g3, g4⟩ := q_lay h hA hN (D := D &&& (Int32.ofInt (s : Int) ^^^ Int32.ofInt (-1)))
  have ep : ∀ b, b < 32 → tb (D &&& (Int32.ofInt (s : Int) ^^^ Int32.ofInt (-1))) b = (tb D b && !(tb (Int32.ofInt (s : Int)) b)) := fun b hb => by
    rw [tb_and, tb_xor, tb_m1 b hb]
    cases tb (Int32.ofInt (s : Int)) b <;> rfl
  have no : ∀ k, 0 + (A 0).toNat ≤ k → k < 0 + (A 0).toNat + (8 - (A 0).toNat) → (fun b => tb D b && !(tb (Int32.ofInt (s : Int)) b)) k = false := fun k a b => by
    dsimp only
    cases hd : tb D k with
    | false => rfl
    | true => have := hD k (by omega) hd; omega
  have e1 : spL (tb (D &&& (Int32.ofInt (s : Int) ^^^ Int32.ofInt (-1)))) (chS W A) (A 0).toNat 0 sp0 = spL (fun b => tb D b && !(tb (Int32.ofInt (s : Int)) b)) (chS W A) 8 0 sp0 := by
    have e := spL_add (p := fun b => tb D b && !(tb (Int32.ofInt (s : Int)) b)) (q := chS W A) (A 0).toNat (8 - (A 0).toNat) 0 sp0
    rw [show (A 0).toNat + (8 - (A 0).toNat) = 8 by omega, spL_no (8 - (A 0).toNat) _ _ no] at e
    rw [e]
    exact spL_ext _ _ _ (fun k _ hk => ⟨ep k (by omega), fun _ => rfl⟩)
  have e2 : cnL (tb (D &&& (Int32.ofInt (s : Int) ^^^ Int32.ofInt (-1)))) (A 0).toNat 0 = cnL (fun b => tb D b && !(tb (Int32.ofInt (s : Int)) b)) 8 0 := by
    have e := cnL_add (p := fun b => tb D b && !(tb (Int32.ofInt (s : Int)) b)) (A 0).toNat (8 - (A 0).toNat) 0
    rw [show (A 0).toNat + (8 - (A 0).toNat) = 8 by omega, cnL_no (8 - (A 0).toNat) _ no, Nat.add_zero] at e
    rw [e]
    exact cnL_ext _ _ (fun k _ hk => ep k (by omega))
  rw [e1] at g1
  rw [e2] at g3
  have hq : ∀ b, 0 ≤ (if b < 8 then chS W A b else 0) ∧ (if b < 8 then chS W A b else 0) ≤ 10 := fun b => by
    by_cases q : b < 8
    · rw [if_pos q]; exact chS_rng hr q
    · rw [if_neg q]; omega
  have hI := spL_I (p := fun b => tb D b && !(tb (Int32.ofInt (s : Int)) b)) hq 8 0 0 sp0 wI_0 (by omega)
  rw [Nat.zero_add, spL_ext (p := fun b => tb D b && !(tb (Int32.ofInt (s : Int)) b)) (p' := fun b => tb D b && !(tb (Int32.ofInt (s : Int)) b)) (q' := chS W A) 8 0 sp0 (fun k _ hk => ⟨rfl, fun _ => if_pos (by omega)⟩)] at hI
  have hle := cnL_le (fun b => tb D b && !(tb (Int32.ofInt (s : Int)) b)) 8 0
  have hsp := cnL_sp (p := tb D) (s := tb (Int32.ofInt (s : Int))) 8 0
  have hle2 := cnL_le (tb D) 8 0
  have sc := spL_sc (p := tb D) (s := tb (Int32.ofInt (s : Int))) (q := chS W A) 8 0 0 sp0 sp0 (fun k => by rw [Int.pow_zero, Int.one_mul]) c
  rw [Nat.zero_add] at sc
  refine ⟨S', _, hle, g3, ⟨_, by rw [g2]; exact g1 c (by omega), hI.1 c, wI_le hI (by omega), ?_⟩, g4⟩
  unfold wyS
  rw [sc, ← Int.mul_assoc, ← Int.pow_add]
  congr 2
  omega
theorem k_bestL {N : Nat} (hN : 2000000 ≤ N) (hr : rI A) {D : Int32} (hD : ∀ b, b < 32 → tb D b = true → (b : Int) < A 0) {c : Nat} (hc : c < 9) : ∀ (r n s : Nat) (x : Nat × Int) (S : yS), s + r = 256 → r < n → chN W A S (A 0).toNat → x.1 < 256 → -1 ≤ x.2 ∧ x.2 ≤ 100000000 → ∃ S', lX11_bestThinned N T n (Int32.ofInt (c : Int)) D (Int32.ofInt (x.1 : Int)) (Int64.ofInt x.2) (Int32.ofInt (s : Int)) S = some (Int32.ofInt ((beL (wyS W A D c) (okB D) r s x).1 : Int), S') ∧ Fq S S' ∧ (beL (wyS W A D c) (okB D) r s x).1 < 256
  | 0, n + 1, s, x, S, hs, hn, hx, h1, h2 => by
    rw [lX11_bestThinned]
    exact ⟨S, h_pos (by first | omega | ((simp (disch := omega) only [i0, i1, i_lt, i_le, i_eq, i_add, i_sub, i_mul, i_neg, i_ofNat, i_rem, i_div, w_in, w_in2, w_cnt, w_cnt2, z01, z01', il, li, lc_ge, lc_le, lc_gt, lc_lt, lc_eq, l_ofNat, l0, l_eq, l_lt, l_le]) <;> omega)) rfl, Fq_refl S, h1⟩
  | r + 1, n + 1, s, x, S, hs, hn, hx, h1, h2 => by
    rw [lX11_bestThinned, i_add, show (s : Int) + 1 = ((s + 1 : Nat) : Int) by omega]
    show ∃ S', _ = some (Int32.ofInt ((beL (wyS W A D c) (okB D) r (s + 1) (beS (wyS W A D c) (okB D) s x)).1 : Int), S') ∧ _ ∧ (beL (wyS W A D c) (okB D) r (s + 1) (beS (wyS W A D c) (okB D) s x)).1 < 256
    by_cases ho : okB D s = true
    · have ho2 := of_decide_eq_true ho
      obtain ⟨f, m, w1, w2, w3, w4⟩ := wy_c hr hD hx hN (c := c) (s := s) hc
      have hF : Fq S (sQ S f m (10 ^ m)) := sQ_Fq _ _ _ _
      have hx2 : chN W A (sQ S f m (10 ^ m)) (A 0).toNat := hx
      have hj : fX7_just (Int32.ofInt (c : Int)) (sQ S f m (10 ^ m)) = some (Int64.ofInt (wyS W A D c s)) := by
        unfold fX7_just
        refine h_neg (by first | omega | ((simp (disch := omega) only [i0, i1, i_lt, i_le, i_eq, i_add, i_sub, i_mul, i_neg, i_ofNat, i_rem, i_div, w_in, w_in2, w_cnt, w_cnt2, z01, z01', il, li, lc_ge, lc_le, lc_gt, lc_lt, lc_eq, l_ofNat, l0, l_eq, l_lt, l_le]) <;> omega)) (h_ainN (by omega) (by omega) ?_)
        rw [sQ_f, w1]
      have p1 := pc8_a s (by omega)
      have p2 := pc8_a x.1 h1
      have p3 := pc8_le s (by omega)
      have p4 := pc8_le x.1 h1
      by_cases c1 : x.2 < wyS W A D c s
      · have eb : beS (wyS W A D c) (okB D) s x = (s, wyS W A D c s) := by unfold beS; rw [if_pos ho, if_pos (Or.inl c1)]
        rw [eb]
        obtain ⟨S', e1, e2, e3⟩ := k_bestL hN hr hD hc r n (s + 1) (s, wyS W A D c s) _ (by omega) (by omega) hx2 (show s < 256 by omega) (by dsimp only; omega)
        exact ⟨S', h_neg (by first | omega | ((simp (disch := omega) only [i0, i1, i_lt, i_le, i_eq, i_add, i_sub, i_mul, i_neg, i_ofNat, i_rem, i_div, w_in, w_in2, w_cnt, w_cnt2, z01, z01', il, li, lc_ge, lc_le, lc_gt, lc_lt, lc_eq, l_ofNat, l0, l_eq, l_lt, l_le]) <;> omega)) (h_pos ho2 (h_bind w4 (h_bind hj (h_pos (by first | omega | ((simp (disch := omega) only [i0, i1, i_lt, i_le, i_eq, i_add, i_sub, i_mul, i_neg, i_ofNat, i_rem, i_div, w_in, w_in2, w_cnt, w_cnt2, z01, z01', il, li, lc_ge', lc_le', lc_gt', lc_lt', lc_eq', l_ofNat, l0, l_eq, l_lt, l_le, l_add, l_mul]) <;> omega)) e1)))), Fq_trans hF e2, e3⟩
      · by_cases c2 : wyS W A D c s = x.2
        · by_cases c3 : pc8 s < pc8 x.1
          · have eb : beS (wyS W A D c) (okB D) s x = (s, wyS W A D c s) := by unfold beS; rw [if_pos ho, if_pos (Or.inr ⟨c2, c3⟩)]
            rw [eb]
            obtain ⟨S', e1, e2, e3⟩ := k_bestL hN hr hD hc r n (s + 1) (s, wyS W A D c s) _ (by omega) (by omega) hx2 (show s < 256 by omega) (by dsimp only; omega)
            refine ⟨S', h_neg (by first | omega | ((simp (disch := omega) only [i0, i1, i_lt, i_le, i_eq, i_add, i_sub, i_mul, i_neg, i_ofNat, i_rem, i_div, w_in, w_in2, w_cnt, w_cnt2, z01, z01', il, li, lc_ge, lc_le, lc_gt, lc_lt, lc_eq, l_ofNat, l0, l_eq, l_lt, l_le]) <;> omega)) (h_pos ho2 (h_bind w4 (h_bind hj (h_neg (by first | omega | ((simp (disch := omega) only [i0, i1, i_lt, i_le, i_eq, i_add, i_sub, i_mul, i_neg, i_ofNat, i_rem, i_div, w_in, w_in2, w_cnt, w_cnt2, z01, z01', il, li, lc_ge', lc_le', lc_gt', lc_lt', lc_eq', l_ofNat, l0, l_eq, l_lt, l_le, l_add, l_mul]) <;> omega)) (h_neg (by first | omega | ((simp (disch := omega) only [i0, i1, i_lt, i_le, i_eq, i_add, i_sub, i_mul, i_neg, i_ofNat, i_rem, i_div, w_in, w_in2, w_cnt, w_cnt2, z01, z01', il, li, lc_ge', lc_le', lc_gt', lc_lt', lc_eq', l_ofNat, l0, l_eq, l_lt, l_le, l_add, l_mul]) <;> omega)) ?_))))), Fq_trans hF e2, e3⟩
            rw [p1, p2]
            exact h_neg (by first | omega | ((simp (disch := omega) only [i0, i1, i_lt, i_le, i_eq, i_add, i_sub, i_mul, i_neg, i_ofNat, i_rem, i_div, w_in, w_in2, w_cnt, w_cnt2, z01, z01', il, li, lc_ge, lc_le, lc_gt, lc_lt, lc_eq, l_ofNat, l0, l_eq, l_lt, l_le]) <;> omega)) e1
          · have eb : beS (wyS W A D c) (okB D) s x = x := by unfold beS; rw [if_pos ho, if_neg (by omega)]
            rw [eb]
            obtain ⟨S', e1, e2, e3⟩ := k_bestL hN hr hD hc r n (s + 1) x _ (by omega) (by omega) hx2 h1 h2
            refine ⟨S', h_neg (by first | omega | ((simp (disch := omega) only [i0, i1, i_lt, i_le, i_eq, i_add, i_sub, i_mul, i_neg, i_ofNat, i_rem, i_div, w_in, w_in2, w_cnt, w_cnt2, z01, z01', il, li, lc_ge, lc_le, lc_gt, lc_lt, lc_eq, l_ofNat, l0, l_eq, l_lt, l_le]) <;> omega)) (h_pos ho2 (h_bind w4 (h_bind hj (h_neg (by first | omega | ((simp (disch := omega) only [i0, i1, i_lt, i_le, i_eq, i_add, i_sub, i_mul, i_neg, i_ofNat, i_rem, i_div, w_in, w_in2, w_cnt, w_cnt2, z01, z01', il, li, lc_ge', lc_le', lc_gt', lc_lt', lc_eq', l_ofNat, l0, l_eq, l_lt, l_le, l_add, l_mul]) <;> omega)) (h_neg (by first | omega | ((simp (disch := omega) only [i0, i1, i_lt, i_le, i_eq, i_add, i_sub, i_mul, i_neg, i_ofNat, i_rem, i_div, w_in, w_in2, w_cnt, w_cnt2, z01, z01', il, li, lc_ge', lc_le', lc_gt', lc_lt', lc_eq', l_ofNat, l0, l_eq, l_lt, l_le, l_add, l_mul]) <;> omega)) ?_))))), Fq_trans hF e2, e3⟩
            rw [p1, p2]
            exact h_pos (by first | omega | ((simp (disch := omega) only [i0, i1, i_lt, i_le, i_eq, i_add, i_sub, i_mul, i_neg, i_ofNat, i_rem, i_div, w_in, w_in2, w_cnt, w_cnt2, z01, z01', il, li, lc_ge, lc_le, lc_gt, lc_lt, lc_eq, l_ofNat, l0, l_eq, l_lt, l_le]) <;> omega)) e1
        · have eb : beS (wyS W A D c) (okB D) s x = x := by unfold beS; rw [if_pos ho, if_neg (by omega)]
          rw [eb]
          obtain ⟨S', e1, e2, e3⟩ := k_bestL hN hr hD hc r n (s + 1) x _ (by omega) (by omega) hx2 h1 h2
          exact ⟨S', h_neg (by first | omega | ((simp (disch := omega) only [i0, i1, i_lt, i_le, i_eq, i_add, i_sub, i_mul, i_neg, i_ofNat, i_rem, i_div, w_in, w_in2, w_cnt, w_cnt2, z01, z01', il, li, lc_ge, lc_le, lc_gt, lc_lt, lc_eq, l_ofNat, l0, l_eq, l_lt, l_le]) <;> omega)) (h_pos ho2 (h_bind w4 (h_bind hj (h_neg (by first | omega | ((simp (disch := omega) only [i0, i1, i_lt, i_le, i_eq, i_add, i_sub, i_mul, i_neg, i_ofNat, i_rem, i_div, w_in, w_in2, w_cnt, w_cnt2, z01, z01', il, li, lc_ge', lc_le', lc_gt', lc_lt', lc_eq', l_ofNat, l0, l_eq, l_lt, l_le, l_add, l_mul]) <;> omega)) (h_pos (by first | omega | ((simp (disch := omega) only [i0, i1, i_lt, i_le, i_eq, i_add, i_sub, i_mul, i_neg, i_ofNat, i_rem, i_div, w_in, w_in2, w_cnt, w_cnt2, z01, z01', il, li, lc_ge', lc_le', lc_gt', lc_lt', lc_eq', l_ofNat, l0, l_eq, l_lt, l_le, l_add, l_mul]) <;> omega)) e1))))), Fq_trans hF e2, e3⟩
    · have ho2 := fun q => ho (decide_eq_true q)
      have eb : beS (wyS W A D c) (okB D) s x = x := by unfold beS; rw [if_neg ho]
      rw [eb]
      obtain ⟨S', e1, e2, e3⟩ := k_bestL hN hr hD hc r n (s + 1) x S (by omega) (by omega) hx h1 h2
      exact ⟨S', h_neg (by first | omega | ((simp (disch := omega) only [i0, i1, i_lt, i_le, i_eq, i_add, i_sub, i_mul, i_neg, i_ofNat, i_rem, i_div, w_in, w_in2, w_cnt, w_cnt2, z01, z01', il, li, lc_ge, lc_le, lc_gt, lc_lt, lc_eq, l_ofNat, l0, l_eq, l_lt, l_le]) <;> omega)) (h_neg ho2 e1), e2, e3⟩
theorem q_bestL {N : Nat} (hN : 2000000 ≤ N) {D : Int32} (hD : ∀ b, b < 32 → tb D b = true → (b : Int) < A 0) {c : Nat} (hc : c < 9) {K : Int} (hK : K = 10 ^ (8 - cnL (tb D) 8 0)) {z : Int} (hz : z = 0 ∨ z = 1) : ∀ (r n s : Nat) (x : Nat × Int) (y : Int) (S : yS), s + r = 256 → r < n → RfR S W → rv S 266 = A → x.1 < 256 → (x.2 = -1 ∧ y = -1 ∨ 0 ≤ x.2 ∧ y = K * x.2) → -1 ≤ y ∧ y ≤ 100000000 → (beL (wyS W A D c) (okB D) r s x).1 < 256 → ∃ S', lX12_best N n (Int32.ofInt (c : Int)) (Int32.ofInt z) D (Int32.ofInt (x.1 : Int)) (Int64.ofInt y) (Int32.ofInt (s : Int)) S = some (Int32.ofInt (if z = 0 then ((beL (wyS W A D c) (okB D) r s x).1 : Int) else (pc8 (beL (wyS W A D c) (okB D) r s x).1 : Nat)), S') ∧ Fq S S'
  | 0, n + 1, s, x, y, S, hs, hn, h, hA, h1, h2, h3, h4 => by
    rw [lX12_best]
    refine ⟨S, h_pos (by first | omega | ((simp (disch := omega) only [i0, i1, i_lt, i_le, i_eq, i_add, i_sub, i_mul, i_neg, i_ofNat, i_rem, i_div, w_in, w_in2, w_cnt, w_cnt2, z01, z01', il, li, lc_ge, lc_le, lc_gt, lc_lt, lc_eq, l_ofNat, l0, l_eq, l_lt, l_le]) <;> omega)) ?_, Fq_refl S⟩
    rcases hz with rfl | rfl
    · exact h_pos rfl rfl
    · exact h_neg (by decide) (h_bind (pc8_b (by omega) h1) rfl)
  | r + 1, n + 1, s, x, y, S, hs, hn, h, hA, h1, h2, h3, h4 => by
    have hr := h.1
    rw [hA] at hr
    rw [lX12_best, i_add, show (s : Int) + 1 = ((s + 1 : Nat) : Int) by omega]
    show ∃ S', _ = some (Int32.ofInt (if z = 0 then ((beL (wyS W A D c) (okB D) r (s + 1) (beS (wyS W A D c) (okB D) s x)).1 : Int) else (pc8 (beL (wyS W A D c) (okB D) r (s + 1) (beS (wyS W A D c) (okB D) s x)).1 : Nat)), S') ∧ _
    have h4 : (beL (wyS W A D c) (okB D) r (s + 1) (beS (wyS W A D c) (okB D) s x)).1 < 256 := h4
    by_cases ho : okB D s = true
    · have ho2 := of_decide_eq_true ho
      obtain ⟨S1, m, m8, w1, ⟨u, u1, u2, u3, u4⟩, w3⟩ := wy_q h hA hD hN (c := c) (s := s) hc (by omega)
      rw [← hK] at u4
      have r1 := RfR_Fq h w3
      have a1 := (Fq_rv w3 (show kA 266 by unfold kA; omega)).trans hA
      have hp := p12 (n := m) (by omega)
      have hp8 : (10 : Int) ^ (8 - m) * 10 ^ m = 100000000 := by
        rw [← Int.pow_add, show 8 - m + m = 8 by omega]; rfl
      have hv0 : (0 : Int) < 10 ^ (8 - m) := Int.pow_pos (by omega)
      have hdv : (100000000 : Int) / 10 ^ m = 10 ^ (8 - m) := by
        rw [← hp8, Int.mul_ediv_cancel _ (by omega)]
      have hv1 : 0 ≤ 10 ^ (8 - m) * u := Int.mul_nonneg (by omega) u2
      have hv2 : 10 ^ (8 - m) * u ≤ 100000000 := by
        rw [← hp8]
        exact Int.mul_le_mul_of_nonneg_left u3 (by omega)
      have hK0 : 0 < K := by rw [hK]; exact Int.pow_pos (by omega)
      have hw0 : 0 ≤ wyS W A D c s := by
        by_cases q : 0 ≤ wyS W A D c s
        · exact q
        · have : K * wyS W A D c s < 0 := Int.mul_neg_of_pos_of_neg hK0 (by omega)
          omega
      rw [u4] at hv1 hv2
      have cmp : (y < K * wyS W A D c s ↔ x.2 < wyS W A D c s) ∧ (K * wyS W A D c s = y ↔ wyS W A D c s = x.2) := by
        rcases h2 with ⟨a, b⟩ | ⟨a, b⟩
        · omega
        · rw [b]
          refine ⟨⟨fun q => Int.lt_of_mul_lt_mul_left q (by omega), fun q => Int.mul_lt_mul_of_pos_left q hK0⟩, ⟨fun q => Int.eq_of_mul_eq_mul_left (by omega) q, fun q => by rw [q]⟩⟩
      have p1 := pc8_b (N := N) (S := S1) (by omega) (show s < 256 by omega)
      have p2 := pc8_b (N := N) (S := S1) (by omega) h1
      have p3 := pc8_le s (by omega)
      have p4 := pc8_le x.1 h1
      have st : ∀ {X : Option (Int32 × yS)}, (if (lg_cmp (Int64.ofInt (K * wyS W A D c s)) (Int64.ofInt y)) < 0 then lX12_best N n (Int32.ofInt (c : Int)) (Int32.ofInt z) D (Int32.ofInt (x.1 : Int)) (Int64.ofInt y) (Int32.ofInt ((s + 1 : Nat) : Int)) S1 else (if ¬ (lg_cmp (Int64.ofInt (K * wyS W A D c s)) (Int64.ofInt y)) = 0 then lX12_best N n (Int32.ofInt (c : Int)) (Int32.ofInt z) D (Int32.ofInt (s : Int)) (Int64.ofInt (K * wyS W A D c s)) (Int32.ofInt ((s + 1 : Nat) : Int)) S1 else (fX12_bits N (Int32.ofInt (s : Int)) S1).bind fun u11 => (fX12_bits N (Int32.ofInt (x.1 : Int)) S1).bind fun u13 => (if u11 < u13 then lX12_best N n (Int32.ofInt (c : Int)) (Int32.ofInt z) D (Int32.ofInt (s : Int)) (Int64.ofInt (K * wyS W A D c s)) (Int32.ofInt ((s + 1 : Nat) : Int)) S1 else lX12_best N n (Int32.ofInt (c : Int)) (Int32.ofInt z) D (Int32.ofInt (x.1 : Int)) (Int64.ofInt y) (Int32.ofInt ((s + 1 : Nat) : Int)) S1))) = X → (if (Int32.ofInt 256) ≤ (Int32.ofInt (s : Int)) then (if (Int32.ofInt z) = 0 then some ((Int32.ofInt (x.1 : Int)), S) else (fX12_bits N (Int32.ofInt (x.1 : Int)) S).bind fun u4 => some (u4, S)) else (if ((Int32.ofInt (s : Int)) &&& (D ^^^ (Int32.ofInt (-1)))) = 0 then (fX12_layRows N (D &&& ((Int32.ofInt (s : Int)) ^^^ (Int32.ofInt (-1)))) S).bind fun (u7, S6) => (if u7 = 0 then none else (ain 13 (Int32.ofInt (c : Int))).bind fun j8 => pSt (((Int64.ofInt 100000000) / u7) * (S6.2.2.2.1 275 j8)) fun w9 => (if (lg_cmp w9 (Int64.ofInt y)) < 0 then lX12_best N n (Int32.ofInt (c : Int)) (Int32.ofInt z) D (Int32.ofInt (x.1 : Int)) (Int64.ofInt y) (Int32.ofInt ((s + 1 : Nat) : Int)) S6 else (if ¬ (lg_cmp w9 (Int64.ofInt y)) = 0 then lX12_best N n (Int32.ofInt (c : Int)) (Int32.ofInt z) D (Int32.ofInt (s : Int)) w9 (Int32.ofInt ((s + 1 : Nat) : Int)) S6 else (fX12_bits N (Int32.ofInt (s : Int)) S6).bind fun u11 => (fX12_bits N (Int32.ofInt (x.1 : Int)) S6).bind fun u13 => (if u11 < u13 then lX12_best N n (Int32.ofInt (c : Int)) (Int32.ofInt z) D (Int32.ofInt (s : Int)) w9 (Int32.ofInt ((s + 1 : Nat) : Int)) S6 else lX12_best N n (Int32.ofInt (c : Int)) (Int32.ofInt z) D (Int32.ofInt (x.1 : Int)) (Int64.ofInt y) (Int32.ofInt ((s + 1 : Nat) : Int)) S6)))) else lX12_best N n (Int32.ofInt (c : Int)) (Int32.ofInt z) D (Int32.ofInt (x.1 : Int)) (Int64.ofInt y) (Int32.ofInt ((s + 1 : Nat) : Int)) S)) = X := by
        intro X hX
        refine h_neg (by first | omega | ((simp (disch := omega) only [i0, i1, i_lt, i_le, i_eq, i_add, i_sub, i_mul, i_neg, i_ofNat, i_rem, i_div, w_in, w_in2, w_cnt, w_cnt2, z01, z01', il, li, lc_ge, lc_le, lc_gt, lc_lt, lc_eq, l_ofNat, l0, l_eq, l_lt, l_le]) <;> omega)) (h_pos ho2 (h_bind w1 ?_))
        dsimp only
        generalize hg : (10 : Int) ^ m = g at *
        refine h_neg (by first | omega | ((simp (disch := omega) only [i0, i1, i_lt, i_le, i_eq, i_add, i_sub, i_mul, i_neg, i_ofNat, i_rem, i_div, w_in, w_in2, w_cnt, w_cnt2, z01, z01', il, li, lc_ge', lc_le', lc_gt', lc_lt', lc_eq', l_ofNat, l0, l_eq, l_lt, l_le, l_add, l_mul]) <;> omega)) (h_ainN (by omega) (by omega) ?_)
        rw [u1, l_div (by omega) (by omega) (by omega) (by omega), hdv, l_mul, u4]
        exact hX
      by_cases c1 : x.2 < wyS W A D c s
      · have c1' := cmp.1.mpr c1
        have eb : beS (wyS W A D c) (okB D) s x = (s, wyS W A D c s) := by unfold beS; rw [if_pos ho, if_pos (Or.inl c1)]
        rw [eb] at h4 ⊢
        obtain ⟨S', e1, e2⟩ := q_bestL hN hD hc hK hz r n (s + 1) (s, wyS W A D c s) (K * wyS W A D c s) S1 (by omega) (by omega) r1 a1 (show s < 256 by omega) (Or.inr ⟨hw0, rfl⟩) (by omega) h4
        exact ⟨S', st (h_neg (by first | omega | ((simp (disch := omega) only [i0, i1, i_lt, i_le, i_eq, i_add, i_sub, i_mul, i_neg, i_ofNat, i_rem, i_div, w_in, w_in2, w_cnt, w_cnt2, z01, z01', il, li, lc_ge', lc_le', lc_gt', lc_lt', lc_eq', l_ofNat, l0, l_eq, l_lt, l_le, l_add, l_mul]) <;> omega)) (h_pos (by first | omega | ((simp (disch := omega) only [i0, i1, i_lt, i_le, i_eq, i_add, i_sub, i_mul, i_neg, i_ofNat, i_rem, i_div, w_in, w_in2, w_cnt, w_cnt2, z01, z01', il, li, lc_ge', lc_le', lc_gt', lc_lt', lc_eq', l_ofNat, l0, l_eq, l_lt, l_le, l_add, l_mul]) <;> omega)) e1)), Fq_trans w3 e2⟩
      · by_cases c2 : wyS W A D c s = x.2
        · have c2' := cmp.2.mpr c2
          by_cases c3 : pc8 s < pc8 x.1
          · have eb : beS (wyS W A D c) (okB D) s x = (s, wyS W A D c s) := by unfold beS; rw [if_pos ho, if_pos (Or.inr ⟨c2, c3⟩)]
            rw [eb] at h4 ⊢
            obtain ⟨S', e1, e2⟩ := q_bestL hN hD hc hK hz r n (s + 1) (s, wyS W A D c s) (K * wyS W A D c s) S1 (by omega) (by omega) r1 a1 (show s < 256 by omega) (Or.inr ⟨hw0, rfl⟩) (by omega) h4
            exact ⟨S', st (h_neg (by first | omega | ((simp (disch := omega) only [i0, i1, i_lt, i_le, i_eq, i_add, i_sub, i_mul, i_neg, i_ofNat, i_rem, i_div, w_in, w_in2, w_cnt, w_cnt2, z01, z01', il, li, lc_ge', lc_le', lc_gt', lc_lt', lc_eq', l_ofNat, l0, l_eq, l_lt, l_le, l_add, l_mul]) <;> omega)) (h_neg (by first | omega | ((simp (disch := omega) only [i0, i1, i_lt, i_le, i_eq, i_add, i_sub, i_mul, i_neg, i_ofNat, i_rem, i_div, w_in, w_in2, w_cnt, w_cnt2, z01, z01', il, li, lc_ge', lc_le', lc_gt', lc_lt', lc_eq', l_ofNat, l0, l_eq, l_lt, l_le, l_add, l_mul]) <;> omega)) (h_bind p1 (h_bind p2 (h_pos (by first | omega | ((simp (disch := omega) only [i0, i1, i_lt, i_le, i_eq, i_add, i_sub, i_mul, i_neg, i_ofNat, i_rem, i_div, w_in, w_in2, w_cnt, w_cnt2, z01, z01', il, li, lc_ge, lc_le, lc_gt, lc_lt, lc_eq, l_ofNat, l0, l_eq, l_lt, l_le]) <;> omega)) e1))))), Fq_trans w3 e2⟩
          · have eb : beS (wyS W A D c) (okB D) s x = x := by unfold beS; rw [if_pos ho, if_neg (by omega)]
            rw [eb] at h4 ⊢
            obtain ⟨S', e1, e2⟩ := q_bestL hN hD hc hK hz r n (s + 1) x y S1 (by omega) (by omega) r1 a1 h1 h2 h3 h4
            exact ⟨S', st (h_neg (by first | omega | ((simp (disch := omega) only [i0, i1, i_lt, i_le, i_eq, i_add, i_sub, i_mul, i_neg, i_ofNat, i_rem, i_div, w_in, w_in2, w_cnt, w_cnt2, z01, z01', il, li, lc_ge', lc_le', lc_gt', lc_lt', lc_eq', l_ofNat, l0, l_eq, l_lt, l_le, l_add, l_mul]) <;> omega)) (h_neg (by first | omega | ((simp (disch := omega) only [i0, i1, i_lt, i_le, i_eq, i_add, i_sub, i_mul, i_neg, i_ofNat, i_rem, i_div, w_in, w_in2, w_cnt, w_cnt2, z01, z01', il, li, lc_ge', lc_le', lc_gt', lc_lt', lc_eq', l_ofNat, l0, l_eq, l_lt, l_le, l_add, l_mul]) <;> omega)) (h_bind p1 (h_bind p2 (h_neg (by first | omega | ((simp (disch := omega) only [i0, i1, i_lt, i_le, i_eq, i_add, i_sub, i_mul, i_neg, i_ofNat, i_rem, i_div, w_in, w_in2, w_cnt, w_cnt2, z01, z01', il, li, lc_ge, lc_le, lc_gt, lc_lt, lc_eq, l_ofNat, l0, l_eq, l_lt, l_le]) <;> omega)) e1))))), Fq_trans w3 e2⟩
        · have c2' : K * wyS W A D c s ≠ y := fun q => c2 (cmp.2.mp q)
          have c1' : ¬ y < K * wyS W A D c s := fun q => c1 (cmp.1.mp q)
          have eb : beS (wyS W A D c) (okB D) s x = x := by unfold beS; rw [if_pos ho, if_neg (by omega)]
          rw [eb] at h4 ⊢
          obtain ⟨S', e1, e2⟩ := q_bestL hN hD hc hK hz r n (s + 1) x y S1 (by omega) (by omega) r1 a1 h1 h2 h3 h4
          exact ⟨S', st (h_pos (by first | omega | ((simp (disch := omega) only [i0, i1, i_lt, i_le, i_eq, i_add, i_sub, i_mul, i_neg, i_ofNat, i_rem, i_div, w_in, w_in2, w_cnt, w_cnt2, z01, z01', il, li, lc_ge', lc_le', lc_gt', lc_lt', lc_eq', l_ofNat, l0, l_eq, l_lt, l_le, l_add, l_mul]) <;> omega)) e1), Fq_trans w3 e2⟩
    · have ho2 := fun q => ho (decide_eq_true q)
      have eb : beS (wyS W A D c) (okB D) s x = x := by unfold beS; rw [if_neg ho]
      rw [eb] at h4 ⊢
      obtain ⟨S', e1, e2⟩ := q_bestL hN hD hc hK hz r n (s + 1) x y S (by omega) (by omega) h hA h1 h2 h3 h4
      exact ⟨S', h_neg (by first | omega | ((simp (disch := omega) only [i0, i1, i_lt, i_le, i_eq, i_add, i_sub, i_mul, i_neg, i_ofNat, i_rem, i_div, w_in, w_in2, w_cnt, w_cnt2, z01, z01', il, li, lc_ge, lc_le, lc_gt, lc_lt, lc_eq, l_ofNat, l0, l_eq, l_lt, l_le]) <;> omega)) (h_neg ho2 e1), e2⟩
theorem pm_best (h : Rel T S) {N : Nat} (hN : 2000000 ≤ N) (v0 : Int32) {z : Int} (hz : z = 0 ∨ z = 1) : PM T S (fX11_best N T v0 (Int32.ofInt z)) (fX12_best N v0 (Int32.ofInt z)) := by
  obtain ⟨v, v1, v2, rfl⟩ := i_ex v0
  obtain ⟨W, hc, hf⟩ := Rel_W h
  have h6 := R_day h
  have hr := hc.2.1
  unfold PM fX11_best fX12_best
  by_cases hv : 0 ≤ v ∧ v ≤ 8
  · obtain ⟨c, rfl⟩ := Int.eq_ofNat_of_zero_le hv.1
    obtain ⟨S1, n1, n2, n3⟩ := k_note hc hN
    generalize hA : rv S 266 = A at *
    have hD : ∀ b, b < 32 → tb (dueS A (A 6)) b = true → (b : Int) < A 0 := fun b hb ht => by
      rw [dueS_tb hr hb] at ht
      exact of_decide_eq_true (Bool.and_eq_true_iff.mp ht).1
    obtain ⟨S2, k1, k2, k3⟩ := k_bestL (T := T) (W := W) hN hr hD (c := c) (by omega) 256 N 0 (0, -1) S1 (by omega) (by omega) n2 (by decide) (by dsimp only; omega)
    have f2 := Fq_trans n3 k2
    have a2 := (Fq_rv f2 (show kA 266 by unfold kA; omega)).trans hA
    obtain ⟨S3, q1, q2⟩ := q_bestL (W := W) (A := A) hN hD (c := c) (by omega) rfl hz 256 N 0 (0, -1) (-1) S2 (by omega) (by omega) (RfR_Fq hf f2) a2 (by decide) (Or.inl ⟨rfl, rfl⟩) (by omega) k3
    refine ⟨Int32.ofInt (if z = 0 then ((beL (wyS W A (dueS A (A 6)) c) (okB (dueS A (A 6))) 256 0 (0, -1)).1 : Int) else (pc8 (beL (wyS W A (dueS A (A 6)) c) (okB (dueS A (A 6))) 256 0 (0, -1)).1 : Nat)), S2, S3, ?_, ?_, Rel_Fq h (Fq_trans f2 q2)⟩
    · refine h_pos (by first | omega | ((simp (disch := omega) only [i0, i1, i_lt, i_le, i_eq, i_add, i_sub, i_mul, i_neg, i_ofNat, i_rem, i_div, w_in, w_in2, w_cnt, w_cnt2, z01, z01', il, li, lc_ge, lc_le, lc_gt, lc_lt, lc_eq, l_ofNat, l0, l_eq, l_lt, l_le]) <;> omega)) (h_bind (v := (Int32.ofInt ((beL (wyS W A (dueS A (A 6)) c) (okB (dueS A (A 6))) 256 0 (0, -1)).1 : Int), S2)) ?_ ?_)
      · unfold fX11_bestThinned
        rw [K_day hc.1]
        exact h_bind (k_dueS hc.1 hr hN (by omega)) (h_bind n1 k1)
      · dsimp only
        rcases hz with rfl | rfl
        · exact h_pos rfl rfl
        · refine h_neg (by decide) ?_
          rw [pc8_a _ k3]
          rfl
    · refine h_pos (by first | omega | ((simp (disch := omega) only [i0, i1, i_lt, i_le, i_eq, i_add, i_sub, i_mul, i_neg, i_ofNat, i_rem, i_div, w_in, w_in2, w_cnt, w_cnt2, z01, z01', il, li, lc_ge, lc_le, lc_gt, lc_lt, lc_eq, l_ofNat, l0, l_eq, l_lt, l_le]) <;> omega)) ?_
      have dn := q_dueN (RfR_Fq hf f2).1 hN
      rw [a2] at dn
      exact h_bind dn q1
  · exact ⟨Int32.ofInt (-1), S, S, h_neg (by first | omega | ((simp (disch := omega) only [i0, i1, i_lt, i_le, i_eq, i_add, i_sub, i_mul, i_neg, i_ofNat, i_rem, i_div, w_in, w_in2, w_cnt, w_cnt2, z01, z01', il, li, lc_ge, lc_le, lc_gt, lc_lt, lc_eq, l_ofNat, l0, l_eq, l_lt, l_le]) <;> omega)) rfl, h_neg (by first | omega | ((simp (disch := omega) only [i0, i1, i_lt, i_le, i_eq, i_add, i_sub, i_mul, i_neg, i_ofNat, i_rem, i_div, w_in, w_in2, w_cnt, w_cnt2, z01, z01', il, li, lc_ge, lc_le, lc_gt, lc_lt, lc_eq, l_ofNat, l0, l_eq, l_lt, l_le]) <;> omega)) rfl, h⟩
end PMS
