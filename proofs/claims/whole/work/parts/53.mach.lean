/-! ===== the loops are those machines ===== -/
theorem ySa_ySa (S : yS) (a : Nat) (f g : Nat → Int32) : ySa (ySa S a f) a g = ySa S a g := by
  have : yU (yU S.2.2.1 a f) a g = yU S.2.2.1 a g := by
    funext j
    unfold yU
    by_cases h : j = a
    · rw [if_pos h, if_pos h]
    · rw [if_neg h, if_neg h, if_neg h]
  show (S.1, S.2.1, yU (yU S.2.2.1 a f) a g, S.2.2.2) = _
  rw [this]
  rfl
theorem ySl_ySl (S : yS) (a : Nat) (f g : Nat → Int64) : ySl (ySl S a f) a g = ySl S a g := by
  have : yU (yU S.2.2.2.1 a f) a g = yU S.2.2.2.1 a g := by
    funext j
    unfold yU
    by_cases h : j = a
    · rw [if_pos h, if_pos h]
    · rw [if_neg h, if_neg h, if_neg h]
  show (S.1, S.2.1, S.2.2.1, yU (yU S.2.2.2.1 a f) a g, S.2.2.2.2) = _
  rw [this]
  rfl
theorem ySa_self (S : yS) (a : Nat) : ySa S a (S.2.2.1 a) = S := by
  unfold ySa
  have : yU S.2.2.1 a (S.2.2.1 a) = S.2.2.1 := by
    funext j; unfold yU; split
    · rename_i h; rw [h]
    · rfl
  rw [this]
theorem ySl_self (S : yS) (a : Nat) : ySl S a (S.2.2.2.1 a) = S := by
  unfold ySl
  have : yU S.2.2.2.1 a (S.2.2.2.1 a) = S.2.2.2.1 := by
    funext j; unfold yU; split
    · rename_i h; rw [h]
    · rfl
  rw [this]
theorem ySa_at (S : yS) (a : Nat) (f : Nat → Int32) : (ySa S a f).2.2.1 a = f := yU_eq
theorem ySa_ne (S : yS) {a i : Nat} (f : Nat → Int32) (h : i ≠ a) : (ySa S a f).2.2.1 i = S.2.2.1 i := yU_ne h
theorem ySl_at (S : yS) (a : Nat) (f : Nat → Int64) : (ySl S a f).2.2.2.1 a = f := yU_eq
theorem ySl_ne (S : yS) {a i : Nat} (f : Nat → Int64) (h : i ≠ a) : (ySl S a f).2.2.2.1 i = S.2.2.2.1 i := yU_ne h
/-- a pile of ints: the list's head on top -/
def plS (f : Nat → Int32) : List Int → Prop
  | [] => True
  | v :: r => f r.length = Int32.ofInt v ∧ plS f r
theorem plS_upd {f : Nat → Int32} {x : Int32} {k : Nat} : ∀ {l : List Int}, plS f l → l.length ≤ k → plS (upd f k x) l
  | [], _, _ => trivial
  | v :: r, h, hk => by
    simp only [List.length_cons] at hk
    refine ⟨?_, plS_upd h.2 (by omega)⟩
    rw [← h.1]; unfold upd; rw [if_neg (by omega)]
theorem plS_put {f : Nat → Int32} {v : Int} {l : List Int} (h : plS f l) : plS (upd f l.length (Int32.ofInt v)) (v :: l) := ⟨by unfold upd; rw [if_pos rfl], plS_upd h (Nat.le_refl _)⟩
def plL (f : Nat → Int64) : List Int → Prop
  | [] => True
  | v :: r => f r.length = Int64.ofInt v ∧ plL f r
theorem plL_upd {f : Nat → Int64} {x : Int64} {k : Nat} : ∀ {l : List Int}, plL f l → l.length ≤ k → plL (vp_updL f k x) l
  | [], _, _ => trivial
  | v :: r, h, hk => by
    simp only [List.length_cons] at hk
    refine ⟨?_, plL_upd h.2 (by omega)⟩
    rw [← h.1]; unfold vp_updL; rw [if_neg (by omega)]
theorem plL_put {f : Nat → Int64} {v : Int} {l : List Int} (h : plL f l) : plL (vp_updL f l.length (Int64.ofInt v)) (v :: l) := ⟨by unfold vp_updL; rw [if_pos rfl], plL_upd h (Nat.le_refl _)⟩
theorem w_one {k : Int} (h1 : -2147483648 ≤ k) (h2 : k < 2147483648) : fX1_isOfOne (Int32.ofInt k) = Int32.ofInt (if (9 ≤ k ∧ k ≤ 11) ∨ k = 41 then 1 else 0) := by
  unfold fX1_isOfOne
  simp (disch := omega) only [w_in, i0, z01, i_eq]
  repeat' split
  all_goals first | rfl | omega
theorem w_two {k : Int} (h1 : -2147483648 ≤ k) (h2 : k < 2147483648) : fX1_isOfTwo (Int32.ofInt k) = Int32.ofInt (if (25 ≤ k ∧ k ≤ 37) ∨ k = 12 ∨ k = 13 then 1 else 0) := by
  unfold fX1_isOfTwo
  simp (disch := omega) only [w_in, i0, z01, i_eq]
  repeat' split
  all_goals first | rfl | omega
/-- the class's cells give what a law may ask -/
def eCl (s : Nat) (S : yS) (E : eV) : Prop := (S.1 19 4 = Int32.ofInt (E 0) ∧ S.1 19 1 = Int32.ofInt (E 1) ∧ S.1 19 2 = Int32.ofInt (E 2) ∧ fJ6_bitCount_0f7a4 (S.1 19 0) = Int32.ofInt (E 3)) ∧ (s = 0 → S.1 17 2 = Int32.ofInt (E 4) ∧ 0 ≤ E 4 ∧ E 4 < 8 ∧ S.2.2.1 116 (E 4).toNat = Int32.ofInt (E 5) ∧ S.2.2.1 114 (E 4).toNat = Int32.ofInt (E 6)) ∧ (s = 1 → S.1 17 3 = Int32.ofInt (E 7) ∧ 0 ≤ E 7 ∧ E 7 < 9 ∧ S.2.2.1 117 (E 7).toNat = Int32.ofInt (E 8)) ∧ (∀ c, c < 9 → S.2.2.1 117 c = Int32.ofInt (E (10 + c))) ∧ S.1 18 5 = Int32.ofInt (E 30) ∧ (∀ b, b < 8 → S.2.2.1 20 b = Int32.ofInt (E (20 + b)))
theorem eCl_named {s : Nat} {S : yS} {E : eV} {k : Int} (h : eCl s S E) (hk : okN s k = true) : fX1_named (Int32.ofInt k) S = some (Int32.ofInt (E k.toNat)) := by
  obtain ⟨⟨h0, h1, h2, h3⟩, hs0, hs1, -, -, -⟩ := h
  unfold okN at hk
  have hk := of_decide_eq_true hk
  have hc : k = 0 ∨ k = 1 ∨ k = 2 ∨ k = 3 ∨ (s = 0 ∧ (k = 4 ∨ k = 5 ∨ k = 6)) ∨ (s = 1 ∧ (k = 7 ∨ k = 8)) := by omega
  unfold fX1_named
  rcases hc with rfl | rfl | rfl | rfl | ⟨hs, rfl | rfl | rfl⟩ | ⟨hs, rfl | rfl⟩
  · refine h_pos rfl ?_; rw [h0]; rfl
  · refine h_neg (by decide) (h_pos rfl ?_); rw [h1]; rfl
  · refine h_neg (by decide) (h_neg (by decide) (h_pos rfl ?_)); rw [h2]; rfl
  · refine h_neg (by decide) (h_neg (by decide) (h_neg (by decide) (h_pos rfl ?_))); rw [h3]; rfl
  · refine h_neg (by decide) (h_neg (by decide) (h_neg (by decide) (h_neg (by decide) (h_pos rfl ?_)))); rw [(hs0 hs).1]; rfl
  · obtain ⟨e1, e2, e3, e4, e5⟩ := hs0 hs
    refine h_neg (by decide) (h_neg (by decide) (h_neg (by decide) (h_neg (by decide) (h_neg (by decide) (h_pos rfl ?_))))); rw [e1]
    refine h_ain e2 (by omega) (by omega) ?_; rw [e4]; rfl
  · obtain ⟨e1, e2, e3, e4, e5⟩ := hs0 hs
    refine h_neg (by decide) (h_neg (by decide) (h_neg (by decide) (h_neg (by decide) (h_neg (by decide) (h_neg (by decide) (h_pos rfl ?_)))))); rw [e1]
    refine h_ain e2 (by omega) (by omega) ?_; rw [e5]; rfl
  · refine h_neg (by decide) (h_neg (by decide) (h_neg (by decide) (h_neg (by decide) (h_neg (by decide) (h_neg (by decide) (h_neg (by decide) (h_pos rfl ?_))))))); rw [(hs1 hs).1]; rfl
  · obtain ⟨e1, e2, e3, e4⟩ := hs1 hs
    refine h_neg (by decide) (h_neg (by decide) (h_neg (by decide) (h_neg (by decide) (h_neg (by decide) (h_neg (by decide) (h_neg (by decide) (h_neg (by decide) (h_pos rfl ?_)))))))); rw [e1]
    refine h_ain e2 (by omega) (by omega) ?_; rw [e4]; rfl
theorem eCl_one {s : Nat} {S : yS} {E : eV} {op v : Int} (h : eCl s S E) (hE : eG E) (ho : op = 9 ∨ op = 10 ∨ op = 41) (hv : -1000000 ≤ v ∧ v ≤ 1000000) : fX1_ofOne (Int32.ofInt op) (Int32.ofInt v) S = some (Int32.ofInt (one1 op E v)) := by
  obtain ⟨-, -, -, h6, h7, h8⟩ := h
  obtain ⟨-, hb0, hb8⟩ := hE
  unfold fX1_ofOne one1
  rcases ho with rfl | rfl | rfl
  · refine h_pos rfl ?_
    rw [if_pos rfl]
    simp (disch := omega) only [w_cnt, i0, z01]
    by_cases hc : 0 ≤ v ∧ v ≤ 8
    · rw [if_neg (by omega), if_pos hc]
      refine h_ain (by omega) (by omega) (by omega) ?_
      rw [h6 _ (by omega)]
    · rw [if_pos hc, if_neg hc]
  · refine h_neg (by decide) (h_pos rfl ?_)
    rw [if_neg (by decide), if_pos rfl]
    unfold fX0_hasBird
    simp (disch := omega) only [h7, i0, i_lt, i_le]
    by_cases hc : 0 ≤ v ∧ v < E 30
    · rw [if_neg (by omega), if_neg (by omega), if_pos hc]
      refine h_bind rfl (h_neg (by decide) ?_)
      refine h_ain (by omega) (by omega) (by omega) ?_
      rw [h8 _ (by omega)]
    · rw [if_neg hc]
      by_cases hv0 : v < 0
      · rw [if_pos hv0]; exact h_bind rfl (h_pos rfl rfl)
      · rw [if_neg hv0, if_pos (by omega)]; exact h_bind rfl (h_pos rfl rfl)
  · refine h_neg (by decide) (h_neg (by decide) (h_neg (by decide) ?_))
    rw [if_neg (by decide), if_neg (by decide), i_neg]
theorem i_so {S : yS} {op x y : Int} (ho : op = 25 ∨ op = 26 ∨ op = 27 ∨ op = 28 ∨ op = 36 ∨ op = 37) (hx : -1000000 ≤ x ∧ x ≤ 1000000) (hy : -1000000 ≤ y ∧ y ≤ 1000000) : fX1_isSo (Int32.ofInt op) (Int32.ofInt x) (Int32.ofInt y) S = some (Int32.ofInt (two1 op x y)) := by
  unfold fX1_isSo
  rcases ho with rfl | rfl | rfl | rfl | rfl | rfl
  · show _ = some (Int32.ofInt (b01 (x < y)))
    repeat (first | refine h_pos rfl ?_ | refine h_neg (by decide) ?_)
    simp (disch := omega) only [i_le, b01]
    split <;> split <;> first | rfl | omega
  · show _ = some (Int32.ofInt (b01 (y < x)))
    repeat (first | refine h_pos rfl ?_ | refine h_neg (by decide) ?_)
    simp (disch := omega) only [i_le, b01]
    split <;> split <;> first | rfl | omega
  · show _ = some (Int32.ofInt (b01 (x = y)))
    repeat (first | refine h_pos rfl ?_ | refine h_neg (by decide) ?_)
    simp (disch := omega) only [i_eq, b01]
    (repeat' split) <;> first | rfl | omega | contradiction
  · show _ = some (Int32.ofInt (b01 (x ≠ y)))
    repeat (first | refine h_pos rfl ?_ | refine h_neg (by decide) ?_)
    simp (disch := omega) only [i_eq, b01]
    (repeat' split) <;> first | rfl | omega | contradiction
  · show _ = some (Int32.ofInt (b01 (x ≤ y)))
    repeat (first | refine h_pos rfl ?_ | refine h_neg (by decide) ?_)
    simp (disch := omega) only [i_lt, b01]
    split <;> split <;> first | rfl | omega
  · show _ = some (Int32.ofInt (b01 (y ≤ x)))
    repeat (first | refine h_pos rfl ?_ | refine h_neg (by decide) ?_)
    simp (disch := omega) only [i_lt, b01]
    split <;> split <;> first | rfl | omega
theorem mul_bd {x y : Int} (hx : -1000000 ≤ x ∧ x ≤ 1000000) (hy : -1000000 ≤ y ∧ y ≤ 1000000) : -1000000000000 ≤ x * y ∧ x * y ≤ 1000000000000 := by
  have h1 : x.natAbs ≤ 1000000 := by omega
  have h2 : y.natAbs ≤ 1000000 := by omega
  have h3 : (x * y).natAbs ≤ 1000000 * 1000000 := by rw [Int.natAbs_mul]; exact Nat.mul_le_mul h1 h2
  omega
theorem i_two {S : yS} {op x y : Int} (ho : (25 ≤ op ∧ op ≤ 32) ∨ op = 36 ∨ op = 37) (hx : -1000000 ≤ x ∧ x ≤ 1000000) (hy : -1000000 ≤ y ∧ y ≤ 1000000) : fX1_ofTwo (Int32.ofInt op) (Int32.ofInt x) (Int32.ofInt y) S = some (Int32.ofInt (two1 op x y)) := by
  have hm := mul_bd hx hy
  unfold fX1_ofTwo
  refine h_neg (by first | omega | ((simp (disch := omega) only [i0, i1, i_lt, i_le, i_eq, i_add, i_sub, i_mul, i_neg, i_ofNat, i_rem, i_div, w_in, w_in2, w_cnt, w_cnt2, z01, z01', il, li, lc_ge, lc_le, lc_gt, lc_lt, lc_eq, l_ofNat, l0, l_eq, l_lt, l_le]) <;> omega)) (h_neg (by first | omega | ((simp (disch := omega) only [i0, i1, i_lt, i_le, i_eq, i_add, i_sub, i_mul, i_neg, i_ofNat, i_rem, i_div, w_in, w_in2, w_cnt, w_cnt2, z01, z01', il, li, lc_ge, lc_le, lc_gt, lc_lt, lc_eq, l_ofNat, l0, l_eq, l_lt, l_le]) <;> omega)) ?_)
  have hc : op = 29 ∨ op = 30 ∨ op = 31 ∨ op = 32 ∨ (op = 25 ∨ op = 26 ∨ op = 27 ∨ op = 28 ∨ op = 36 ∨ op = 37) := by omega
  rcases hc with rfl | rfl | rfl | rfl | hc
  · refine h_pos rfl ?_
    rw [i_add, hd_i (by omega) (by omega) (by omega) (by omega) (by omega) (by omega) (by omega)]
    rfl
  · refine h_neg (by decide) (h_pos rfl ?_)
    rw [i_sub, hd_i (by omega) (by omega) (by omega) (by omega) (by omega) (by omega) (by omega)]
    rfl
  · refine h_neg (by decide) (h_neg (by decide) (h_pos rfl ?_))
    rw [il (by omega) (by omega), il (by omega) (by omega), l_mul]
    simp (disch := omega) only [l_lt]
    show some (Int64.toInt32 _) = some (Int32.ofInt (clp (x * y)))
    unfold clp
    congr 1
    split
    · simp (disch := omega) only [l_lt]
      split
      · rw [li]; congr 1; omega
      · rw [li]; congr 1; omega
    · rw [if_neg (by decide), li]; congr 1; omega
  · refine h_neg (by decide) (h_neg (by decide) (h_neg (by decide) (h_pos rfl ?_)))
    simp (disch := omega) only [i0, i_eq]
    show _ = some (Int32.ofInt (x.tdiv y))
    by_cases h0 : y = 0
    · rw [if_neg (by omega), h0, Int.tdiv_zero]
    · rw [if_pos h0, if_neg h0, i_tdiv (by omega) (by omega) (by omega) (by omega)]
  · refine h_neg (by first | omega | ((simp (disch := omega) only [i0, i1, i_lt, i_le, i_eq, i_add, i_sub, i_mul, i_neg, i_ofNat, i_rem, i_div, w_in, w_in2, w_cnt, w_cnt2, z01, z01', il, li, lc_ge, lc_le, lc_gt, lc_lt, lc_eq, l_ofNat, l0, l_eq, l_lt, l_le]) <;> omega)) (h_neg (by first | omega | ((simp (disch := omega) only [i0, i1, i_lt, i_le, i_eq, i_add, i_sub, i_mul, i_neg, i_ofNat, i_rem, i_div, w_in, w_in2, w_cnt, w_cnt2, z01, z01', il, li, lc_ge, lc_le, lc_gt, lc_lt, lc_eq, l_ofNat, l0, l_eq, l_lt, l_le]) <;> omega)) (h_neg (by first | omega | ((simp (disch := omega) only [i0, i1, i_lt, i_le, i_eq, i_add, i_sub, i_mul, i_neg, i_ofNat, i_rem, i_div, w_in, w_in2, w_cnt, w_cnt2, z01, z01', il, li, lc_ge, lc_le, lc_gt, lc_lt, lc_eq, l_ofNat, l0, l_eq, l_lt, l_le]) <;> omega)) (h_neg (by first | omega | ((simp (disch := omega) only [i0, i1, i_lt, i_le, i_eq, i_add, i_sub, i_mul, i_neg, i_ofNat, i_rem, i_div, w_in, w_in2, w_cnt, w_cnt2, z01, z01', il, li, lc_ge, lc_le, lc_gt, lc_lt, lc_eq, l_ofNat, l0, l_eq, l_lt, l_le]) <;> omega)) ?_)))
    refine h_bind (i_so hc hx hy) ?_
    rcases two1_01 (op := op) (x := x) (y := y) (by omega) with e | e
    · rw [e]; rfl
    · rw [e]; rfl
theorem i_two2 {S : yS} {op x y : Int} (ho : op = 12 ∨ op = 13) (hx : x = 0 ∨ x = 1) (hy : y = 0 ∨ y = 1) : fX1_ofTwo (Int32.ofInt op) (Int32.ofInt x) (Int32.ofInt y) S = some (Int32.ofInt (if op = 12 then min x y else max x y)) := by
  rcases ho with rfl | rfl <;> rcases hx with rfl | rfl <;> rcases hy with rfl | rfl <;> rfl
section CRUN
variable {N : Nat} {T : yK} {o L s : Nat} {S : yS} {E : eV}
set_option maxHeartbeats 2000000 in
theorem cRun_step (hE : eG E) (hC : eCl s S E) (hL1 : tLn T (o + 1) = L) (hL2 : tLn T (o + 2) = L) (ho : 281 ≤ o) {l4 : Nat} (hl : l4 ≤ L) (hL : L ≤ 300) {i j : Nat} (hi : i < l4) {st st' : List Int} (hlen : st.length ≤ i) (hb : bd6 st) {f : Nat → Int32} (hp : plS f st) (h : cst s (fun k => (rv S (o + 1) k, rv S (o + 2) k)) E (i, st) = some (j, st')) : ∃ f', plS f' st' ∧ ∀ n, lX1_run_T N T o (n + 1) (Int32.ofInt l4) (Int32.ofInt ((st.length : Int) - 1)) (Int32.ofInt i) (ySa S 132 f) = lX1_run_T N T o n (Int32.ofInt l4) (Int32.ofInt ((st'.length : Int) - 1)) (Int32.ofInt j) (ySa S 132 f') := by
  have R1 : ∀ f, (ySa S 132 f).2.2.1 132 = f := fun f => ySa_at S 132 f
  have R2 : ∀ f k, (ySa S 132 f).2.2.1 (o + 1) k = Int32.ofInt (rv S (o + 1) k) := fun f k => by rw [ySa_ne S f (show o + 1 ≠ 132 by omega)]; exact rv_eq S _ k
  have R3 : ∀ f k, (ySa S 132 f).2.2.1 (o + 2) k = Int32.ofInt (rv S (o + 2) k) := fun f k => by rw [ySa_ne S f (show o + 2 ≠ 132 by omega)]; exact rv_eq S _ k
  have o1 := rv_ge S (o + 1) i
  have o2 := rv_lt S (o + 1) i
  have a1 := rv_ge S (o + 2) i
  have a2 := rv_lt S (o + 2) i
  have hC' : ∀ f, eCl s (ySa S 132 f) E := fun f => hC
  have hcd : (fun k => (rv S (o + 1) k, rv S (o + 2) k)) i = (rv S (o + 1) i, rv S (o + 2) i) := rfl
  generalize (fun k => (rv S (o + 1) k, rv S (o + 2) k)) = cd at h hcd
  generalize hop : rv S (o + 1) i = op at hcd o1 o2
  generalize har : rv S (o + 2) i = ar at hcd a1 a2
  unfold cst at h
  dsimp only at h
  rw [hcd] at h
  dsimp only at h
  split at h
  · rename_i h16
    split at h
    · cases h
      refine ⟨f, hp, fun n => ?_⟩
      rw [lX1_run_T]
      simp only [hL1, hL2, R1, R2, R3, i_add]
      refine h_neg (by first | omega | ((simp (disch := omega) only [i0, i1, i_lt, i_le, i_eq, i_add, i_sub, i_mul, i_neg, i_ofNat, i_rem, i_div, w_in, w_in2, w_cnt, w_cnt2, z01, z01', il, li, lc_ge, lc_le, lc_gt, lc_lt, lc_eq, l_ofNat, l0, l_eq, l_lt, l_le]) <;> omega)) ?_
      refine h_ainN (by omega) (by omega) ?_
      refine h_ainN (by omega) (by omega) ?_
      rw [hop, har, h16]
      refine h_neg (by decide) (h_pst ?_)
      congr 1
      simp (disch := omega) only [i_lt]
      split
      · rw [Int.toNat_of_nonneg (by omega)]
      · congr 1; omega
    · cases h
  · rename_i h16
    split at h
    · rename_i h15
      split at h
      · cases h
      · rename_i v r
        have hb2 := (bd6_cons.mp hb).1
        simp only [List.length_cons] at hlen
        have e1 : ((r.length + 1 : Nat) : Int) - 1 = (r.length : Int) := by omega
        have e2 : (r.length : Int) + -1 = (r.length : Int) - 1 := by omega
        split at h
        · rename_i hv0
          split at h
          · cases h
            refine ⟨f, hp.2, fun n => ?_⟩
            rw [lX1_run_T]
            simp only [hL1, hL2, R1, R2, R3, i_add, List.length_cons, e1, e2]
            refine h_neg (by first | omega | ((simp (disch := omega) only [i0, i1, i_lt, i_le, i_eq, i_add, i_sub, i_mul, i_neg, i_ofNat, i_rem, i_div, w_in, w_in2, w_cnt, w_cnt2, z01, z01', il, li, lc_ge, lc_le, lc_gt, lc_lt, lc_eq, l_ofNat, l0, l_eq, l_lt, l_le]) <;> omega)) ?_
            refine h_ainN (by omega) (by omega) ?_
            refine h_ainN (by omega) (by omega) ?_
            rw [hop, har, h15]
            refine h_pos (by decide) (h_neg (by decide) ?_)
            refine h_neg (by first | omega | ((simp (disch := omega) only [i0, i1, i_lt, i_le, i_eq, i_add, i_sub, i_mul, i_neg, i_ofNat, i_rem, i_div, w_in, w_in2, w_cnt, w_cnt2, z01, z01', il, li, lc_ge, lc_le, lc_gt, lc_lt, lc_eq, l_ofNat, l0, l_eq, l_lt, l_le]) <;> omega)) ?_
            refine h_ainN (by omega) (by omega) ?_
            rw [hp.1, hv0]
            refine h_neg (by decide) (h_pst ?_)
            congr 1
            simp (disch := omega) only [i_lt]
            split
            · rw [Int.toNat_of_nonneg (by omega)]
            · congr 1; omega
          · cases h
        · rename_i hv0
          cases h
          refine ⟨f, hp.2, fun n => ?_⟩
          rw [lX1_run_T]
          simp only [hL1, hL2, R1, R2, R3, i_add, List.length_cons, e1, e2]
          refine h_neg (by first | omega | ((simp (disch := omega) only [i0, i1, i_lt, i_le, i_eq, i_add, i_sub, i_mul, i_neg, i_ofNat, i_rem, i_div, w_in, w_in2, w_cnt, w_cnt2, z01, z01', il, li, lc_ge, lc_le, lc_gt, lc_lt, lc_eq, l_ofNat, l0, l_eq, l_lt, l_le]) <;> omega)) ?_
          refine h_ainN (by omega) (by omega) ?_
          refine h_ainN (by omega) (by omega) ?_
          rw [hop, har, h15]
          refine h_pos (by decide) (h_neg (by decide) ?_)
          refine h_neg (by first | omega | ((simp (disch := omega) only [i0, i1, i_lt, i_le, i_eq, i_add, i_sub, i_mul, i_neg, i_ofNat, i_rem, i_div, w_in, w_in2, w_cnt, w_cnt2, z01, z01', il, li, lc_ge, lc_le, lc_gt, lc_lt, lc_eq, l_ofNat, l0, l_eq, l_lt, l_le]) <;> omega)) ?_
          refine h_ainN (by omega) (by omega) ?_
          rw [hp.1]
          refine h_pos (by first | omega | ((simp (disch := omega) only [i0, i1, i_lt, i_le, i_eq, i_add, i_sub, i_mul, i_neg, i_ofNat, i_rem, i_div, w_in, w_in2, w_cnt, w_cnt2, z01, z01', il, li, lc_ge, lc_le, lc_gt, lc_lt, lc_eq, l_ofNat, l0, l_eq, l_lt, l_le]) <;> omega)) ?_
          rfl
    · rename_i h15
      split at h
      · rename_i h1
        split at h
        · cases h
        · rename_i v r
          have hb2 := (bd6_cons.mp hb).1
          simp only [List.length_cons] at hlen
          have e1 : ((r.length + 1 : Nat) : Int) - 1 = (r.length : Int) := by omega
          cases h
          refine ⟨upd f r.length (Int32.ofInt (one1 op E v)), plS_put hp.2, fun n => ?_⟩
          rw [lX1_run_T]
          simp only [hL1, hL2, R1, R2, R3, i_add, List.length_cons, e1, hop, har]
          refine h_neg (by first | omega | ((simp (disch := omega) only [i0, i1, i_lt, i_le, i_eq, i_add, i_sub, i_mul, i_neg, i_ofNat, i_rem, i_div, w_in, w_in2, w_cnt, w_cnt2, z01, z01', il, li, lc_ge, lc_le, lc_gt, lc_lt, lc_eq, l_ofNat, l0, l_eq, l_lt, l_le]) <;> omega)) ?_
          refine h_ainN (by omega) (by omega) ?_
          refine h_ainN (by omega) (by omega) ?_
          simp only [hop, har]
          refine h_pos (by first | omega | ((simp (disch := omega) only [i0, i1, i_lt, i_le, i_eq, i_add, i_sub, i_mul, i_neg, i_ofNat, i_rem, i_div, w_in, w_in2, w_cnt, w_cnt2, z01, z01', il, li, lc_ge, lc_le, lc_gt, lc_lt, lc_eq, l_ofNat, l0, l_eq, l_lt, l_le]) <;> omega)) (h_pos (by first | omega | ((simp (disch := omega) only [i0, i1, i_lt, i_le, i_eq, i_add, i_sub, i_mul, i_neg, i_ofNat, i_rem, i_div, w_in, w_in2, w_cnt, w_cnt2, z01, z01', il, li, lc_ge, lc_le, lc_gt, lc_lt, lc_eq, l_ofNat, l0, l_eq, l_lt, l_le]) <;> omega)) ?_)
          rw [w_one o1 o2]
          refine h_neg (by first | omega | ((simp (disch := omega) only [i0, i1, i_lt, i_le, i_eq, i_add, i_sub, i_mul, i_neg, i_ofNat, i_rem, i_div, w_in, w_in2, w_cnt, w_cnt2, z01, z01', il, li, lc_ge, lc_le, lc_gt, lc_lt, lc_eq, l_ofNat, l0, l_eq, l_lt, l_le]) <;> omega)) (h_neg (by first | omega | ((simp (disch := omega) only [i0, i1, i_lt, i_le, i_eq, i_add, i_sub, i_mul, i_neg, i_ofNat, i_rem, i_div, w_in, w_in2, w_cnt, w_cnt2, z01, z01', il, li, lc_ge, lc_le, lc_gt, lc_lt, lc_eq, l_ofNat, l0, l_eq, l_lt, l_le]) <;> omega)) ?_)
          refine h_ainN (by omega) (by omega) ?_
          rw [hp.1]
          refine h_bind (eCl_one (hC' f) hE h1 hb2) ?_
          refine h_ainN (by omega) (by omega) (h_pst ?_)
          rw [ySa_ySa]
          rfl
      · rename_i h1
        split at h
        · rename_i h11
          split at h
          · cases h
          · rename_i v r
            have hb2 := (bd6_cons.mp hb).1
            simp only [List.length_cons] at hlen
            have e1 : ((r.length + 1 : Nat) : Int) - 1 = (r.length : Int) := by omega
            split at h
            · cases h
              refine ⟨upd f r.length (Int32.ofInt (1 - v)), plS_put hp.2, fun n => ?_⟩
              rw [lX1_run_T]
              simp only [hL1, hL2, R1, R2, R3, i_add, List.length_cons, e1, hop, har]
              refine h_neg (by first | omega | ((simp (disch := omega) only [i0, i1, i_lt, i_le, i_eq, i_add, i_sub, i_mul, i_neg, i_ofNat, i_rem, i_div, w_in, w_in2, w_cnt, w_cnt2, z01, z01', il, li, lc_ge, lc_le, lc_gt, lc_lt, lc_eq, l_ofNat, l0, l_eq, l_lt, l_le]) <;> omega)) ?_
              refine h_ainN (by omega) (by omega) ?_
              refine h_ainN (by omega) (by omega) ?_
              simp only [hop, har]
              refine h_pos (by first | omega | ((simp (disch := omega) only [i0, i1, i_lt, i_le, i_eq, i_add, i_sub, i_mul, i_neg, i_ofNat, i_rem, i_div, w_in, w_in2, w_cnt, w_cnt2, z01, z01', il, li, lc_ge, lc_le, lc_gt, lc_lt, lc_eq, l_ofNat, l0, l_eq, l_lt, l_le]) <;> omega)) (h_pos (by first | omega | ((simp (disch := omega) only [i0, i1, i_lt, i_le, i_eq, i_add, i_sub, i_mul, i_neg, i_ofNat, i_rem, i_div, w_in, w_in2, w_cnt, w_cnt2, z01, z01', il, li, lc_ge, lc_le, lc_gt, lc_lt, lc_eq, l_ofNat, l0, l_eq, l_lt, l_le]) <;> omega)) ?_)
              rw [w_one o1 o2]
              refine h_neg (by first | omega | ((simp (disch := omega) only [i0, i1, i_lt, i_le, i_eq, i_add, i_sub, i_mul, i_neg, i_ofNat, i_rem, i_div, w_in, w_in2, w_cnt, w_cnt2, z01, z01', il, li, lc_ge, lc_le, lc_gt, lc_lt, lc_eq, l_ofNat, l0, l_eq, l_lt, l_le]) <;> omega)) (h_neg (by first | omega | ((simp (disch := omega) only [i0, i1, i_lt, i_le, i_eq, i_add, i_sub, i_mul, i_neg, i_ofNat, i_rem, i_div, w_in, w_in2, w_cnt, w_cnt2, z01, z01', il, li, lc_ge, lc_le, lc_gt, lc_lt, lc_eq, l_ofNat, l0, l_eq, l_lt, l_le]) <;> omega)) ?_)
              refine h_ainN (by omega) (by omega) ?_
              rw [hp.1, h11]
              refine h_bind (v := Int32.ofInt (1 - v)) ?_ ?_
              · unfold fX1_ofOne
                refine h_neg (by decide) (h_neg (by decide) (h_pos rfl ?_))
                rw [i_sub]
              · refine h_ainN (by omega) (by omega) (h_pst ?_)
                rw [ySa_ySa]
                rfl
            · cases h
        · rename_i h11
          split at h
          · rename_i h2
            split at h
            · rename_i y x r
              simp only [List.length_cons] at hlen
              have e1 : ((r.length + 1 + 1 : Nat) : Int) - 1 = ((r.length + 1 : Nat) : Int) := by omega
              have e2 : ((r.length + 1 : Nat) : Int) - 1 = (r.length : Int) := by omega
              have e3 : ((r.length + 1 : Nat) : Int) + -1 = (r.length : Int) := by omega
              split at h
              · rename_i hxy
                cases h
                refine ⟨upd f r.length (Int32.ofInt (if op = 12 then min x y else max x y)), plS_put hp.2.2, fun n => ?_⟩
                rw [lX1_run_T]
                simp only [hL1, hL2, R1, R2, R3, i_add, i_sub, List.length_cons, e1, e2, e3, hop, har]
                refine h_neg (by first | omega | ((simp (disch := omega) only [i0, i1, i_lt, i_le, i_eq, i_add, i_sub, i_mul, i_neg, i_ofNat, i_rem, i_div, w_in, w_in2, w_cnt, w_cnt2, z01, z01', il, li, lc_ge, lc_le, lc_gt, lc_lt, lc_eq, l_ofNat, l0, l_eq, l_lt, l_le]) <;> omega)) ?_
                refine h_ainN (by omega) (by omega) ?_
                refine h_ainN (by omega) (by omega) ?_
                simp only [hop, har]
                refine h_pos (by first | omega | ((simp (disch := omega) only [i0, i1, i_lt, i_le, i_eq, i_add, i_sub, i_mul, i_neg, i_ofNat, i_rem, i_div, w_in, w_in2, w_cnt, w_cnt2, z01, z01', il, li, lc_ge, lc_le, lc_gt, lc_lt, lc_eq, l_ofNat, l0, l_eq, l_lt, l_le]) <;> omega)) (h_pos (by first | omega | ((simp (disch := omega) only [i0, i1, i_lt, i_le, i_eq, i_add, i_sub, i_mul, i_neg, i_ofNat, i_rem, i_div, w_in, w_in2, w_cnt, w_cnt2, z01, z01', il, li, lc_ge, lc_le, lc_gt, lc_lt, lc_eq, l_ofNat, l0, l_eq, l_lt, l_le]) <;> omega)) ?_)
                rw [w_one o1 o2, w_two o1 o2]
                refine h_pos (by first | omega | ((simp (disch := omega) only [i0, i1, i_lt, i_le, i_eq, i_add, i_sub, i_mul, i_neg, i_ofNat, i_rem, i_div, w_in, w_in2, w_cnt, w_cnt2, z01, z01', il, li, lc_ge, lc_le, lc_gt, lc_lt, lc_eq, l_ofNat, l0, l_eq, l_lt, l_le]) <;> omega)) (h_neg (by first | omega | ((simp (disch := omega) only [i0, i1, i_lt, i_le, i_eq, i_add, i_sub, i_mul, i_neg, i_ofNat, i_rem, i_div, w_in, w_in2, w_cnt, w_cnt2, z01, z01', il, li, lc_ge, lc_le, lc_gt, lc_lt, lc_eq, l_ofNat, l0, l_eq, l_lt, l_le]) <;> omega)) (h_neg (by first | omega | ((simp (disch := omega) only [i0, i1, i_lt, i_le, i_eq, i_add, i_sub, i_mul, i_neg, i_ofNat, i_rem, i_div, w_in, w_in2, w_cnt, w_cnt2, z01, z01', il, li, lc_ge, lc_le, lc_gt, lc_lt, lc_eq, l_ofNat, l0, l_eq, l_lt, l_le]) <;> omega)) ?_))
                refine h_ainN (by omega) (by omega) ?_
                refine h_ainN (by omega) (by omega) ?_
                have p1 := hp.1
                have p2 := hp.2.1
                simp only [List.length_cons] at p1
                rw [p1, p2]
                refine h_bind (i_two2 h2 hxy.2 hxy.1) ?_
                refine h_ainN (by omega) (by omega) (h_pst ?_)
                rw [ySa_ySa]
                rfl
              · cases h
            · cases h
          · rename_i h2
            split at h
            · rename_i h3
              split at h
              · rename_i y x r
                have hb2 := (bd6_cons.mp hb).1
                have hb3 := (bd6_cons.mp (bd6_cons.mp hb).2).1
                simp only [List.length_cons] at hlen
                have e1 : ((r.length + 1 + 1 : Nat) : Int) - 1 = ((r.length + 1 : Nat) : Int) := by omega
                have e2 : ((r.length + 1 : Nat) : Int) - 1 = (r.length : Int) := by omega
                have e3 : ((r.length + 1 : Nat) : Int) + -1 = (r.length : Int) := by omega
                cases h
                refine ⟨upd f r.length (Int32.ofInt (two1 op x y)), plS_put hp.2.2, fun n => ?_⟩
                rw [lX1_run_T]
                simp only [hL1, hL2, R1, R2, R3, i_add, i_sub, List.length_cons, e1, e2, e3, hop, har]
                refine h_neg (by first | omega | ((simp (disch := omega) only [i0, i1, i_lt, i_le, i_eq, i_add, i_sub, i_mul, i_neg, i_ofNat, i_rem, i_div, w_in, w_in2, w_cnt, w_cnt2, z01, z01', il, li, lc_ge, lc_le, lc_gt, lc_lt, lc_eq, l_ofNat, l0, l_eq, l_lt, l_le]) <;> omega)) ?_
                refine h_ainN (by omega) (by omega) ?_
                refine h_ainN (by omega) (by omega) ?_
                simp only [hop, har]
                refine h_pos (by first | omega | ((simp (disch := omega) only [i0, i1, i_lt, i_le, i_eq, i_add, i_sub, i_mul, i_neg, i_ofNat, i_rem, i_div, w_in, w_in2, w_cnt, w_cnt2, z01, z01', il, li, lc_ge, lc_le, lc_gt, lc_lt, lc_eq, l_ofNat, l0, l_eq, l_lt, l_le]) <;> omega)) (h_pos (by first | omega | ((simp (disch := omega) only [i0, i1, i_lt, i_le, i_eq, i_add, i_sub, i_mul, i_neg, i_ofNat, i_rem, i_div, w_in, w_in2, w_cnt, w_cnt2, z01, z01', il, li, lc_ge, lc_le, lc_gt, lc_lt, lc_eq, l_ofNat, l0, l_eq, l_lt, l_le]) <;> omega)) ?_)
                rw [w_one o1 o2, w_two o1 o2]
                refine h_pos (by first | omega | ((simp (disch := omega) only [i0, i1, i_lt, i_le, i_eq, i_add, i_sub, i_mul, i_neg, i_ofNat, i_rem, i_div, w_in, w_in2, w_cnt, w_cnt2, z01, z01', il, li, lc_ge, lc_le, lc_gt, lc_lt, lc_eq, l_ofNat, l0, l_eq, l_lt, l_le]) <;> omega)) (h_neg (by first | omega | ((simp (disch := omega) only [i0, i1, i_lt, i_le, i_eq, i_add, i_sub, i_mul, i_neg, i_ofNat, i_rem, i_div, w_in, w_in2, w_cnt, w_cnt2, z01, z01', il, li, lc_ge, lc_le, lc_gt, lc_lt, lc_eq, l_ofNat, l0, l_eq, l_lt, l_le]) <;> omega)) (h_neg (by first | omega | ((simp (disch := omega) only [i0, i1, i_lt, i_le, i_eq, i_add, i_sub, i_mul, i_neg, i_ofNat, i_rem, i_div, w_in, w_in2, w_cnt, w_cnt2, z01, z01', il, li, lc_ge, lc_le, lc_gt, lc_lt, lc_eq, l_ofNat, l0, l_eq, l_lt, l_le]) <;> omega)) ?_))
                refine h_ainN (by omega) (by omega) ?_
                refine h_ainN (by omega) (by omega) ?_
                have p1 := hp.1
                have p2 := hp.2.1
                simp only [List.length_cons] at p1
                rw [p1, p2]
                refine h_bind (i_two h3 hb3 hb2) ?_
                refine h_ainN (by omega) (by omega) (h_pst ?_)
                rw [ySa_ySa]
                rfl
              · cases h
            · rename_i h3
              have e0 : (st.length : Int) - 1 + 1 = (st.length : Int) := by omega
              have e4 : ((st.length + 1 : Nat) : Int) - 1 = (st.length : Int) := by omega
              split at h
              · rename_i h38
                split at h
                · cases h
                  refine ⟨upd f st.length (Int32.ofInt ar), plS_put hp, fun n => ?_⟩
                  rw [lX1_run_T]
                  simp only [hL1, hL2, R1, R2, R3, i_add, List.length_cons, e0, e4, hop, har]
                  refine h_neg (by first | omega | ((simp (disch := omega) only [i0, i1, i_lt, i_le, i_eq, i_add, i_sub, i_mul, i_neg, i_ofNat, i_rem, i_div, w_in, w_in2, w_cnt, w_cnt2, z01, z01', il, li, lc_ge, lc_le, lc_gt, lc_lt, lc_eq, l_ofNat, l0, l_eq, l_lt, l_le]) <;> omega)) ?_
                  refine h_ainN (by omega) (by omega) ?_
                  refine h_ainN (by omega) (by omega) ?_
                  simp only [hop, har]
                  refine h_pos (by first | omega | ((simp (disch := omega) only [i0, i1, i_lt, i_le, i_eq, i_add, i_sub, i_mul, i_neg, i_ofNat, i_rem, i_div, w_in, w_in2, w_cnt, w_cnt2, z01, z01', il, li, lc_ge, lc_le, lc_gt, lc_lt, lc_eq, l_ofNat, l0, l_eq, l_lt, l_le]) <;> omega)) (h_pos (by first | omega | ((simp (disch := omega) only [i0, i1, i_lt, i_le, i_eq, i_add, i_sub, i_mul, i_neg, i_ofNat, i_rem, i_div, w_in, w_in2, w_cnt, w_cnt2, z01, z01', il, li, lc_ge, lc_le, lc_gt, lc_lt, lc_eq, l_ofNat, l0, l_eq, l_lt, l_le]) <;> omega)) ?_)
                  rw [w_one o1 o2, w_two o1 o2]
                  refine h_pos (by first | omega | ((simp (disch := omega) only [i0, i1, i_lt, i_le, i_eq, i_add, i_sub, i_mul, i_neg, i_ofNat, i_rem, i_div, w_in, w_in2, w_cnt, w_cnt2, z01, z01', il, li, lc_ge, lc_le, lc_gt, lc_lt, lc_eq, l_ofNat, l0, l_eq, l_lt, l_le]) <;> omega)) (h_pos (by first | omega | ((simp (disch := omega) only [i0, i1, i_lt, i_le, i_eq, i_add, i_sub, i_mul, i_neg, i_ofNat, i_rem, i_div, w_in, w_in2, w_cnt, w_cnt2, z01, z01', il, li, lc_ge, lc_le, lc_gt, lc_lt, lc_eq, l_ofNat, l0, l_eq, l_lt, l_le]) <;> omega)) (h_neg (by first | omega | ((simp (disch := omega) only [i0, i1, i_lt, i_le, i_eq, i_add, i_sub, i_mul, i_neg, i_ofNat, i_rem, i_div, w_in, w_in2, w_cnt, w_cnt2, z01, z01', il, li, lc_ge, lc_le, lc_gt, lc_lt, lc_eq, l_ofNat, l0, l_eq, l_lt, l_le]) <;> omega)) (h_neg (by first | omega | ((simp (disch := omega) only [i0, i1, i_lt, i_le, i_eq, i_add, i_sub, i_mul, i_neg, i_ofNat, i_rem, i_div, w_in, w_in2, w_cnt, w_cnt2, z01, z01', il, li, lc_ge, lc_le, lc_gt, lc_lt, lc_eq, l_ofNat, l0, l_eq, l_lt, l_le]) <;> omega)) ?_)))
                  refine h_ainN (by omega) (by omega) (h_pst ?_)
                  rw [ySa_ySa]
                  rfl
                · cases h
              · rename_i h38
                split at h
                · rename_i hok
                  have hok2 := hok
                  unfold okN at hok2
                  have hok2 := of_decide_eq_true hok2
                  cases h
                  refine ⟨upd f st.length (Int32.ofInt (E op.toNat)), plS_put hp, fun n => ?_⟩
                  rw [lX1_run_T]
                  simp only [hL1, hL2, R1, R2, R3, i_add, List.length_cons, e0, e4, hop, har]
                  refine h_neg (by first | omega | ((simp (disch := omega) only [i0, i1, i_lt, i_le, i_eq, i_add, i_sub, i_mul, i_neg, i_ofNat, i_rem, i_div, w_in, w_in2, w_cnt, w_cnt2, z01, z01', il, li, lc_ge, lc_le, lc_gt, lc_lt, lc_eq, l_ofNat, l0, l_eq, l_lt, l_le]) <;> omega)) ?_
                  refine h_ainN (by omega) (by omega) ?_
                  refine h_ainN (by omega) (by omega) ?_
                  simp only [hop, har]
                  refine h_pos (by first | omega | ((simp (disch := omega) only [i0, i1, i_lt, i_le, i_eq, i_add, i_sub, i_mul, i_neg, i_ofNat, i_rem, i_div, w_in, w_in2, w_cnt, w_cnt2, z01, z01', il, li, lc_ge, lc_le, lc_gt, lc_lt, lc_eq, l_ofNat, l0, l_eq, l_lt, l_le]) <;> omega)) (h_pos (by first | omega | ((simp (disch := omega) only [i0, i1, i_lt, i_le, i_eq, i_add, i_sub, i_mul, i_neg, i_ofNat, i_rem, i_div, w_in, w_in2, w_cnt, w_cnt2, z01, z01', il, li, lc_ge, lc_le, lc_gt, lc_lt, lc_eq, l_ofNat, l0, l_eq, l_lt, l_le]) <;> omega)) ?_)
                  rw [w_one o1 o2, w_two o1 o2]
                  refine h_pos (by first | omega | ((simp (disch := omega) only [i0, i1, i_lt, i_le, i_eq, i_add, i_sub, i_mul, i_neg, i_ofNat, i_rem, i_div, w_in, w_in2, w_cnt, w_cnt2, z01, z01', il, li, lc_ge, lc_le, lc_gt, lc_lt, lc_eq, l_ofNat, l0, l_eq, l_lt, l_le]) <;> omega)) (h_pos (by first | omega | ((simp (disch := omega) only [i0, i1, i_lt, i_le, i_eq, i_add, i_sub, i_mul, i_neg, i_ofNat, i_rem, i_div, w_in, w_in2, w_cnt, w_cnt2, z01, z01', il, li, lc_ge, lc_le, lc_gt, lc_lt, lc_eq, l_ofNat, l0, l_eq, l_lt, l_le]) <;> omega)) (h_neg (by first | omega | ((simp (disch := omega) only [i0, i1, i_lt, i_le, i_eq, i_add, i_sub, i_mul, i_neg, i_ofNat, i_rem, i_div, w_in, w_in2, w_cnt, w_cnt2, z01, z01', il, li, lc_ge, lc_le, lc_gt, lc_lt, lc_eq, l_ofNat, l0, l_eq, l_lt, l_le]) <;> omega)) (h_pos (by first | omega | ((simp (disch := omega) only [i0, i1, i_lt, i_le, i_eq, i_add, i_sub, i_mul, i_neg, i_ofNat, i_rem, i_div, w_in, w_in2, w_cnt, w_cnt2, z01, z01', il, li, lc_ge, lc_le, lc_gt, lc_lt, lc_eq, l_ofNat, l0, l_eq, l_lt, l_le]) <;> omega)) ?_)))
                  refine h_bind (eCl_named (hC' f) hok) ?_
                  refine h_ainN (by omega) (by omega) (h_pst ?_)
                  rw [ySa_ySa]
                  rfl
                · cases h
end CRUN
