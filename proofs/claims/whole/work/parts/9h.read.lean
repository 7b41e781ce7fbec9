/-! ===== the class's reader: its small steps, and what it does behind a fault ===== -/
def tkC (S : yS) (K V : Nat → Int) (pl : Nat → Int) (M : Nat) : Prop := S.1 251 5 = Int32.ofInt ((M + 1 : Nat) : Int) ∧ ∀ j, j ≤ M → S.2.2.1 253 j = Int32.ofInt (K j) ∧ S.2.2.1 254 j = Int32.ofInt (pl j) ∧ S.2.2.1 255 j = Int32.ofInt (V j)
def tkG (K V : Nat → Int) (M : Nat) : Prop := M ≤ 300 ∧ K M = 40 ∧ (∀ j, j < M → K j ≠ 40) ∧ (∀ j, 0 ≤ K j ∧ K j ≤ 40) ∧ (∀ j, 0 ≤ V j ∧ V j ≤ 10000)
/-- what the reading of a law may change of the class -/
def Fr (S S' : yS) : Prop := (∀ i, i ≠ 250 → S'.1 i = S.1 i) ∧ (∀ j, j ≠ 1 → j ≠ 3 → j ≠ 4 → j ≠ 7 → S'.1 250 j = S.1 250 j) ∧ (∀ i, i ≠ 256 → i ≠ 257 → S'.2.2.1 i = S.2.2.1 i) ∧ S'.2.1 = S.2.1 ∧ S'.2.2.2 = S.2.2.2
theorem Fr_refl (S : yS) : Fr S S := ⟨fun _ _ => rfl, fun _ _ _ _ _ => rfl, fun _ _ _ => rfl, rfl, rfl⟩
theorem Fr_trans {S S1 S2 : yS} (h1 : Fr S S1) (h2 : Fr S1 S2) : Fr S S2 := ⟨fun i a => (h2.1 i a).trans (h1.1 i a), fun j a b c d => (h2.2.1 j a b c d).trans (h1.2.1 j a b c d), fun i a b => (h2.2.2.1 i a b).trans (h1.2.2.1 i a b), h2.2.2.2.1.trans h1.2.2.2.1, h2.2.2.2.2.trans h1.2.2.2.2⟩
theorem Fr_i {S : yS} {j : Nat} {v : Int32} (h : j = 1 ∨ j = 3 ∨ j = 4 ∨ j = 7) : Fr S (ySi S 250 j v) := ⟨fun i a => fld_o a, fun k a b c d => fld_ne (by omega), fun _ _ _ => rfl, rfl, rfl⟩
theorem Fr_a {S : yS} {a : Nat} {f : Nat → Int32} (h : a = 256 ∨ a = 257) : Fr S (ySa S a f) := ⟨fun _ _ => rfl, fun _ _ _ _ _ => rfl, fun i b c => ySa_ne _ _ (by omega), rfl, rfl⟩
theorem tkC_F {S S' : yS} {K V : Nat → Int} {pl : Nat → Int} {M : Nat} (h : tkC S K V pl M) (g : Fr S S') : tkC S' K V pl M := ⟨by rw [g.1 251 (by omega)]; exact h.1, fun j hj => by rw [g.2.2.1 253 (by omega) (by omega), g.2.2.1 254 (by omega) (by omega), g.2.2.1 255 (by omega) (by omega)]; exact h.2 j hj⟩
def cdX (S : yS) (j : Nat) : Int × Int := (rv S 256 j, rv S 257 j)
def cS (S : yS) (k z : Nat) : Prop := S.1 250 1 = Int32.ofInt (k : Int) ∧ (S.1 250 3 = Int32.ofInt 0 ∧ S.1 250 4 = Int32.ofInt (-1)) ∧ S.1 250 7 = Int32.ofInt (z : Int)
/-- the class behind a fault e at a place p -/
def cB (S : yS) (M : Nat) (e p : Int) : Prop := S.1 250 1 = Int32.ofInt (M : Int) ∧ S.1 250 3 = Int32.ofInt e ∧ S.1 250 4 = Int32.ofInt p ∧ ∃ z : Nat, z ≤ 300 ∧ S.1 250 7 = Int32.ofInt (z : Int)
section RDC
variable {S : yS} {K V : Nat → Int} {pl : Nat → Int} {M k z N : Nat} {e p : Int}
theorem c_kind (ht : tkC S K V pl M) (hg : tkG K V M) (h : S.1 250 1 = Int32.ofInt (k : Int)) (hk : k ≤ M) : fX5_kind S = some (Int32.ofInt (K k)) := by
  have := hg.1
  unfold fX5_kind
  rw [h, ht.1]
  refine h_neg (by first | omega | ((simp (disch := omega) only [i0, i1, i_lt, i_le, i_eq, i_add, i_sub, i_mul, i_neg, i_ofNat, i_rem, i_div, w_in, w_in2, w_cnt, w_cnt2, z01, z01', il, li, lc_ge, lc_le, lc_gt, lc_lt, lc_eq, l_ofNat, l0, l_eq, l_lt, l_le]) <;> omega)) (h_neg (by first | omega | ((simp (disch := omega) only [i0, i1, i_lt, i_le, i_eq, i_add, i_sub, i_mul, i_neg, i_ofNat, i_rem, i_div, w_in, w_in2, w_cnt, w_cnt2, z01, z01', il, li, lc_ge, lc_le, lc_gt, lc_lt, lc_eq, l_ofNat, l0, l_eq, l_lt, l_le]) <;> omega)) (h_ainN (by omega) (by omega) ?_))
  rw [(ht.2 k hk).1]
theorem c_fail (ht : tkC S K V pl M) (hg : tkG K V M) (h : cS S k z) (hk : k ≤ M) (hz : z ≤ 300) {e : Int} : ∃ S', fX5_fail (Int32.ofInt e) S = some S' ∧ cB S' M e (pl k) ∧ Fr S S' := by
  have := hg.1
  obtain ⟨h1, ⟨h3, h3'⟩, h7⟩ := h
  refine ⟨ySi (ySi (ySi S 250 3 (Int32.ofInt e)) 250 4 (Int32.ofInt (pl k))) 250 1 (Int32.ofInt (M : Int)), ?_, ⟨fld_at, ?_, ?_, z, hz, ?_⟩, Fr_trans (Fr_i (by omega)) (Fr_trans (Fr_i (by omega)) (Fr_i (by omega)))⟩
  · unfold fX5_fail
    rw [h1, h3, ht.1, i_sub, show ((M + 1 : Nat) : Int) - 1 = (M : Int) by omega]
    refine h_neg (fun q => q rfl) (h_neg (by first | omega | ((simp (disch := omega) only [i0, i1, i_lt, i_le, i_eq, i_add, i_sub, i_mul, i_neg, i_ofNat, i_rem, i_div, w_in, w_in2, w_cnt, w_cnt2, z01, z01', il, li, lc_ge, lc_le, lc_gt, lc_lt, lc_eq, l_ofNat, l0, l_eq, l_lt, l_le]) <;> omega)) (h_pst ?_))
    rw [fld_ne (show 1 ≠ 3 by omega), h1]
    refine h_ainN (by omega) (by omega) (h_pst (h_pst ?_))
    rw [ySi_2, (ht.2 k hk).2.1, fld_o (show 251 ≠ 250 by omega), fld_o (show 251 ≠ 250 by omega), ht.1, i_sub, show ((M + 1 : Nat) : Int) - 1 = (M : Int) by omega]
  · rw [fld_ne (by omega), fld_ne (by omega), fld_at]
  · rw [fld_ne (by omega), fld_at]
  · rw [fld_ne (by omega), fld_ne (by omega), fld_ne (by omega)]; exact h7
theorem b_fail (ht : tkC S K V pl M) (hg : tkG K V M) (h : cB S M e p) (he : 1 ≤ e ∧ e ≤ 6) {e2 : Int32} : ∃ S', fX5_fail e2 S = some S' ∧ cB S' M e p ∧ Fr S S' := by
  have := hg.1
  obtain ⟨h1, h3, h4, z, hz, h7⟩ := h
  refine ⟨ySi S 250 1 (Int32.ofInt (M : Int)), ?_, ⟨fld_at, by rw [fld_ne (by omega)]; exact h3, by rw [fld_ne (by omega)]; exact h4, z, hz, by rw [fld_ne (by omega)]; exact h7⟩, Fr_i (by omega)⟩
  unfold fX5_fail
  rw [h3, ht.1, i_sub, show ((M + 1 : Nat) : Int) - 1 = (M : Int) by omega]
  exact h_pos (by first | omega | ((simp (disch := omega) only [i0, i1, i_lt, i_le, i_eq, i_add, i_sub, i_mul, i_neg, i_ofNat, i_rem, i_div, w_in, w_in2, w_cnt, w_cnt2, z01, z01', il, li, lc_ge, lc_le, lc_gt, lc_lt, lc_eq, l_ofNat, l0, l_eq, l_lt, l_le]) <;> omega)) rfl
theorem b_kind (ht : tkC S K V pl M) (hg : tkG K V M) (h : cB S M e p) : fX5_kind S = some (Int32.ofInt 40) := by
  rw [c_kind ht hg h.1 (Nat.le_refl _), hg.2.1]
theorem b_expect (ht : tkC S K V pl M) (hg : tkG K V M) (h : cB S M e p) (he : 1 ≤ e ∧ e ≤ 6) {w : Int} (hw : 0 ≤ w ∧ w ≤ 39) : ∃ S', fX5_expect (Int32.ofInt w) S = some S' ∧ cB S' M e p ∧ Fr S S' := by
  obtain ⟨S', a, b, c⟩ := b_fail ht hg h he (e2 := Int32.ofInt 1)
  refine ⟨S', ?_, b, c⟩
  unfold fX5_expect
  exact h_bind (b_kind ht hg h) (h_pos (by first | omega | ((simp (disch := omega) only [i0, i1, i_lt, i_le, i_eq, i_add, i_sub, i_mul, i_neg, i_ofNat, i_rem, i_div, w_in, w_in2, w_cnt, w_cnt2, z01, z01', il, li, lc_ge, lc_le, lc_gt, lc_lt, lc_eq, l_ofNat, l0, l_eq, l_lt, l_le]) <;> omega)) (h_bind a rfl))
theorem b_emit (h : cB S M e p) {a b : Int32} : ∃ S', fX5_emit a b S = some S' ∧ cB S' M e p ∧ Fr S S' := by
  obtain ⟨h1, h3, h4, z, hz, h7⟩ := id h
  unfold fX5_emit
  rw [h7]
  by_cases q : z = 300
  · exact ⟨S, h_pos (by first | omega | ((simp (disch := omega) only [i0, i1, i_lt, i_le, i_eq, i_add, i_sub, i_mul, i_neg, i_ofNat, i_rem, i_div, w_in, w_in2, w_cnt, w_cnt2, z01, z01', il, li, lc_ge, lc_le, lc_gt, lc_lt, lc_eq, l_ofNat, l0, l_eq, l_lt, l_le]) <;> omega)) rfl, h, Fr_refl S⟩
  · refine ⟨ySi (ySa (ySa S 256 (upd (S.2.2.1 256) z a)) 257 (upd (S.2.2.1 257) z b)) 250 7 (Int32.ofInt ((z + 1 : Nat) : Int)), h_neg (by first | omega | ((simp (disch := omega) only [i0, i1, i_lt, i_le, i_eq, i_add, i_sub, i_mul, i_neg, i_ofNat, i_rem, i_div, w_in, w_in2, w_cnt, w_cnt2, z01, z01', il, li, lc_ge, lc_le, lc_gt, lc_lt, lc_eq, l_ofNat, l0, l_eq, l_lt, l_le]) <;> omega)) (h_ainN (by omega) (by omega) (h_pst ?_)), ⟨by rw [fld_ne (by omega)]; exact h1, by rw [fld_ne (by omega)]; exact h3, by rw [fld_ne (by omega)]; exact h4, z + 1, by omega, fld_at⟩, Fr_trans (Fr_a (by omega)) (Fr_trans (Fr_a (by omega)) (Fr_i (by omega)))⟩
    rw [ySa_1, h7]
    refine h_ainN (by omega) (by omega) (h_pst (h_pst ?_))
    rw [ySa_1, ySa_1, h7, i_add, show (z : Int) + 1 = ((z + 1 : Nat) : Int) by omega, ySa_ne _ _ (by omega)]
theorem b_aim (h : cB S M e p) {v : Int} (hv : -2147483648 ≤ v ∧ v < 2147483648) : ∃ S', fX5_aim (Int32.ofInt v) S = some S' ∧ cB S' M e p ∧ Fr S S' := by
  unfold fX5_aim
  by_cases q : 0 ≤ v ∧ v ≤ 299
  · exact ⟨ySa S 257 (upd (S.2.2.1 257) v.toNat (S.1 250 7)), h_neg (by first | omega | ((simp (disch := omega) only [i0, i1, i_lt, i_le, i_eq, i_add, i_sub, i_mul, i_neg, i_ofNat, i_rem, i_div, w_in, w_in2, w_cnt, w_cnt2, z01, z01', il, li, lc_ge, lc_le, lc_gt, lc_lt, lc_eq, l_ofNat, l0, l_eq, l_lt, l_le]) <;> omega)) (h_ain (by omega) (by omega) (by omega) rfl), h, Fr_a (by omega)⟩
  · exact ⟨S, h_pos (by first | omega | ((simp (disch := omega) only [i0, i1, i_lt, i_le, i_eq, i_add, i_sub, i_mul, i_neg, i_ofNat, i_rem, i_div, w_in, w_in2, w_cnt, w_cnt2, z01, z01', il, li, lc_ge, lc_le, lc_gt, lc_lt, lc_eq, l_ofNat, l0, l_eq, l_lt, l_le]) <;> omega)) rfl, h, Fr_refl S⟩
def nbR (m : Nat) : Nat := [3, 2, 1, 9, 8, 7, 6, 5, 4].getD m 0
/-- behind a fault every reader ends with that fault -/
theorem rd_bad (hN : 2000000 ≤ N) (hg : tkG K V M) (he : 1 ≤ e ∧ e ≤ 6) : ∀ (n m : Nat) (a : Int) (b : Int32) (S : yS), 1 ≤ nbR m → nbR m ≤ n → 0 ≤ a ∧ a ≤ 40 → tkC S K V pl M → cB S M e p → ∃ S', rd N n m (Int32.ofInt a) b S = some S' ∧ cB S' M e p ∧ Fr S S' := by
  intro n
  induction n with
  | zero => intro m a b S h1 h2; omega
  | succ n ih =>
    intro m a b S h1 h2 ha ht h
    obtain ⟨N', hN'⟩ : ∃ q, N = q + 1 := ⟨N - 1, by omega⟩
    have hm : m < 9 := by
      by_cases q : m < 9
      · exact q
      · exfalso
        unfold nbR at h1
        rw [List.getD_eq_getElem?_getD, List.getElem?_eq_none (by show 9 ≤ m; omega)] at h1
        exact absurd h1 (by decide)
    have i0' := ih 0
    have call : ∀ (q : Nat) (S : yS) (b : Int32), 1 ≤ nbR q → nbR q ≤ n → tkC S K V pl M → cB S M e p → ∃ S', rd N n q (Int32.ofInt 0) b S = some S' ∧ cB S' M e p ∧ Fr S S' := fun q S b q1 q2 t c => ih q 0 b S q1 q2 (by omega) t c
    have c0 : (0 : Int32) = Int32.ofInt 0 := rfl
    have hc : m = 0 ∨ m = 1 ∨ m = 2 ∨ m = 3 ∨ m = 4 ∨ m = 5 ∨ m = 6 ∨ m = 7 ∨ m = 8 := by omega
    unfold rd
    rcases hc with rfl | rfl | rfl | rfl | rfl | rfl | rfl | rfl | rfl
    · have h2 : 3 ≤ n + 1 := h2
      obtain ⟨S1, a1, a2, a3⟩ := call 1 S b (by decide) (by show 2 ≤ n; omega) ht h
      refine ⟨S1, h_pos rfl ?_, a2, a3⟩
      unfold fX5_readSum
      refine h_bind a1 ?_
      have k := b_kind (tkC_F ht a3) hg a2
      rw [show lX5_readSum N (rd N n) N b (Int32.ofInt 0) S1 = lX5_readSum N (rd N n) (N' + 1) b (Int32.ofInt 0) S1 by rw [← hN'], lX5_readSum]
      exact h_neg (by decide) (h_bind k (h_neg (by decide) (h_bind k (h_pos (by decide) rfl))))
    · have h2 : 2 ≤ n + 1 := h2
      obtain ⟨S1, a1, a2, a3⟩ := call 2 S b (by decide) (by show 1 ≤ n; omega) ht h
      refine ⟨S1, h_neg (by decide) (h_pos rfl ?_), a2, a3⟩
      unfold fX5_readProduct
      refine h_bind a1 ?_
      have k := b_kind (tkC_F ht a3) hg a2
      rw [show lX5_readProduct N (rd N n) N b (Int32.ofInt 0) S1 = lX5_readProduct N (rd N n) (N' + 1) b (Int32.ofInt 0) S1 by rw [← hN'], lX5_readProduct]
      exact h_neg (by decide) (h_bind k (h_neg (by decide) (h_bind k (h_pos (by decide) rfl))))
    · obtain ⟨S1, a1, a2, a3⟩ := b_fail ht hg h he (e2 := Int32.ofInt 1)
      refine ⟨S1, h_neg (by decide) (h_neg (by decide) (h_pos rfl ?_)), a2, a3⟩
      unfold fX5_readOne
      exact h_bind (b_kind ht hg h) (h_pos (by decide) (h_pos (by decide) (h_neg (by decide) (h_bind a1 rfl))))
    · have h2 : 9 ≤ n + 1 := h2
      have pre : ∀ {Y : Option yS}, fX5_readOpened N (rd N n) (Int32.ofInt a) b S = Y → (if 3 = 0 then fX5_readSum N (rd N n) b S else if 3 = 1 then fX5_readProduct N (rd N n) b S else if 3 = 2 then fX5_readOne N (rd N n) b S else if 3 = 3 then fX5_readOpened N (rd N n) (Int32.ofInt a) b S else if 3 = 4 then fX5_readChoice N (rd N n) b S else if 3 = 5 then fX5_readEither N (rd N n) b S else if 3 = 6 then fX5_readBoth N (rd N n) b S else if 3 = 7 then fX5_readAsk N (rd N n) b S else if 3 = 8 then fX5_readCompared N (rd N n) b S else none) = Y := fun {Y} hY => h_neg (by decide) (h_neg (by decide) (h_neg (by decide) (h_pos rfl hY)))
      by_cases a33 : a = 33
      · obtain ⟨S1, a1, a2, a3⟩ := call 0 S b (by decide) (by show 3 ≤ n; omega) ht h
        obtain ⟨S2, b1, b2, b3⟩ := b_expect (tkC_F ht a3) hg a2 he (w := 34) (by omega)
        refine ⟨S2, pre ?_, b2, Fr_trans a3 b3⟩
        unfold fX5_readOpened
        exact h_neg (by first | omega | ((simp (disch := omega) only [i0, i1, i_lt, i_le, i_eq, i_add, i_sub, i_mul, i_neg, i_ofNat, i_rem, i_div, w_in, w_in2, w_cnt, w_cnt2, z01, z01', il, li, lc_ge, lc_le, lc_gt, lc_lt, lc_eq, l_ofNat, l0, l_eq, l_lt, l_le]) <;> omega)) (h_bind a1 (h_bind b1 rfl))
      · by_cases a14 : a = 14
        · obtain ⟨S1, a1, a2, a3⟩ := call 4 S b (by decide) (by show 8 ≤ n; omega) ht h
          refine ⟨S1, pre ?_, a2, a3⟩
          unfold fX5_readOpened
          exact h_pos (by first | omega | ((simp (disch := omega) only [i0, i1, i_lt, i_le, i_eq, i_add, i_sub, i_mul, i_neg, i_ofNat, i_rem, i_div, w_in, w_in2, w_cnt, w_cnt2, z01, z01', il, li, lc_ge, lc_le, lc_gt, lc_lt, lc_eq, l_ofNat, l0, l_eq, l_lt, l_le]) <;> omega)) (h_neg (by first | omega | ((simp (disch := omega) only [i0, i1, i_lt, i_le, i_eq, i_add, i_sub, i_mul, i_neg, i_ofNat, i_rem, i_div, w_in, w_in2, w_cnt, w_cnt2, z01, z01', il, li, lc_ge, lc_le, lc_gt, lc_lt, lc_eq, l_ofNat, l0, l_eq, l_lt, l_le]) <;> omega)) (h_bind a1 rfl))
        · obtain ⟨S1, a1, a2, a3⟩ := call 2 S b (by decide) (by show 1 ≤ n; omega) ht h
          by_cases a30 : a = 30
          · obtain ⟨S2, b1, b2, b3⟩ := b_emit a2 (a := Int32.ofInt 41) (b := Int32.ofInt 0)
            refine ⟨S2, pre ?_, b2, Fr_trans a3 b3⟩
            unfold fX5_readOpened
            exact h_pos (by first | omega | ((simp (disch := omega) only [i0, i1, i_lt, i_le, i_eq, i_add, i_sub, i_mul, i_neg, i_ofNat, i_rem, i_div, w_in, w_in2, w_cnt, w_cnt2, z01, z01', il, li, lc_ge, lc_le, lc_gt, lc_lt, lc_eq, l_ofNat, l0, l_eq, l_lt, l_le]) <;> omega)) (h_pos (by first | omega | ((simp (disch := omega) only [i0, i1, i_lt, i_le, i_eq, i_add, i_sub, i_mul, i_neg, i_ofNat, i_rem, i_div, w_in, w_in2, w_cnt, w_cnt2, z01, z01', il, li, lc_ge, lc_le, lc_gt, lc_lt, lc_eq, l_ofNat, l0, l_eq, l_lt, l_le]) <;> omega)) (h_bind a1 (h_neg (by first | omega | ((simp (disch := omega) only [i0, i1, i_lt, i_le, i_eq, i_add, i_sub, i_mul, i_neg, i_ofNat, i_rem, i_div, w_in, w_in2, w_cnt, w_cnt2, z01, z01', il, li, lc_ge, lc_le, lc_gt, lc_lt, lc_eq, l_ofNat, l0, l_eq, l_lt, l_le]) <;> omega)) (h_bind b1 rfl))))
          · obtain ⟨S2, b1, b2, b3⟩ := b_emit a2 (a := Int32.ofInt a) (b := Int32.ofInt 0)
            refine ⟨S2, pre ?_, b2, Fr_trans a3 b3⟩
            unfold fX5_readOpened
            exact h_pos (by first | omega | ((simp (disch := omega) only [i0, i1, i_lt, i_le, i_eq, i_add, i_sub, i_mul, i_neg, i_ofNat, i_rem, i_div, w_in, w_in2, w_cnt, w_cnt2, z01, z01', il, li, lc_ge, lc_le, lc_gt, lc_lt, lc_eq, l_ofNat, l0, l_eq, l_lt, l_le]) <;> omega)) (h_pos (by first | omega | ((simp (disch := omega) only [i0, i1, i_lt, i_le, i_eq, i_add, i_sub, i_mul, i_neg, i_ofNat, i_rem, i_div, w_in, w_in2, w_cnt, w_cnt2, z01, z01', il, li, lc_ge, lc_le, lc_gt, lc_lt, lc_eq, l_ofNat, l0, l_eq, l_lt, l_le]) <;> omega)) (h_bind a1 (h_pos (by first | omega | ((simp (disch := omega) only [i0, i1, i_lt, i_le, i_eq, i_add, i_sub, i_mul, i_neg, i_ofNat, i_rem, i_div, w_in, w_in2, w_cnt, w_cnt2, z01, z01', il, li, lc_ge, lc_le, lc_gt, lc_lt, lc_eq, l_ofNat, l0, l_eq, l_lt, l_le]) <;> omega)) (h_bind b1 rfl))))
    · have h2 : 8 ≤ n + 1 := h2
      obtain ⟨S1, a1, a2, a3⟩ := call 5 S b (by decide) (by show 7 ≤ n; omega) ht h
      have t1 := tkC_F ht a3
      obtain ⟨S2, b1, b2, b3⟩ := b_expect t1 hg a2 he (w := 15) (by omega)
      have t2 := tkC_F t1 b3
      obtain ⟨S3, c1, c2, c3⟩ := b_emit b2 (a := Int32.ofInt 15) (b := Int32.ofInt 0)
      have t3 := tkC_F t2 c3
      obtain ⟨S4, d1, d2, d3⟩ := call 0 S3 b (by decide) (by show 3 ≤ n; omega) t3 c2
      have t4 := tkC_F t3 d3
      obtain ⟨S5, e1, e2, e3⟩ := b_expect t4 hg d2 he (w := 16) (by omega)
      have t5 := tkC_F t4 e3
      obtain ⟨S6, f1, f2, f3⟩ := b_emit e2 (a := Int32.ofInt 16) (b := Int32.ofInt 0)
      have t6 := tkC_F t5 f3
      obtain ⟨z2, z2h, z2e⟩ := b2.2.2.2
      obtain ⟨S7, g1, g2, g3⟩ := b_aim f2 (v := (z2 : Int)) (by omega)
      have t7 := tkC_F t6 g3
      obtain ⟨S8, h1', h2', h3'⟩ := call 0 S7 b (by decide) (by show 3 ≤ n; omega) t7 g2
      have t8 := tkC_F t7 h3'
      obtain ⟨S9, i1, i2, i3⟩ := b_expect t8 hg h2' he (w := 17) (by omega)
      obtain ⟨z5, z5h, z5e⟩ := e2.2.2.2
      obtain ⟨S10, j1, j2, j3⟩ := b_aim i2 (v := (z5 : Int)) (by omega)
      refine ⟨S10, h_neg (by decide) (h_neg (by decide) (h_neg (by decide) (h_neg (by decide) (h_pos rfl ?_)))), j2, Fr_trans a3 (Fr_trans b3 (Fr_trans c3 (Fr_trans d3 (Fr_trans e3 (Fr_trans f3 (Fr_trans g3 (Fr_trans h3' (Fr_trans i3 j3))))))))⟩
      unfold fX5_readChoice
      refine h_bind a1 (h_bind b1 (h_bind c1 (h_bind d1 (h_bind e1 (h_bind f1 ?_)))))
      rw [z2e, z5e]
      exact h_bind g1 (h_bind h1' (h_bind i1 (h_bind j1 rfl)))
    · have h2 : 7 ≤ n + 1 := h2
      obtain ⟨S1, a1, a2, a3⟩ := call 6 S b (by decide) (by show 6 ≤ n; omega) ht h
      refine ⟨S1, h_neg (by decide) (h_neg (by decide) (h_neg (by decide) (h_neg (by decide) (h_neg (by decide) (h_pos rfl ?_))))), a2, a3⟩
      unfold fX5_readEither
      refine h_bind a1 ?_
      have k := b_kind (tkC_F ht a3) hg a2
      rw [show lX5_readEither N (rd N n) N b (Int32.ofInt 0) S1 = lX5_readEither N (rd N n) (N' + 1) b (Int32.ofInt 0) S1 by rw [← hN'], lX5_readEither]
      exact h_neg (by decide) (h_bind k (h_pos (by decide) rfl))
    · have h2 : 6 ≤ n + 1 := h2
      obtain ⟨S1, a1, a2, a3⟩ := call 7 S b (by decide) (by show 5 ≤ n; omega) ht h
      refine ⟨S1, h_neg (by decide) (h_neg (by decide) (h_neg (by decide) (h_neg (by decide) (h_neg (by decide) (h_neg (by decide) (h_pos rfl ?_)))))), a2, a3⟩
      unfold fX5_readBoth
      refine h_bind a1 ?_
      have k := b_kind (tkC_F ht a3) hg a2
      rw [show lX5_readBoth N (rd N n) N b (Int32.ofInt 0) S1 = lX5_readBoth N (rd N n) (N' + 1) b (Int32.ofInt 0) S1 by rw [← hN'], lX5_readBoth]
      exact h_neg (by decide) (h_bind k (h_pos (by decide) rfl))
    · have h2 : 5 ≤ n + 1 := h2
      obtain ⟨S1, a1, a2, a3⟩ := call 8 S b (by decide) (by show 4 ≤ n; omega) ht h
      refine ⟨S1, h_neg (by decide) (h_neg (by decide) (h_neg (by decide) (h_neg (by decide) (h_neg (by decide) (h_neg (by decide) (h_neg (by decide) (h_pos rfl ?_))))))), a2, a3⟩
      unfold fX5_readAsk
      exact h_bind (b_kind ht hg h) (h_neg (by decide) (h_bind a1 rfl))
    · have h2 : 4 ≤ n + 1 := h2
      obtain ⟨S1, a1, a2, a3⟩ := call 0 S b (by decide) (by show 3 ≤ n; omega) ht h
      obtain ⟨S2, b1, b2, b3⟩ := b_fail (tkC_F ht a3) hg a2 he (e2 := Int32.ofInt 1)
      refine ⟨S2, h_neg (by decide) (h_neg (by decide) (h_neg (by decide) (h_neg (by decide) (h_neg (by decide) (h_neg (by decide) (h_neg (by decide) (h_neg (by decide) (h_pos rfl ?_)))))))), b2, Fr_trans a3 b3⟩
      unfold fX5_readCompared
      exact h_bind a1 (h_bind (b_kind (tkC_F ht a3) hg a2) (h_neg (by decide) (h_pos (by decide) (h_bind b1 rfl))))
end RDC
