/-! ===== a clause, all clauses ===== -/
section CLB
variable {f : Nat → Int} {n t N M : Nat} {S S' : yS} {k k' z z' m m' r : Nat} {q : qT} {la lb : lD} {c : Nat → Int × Int} {mq : Int}
theorem srt_c {kd : Int} (h : 0 ≤ srt kd) : kd = 18 ∨ kd = 19 ∨ kd = 20 ∨ kd = 9 ∨ kd = 21 ∨ kd = 22 ∨ kd = 23 ∨ kd = 0 := by
  unfold srt at h
  repeat' split at h
  all_goals omega
theorem body_all (hN : 2000000 ≤ N) (ht4 : t < 4) (hn : n ≤ 300) (hM : M ≤ n) (hMe : psT f n M = n) (hg : tkG (kdT f n) (vlT f n) M) (hm : m < 24) (hk : k ≤ M) (hz : z ≤ k) (hr : r ≤ k) {kd : Int} (h0 : 0 ≤ srt kd) (hl0 : srt kd = 0 → la = none) (hl1 : srt kd = 1 → lb = none) (hC : jC f n M S k z m m q la lb) (hv : S.2.2.1 258 m = Int32.ofInt kd) : ∃ cb, (∀ X, ccB N (Int32.ofInt kd) X = ccT cb X) ∧ bRs f n t N M cb (srt kd) S k z m q la lb r c mq := by
  have w_odds' := w_odds
  have w_by' := w_by
  rcases srt_c h0 with rfl | rfl | rfl | rfl | rfl | rfl | rfl | rfl
  · exact ⟨fX5_readLaw N (Int32.ofInt 18), fun X => h_pos rfl rfl, lw_step (s := 0) hN ht4 (by omega) hn hM hMe hg hm hk hz hr (fun _ => hl0 rfl) (fun e => absurd e (by decide)) hC hv⟩
  · exact ⟨fX5_readLaw N (Int32.ofInt 19), fun X => h_neg (by decide) (h_neg (by decide) rfl), lw_step (s := 1) hN ht4 (by omega) hn hM hMe hg hm hk hz hr (fun e => absurd e (by decide)) (fun _ => hl1 rfl) hC hv⟩
  · refine ⟨fX5_readNumbers (Int32.ofInt 20), fun X => h_neg (by decide) (h_pos (by decide) rfl), ?_⟩
    have e : fX5_readNumbers (Int32.ofInt 20) = prC 1 12 ((5 : Nat) : Int) 10 := by
      funext X
      unfold fX5_readNumbers
      exact h_neg (by decide) (h_neg (by decide) (h_pos rfl rfl))
    rw [e]
    refine pr_step (w := 5) (sr := 2) hN ht4 hg hm hk hz hr (by omega) (by omega) (by omega) (by omega) (by omega) (fun x X => ?_) hC hv
    unfold fX12_body
    rw [w_odds']
    exact h_pos rfl rfl
  · refine ⟨fX5_readNumbers (Int32.ofInt 9), fun X => h_neg (by decide) (h_pos (by decide) rfl), ?_⟩
    have e : fX5_readNumbers (Int32.ofInt 9) = prC 0 8 ((24 : Nat) : Int) 9 := by
      funext X
      unfold fX5_readNumbers
      exact h_neg (by decide) (h_pos rfl rfl)
    rw [e]
    refine pr_step (w := 24) (sr := 3) hN ht4 hg hm hk hz hr (by omega) (by omega) (by omega) (by omega) (by omega) (fun x X => ?_) hC hv
    unfold fX12_body
    rw [w_by']
    exact h_neg (by decide) (h_pos rfl rfl)
  · refine ⟨fX5_readNumbers (Int32.ofInt 21), fun X => h_neg (by decide) (h_pos (by decide) rfl), ?_⟩
    have e : fX5_readNumbers (Int32.ofInt 21) = sgC 0 7 := by
      funext X
      unfold fX5_readNumbers
      exact h_neg (by decide) (h_neg (by decide) (h_neg (by decide) (h_neg (by decide) rfl)))
    rw [e]
    refine sg_step (sr := 4) hN ht4 hg hm hk hz hr (by omega) (by omega) (by omega) (fun e => absurd e (by decide)) (fun x X => ?_) hC hv
    unfold fX12_body
    exact h_neg (by decide) (h_neg (by decide) (h_pos rfl rfl))
  · refine ⟨fX5_readNumbers (Int32.ofInt 22), fun X => h_neg (by decide) (h_pos (by decide) rfl), ?_⟩
    have e : fX5_readNumbers (Int32.ofInt 22) = sgC 0 7 := by
      funext X
      unfold fX5_readNumbers
      exact h_neg (by decide) (h_neg (by decide) (h_neg (by decide) (h_neg (by decide) rfl)))
    rw [e]
    refine sg_step (sr := 5) hN ht4 hg hm hk hz hr (by omega) (by omega) (by omega) (fun e => absurd e (by decide)) (fun x X => ?_) hC hv
    unfold fX12_body
    exact h_neg (by decide) (h_neg (by decide) (h_neg (by decide) (h_pos rfl rfl)))
  · refine ⟨fX5_readNumbers (Int32.ofInt 23), fun X => h_neg (by decide) (h_pos (by decide) rfl), ?_⟩
    have e : fX5_readNumbers (Int32.ofInt 23) = sgC 1 999 := by
      funext X
      unfold fX5_readNumbers
      exact h_neg (by decide) (h_neg (by decide) (h_neg (by decide) (h_pos rfl rfl)))
    rw [e]
    refine sg_step (sr := 6) hN ht4 hg hm hk hz hr (by omega) (by omega) (by omega) (fun e => absurd e (by decide)) (fun x X => ?_) hC hv
    unfold fX12_body
    exact h_neg (by decide) (h_neg (by decide) (h_neg (by decide) (h_neg (by decide) (h_pos rfl rfl))))
  · refine ⟨fX5_readNumbers (Int32.ofInt 0), fun X => h_neg (by decide) (h_pos (by decide) rfl), ?_⟩
    have e : fX5_readNumbers (Int32.ofInt 0) = sgC 1 60 := by
      funext X
      unfold fX5_readNumbers
      exact h_pos rfl rfl
    rw [e]
    refine sg_step (sr := 7) hN ht4 hg hm hk hz hr (by omega) (by omega) (by omega) (fun _ => by omega) (fun x X => ?_) hC hv
    unfold fX12_body
    exact h_neg (by decide) (h_neg (by decide) (h_neg (by decide) (h_neg (by decide) (h_neg (by decide) (h_pos rfl rfl)))))
theorem jC_15 (h : jC f n M S k z m m' q la lb) {m2 : Nat} : jC f n M (ySi S 250 15 (Int32.ofInt (m2 : Int))) k z m2 m' q la lb := by
  obtain ⟨a1, a2, a3, a4, a5, a6⟩ := h
  exact ⟨tkC_c a1 Fx_i, ⟨by rw [fld_ne (by omega)]; exact a2.1, ⟨by rw [fld_ne (by omega)]; exact a2.2.1.1, by rw [fld_ne (by omega)]; exact a2.2.1.2⟩, by rw [fld_ne (by omega)]; exact a2.2.2⟩, fld_at, a4, lwX_m a5 (fld_ne (by omega)) (fld_ne (by omega)) (fun _ _ => rfl) (Nat.le_refl _), lwX_m a6 (fld_ne (by omega)) (fld_ne (by omega)) (fun _ _ => rfl) (Nat.le_refl _)⟩
theorem jR_ct (h : jR f n t S k m m' q r c mq) {m2 : Nat} : jR f n t (ySa S 268 (upd (S.2.2.1 268) (681 * t) (Int32.ofInt (m2 : Int)))) k m2 m' q r c mq := by
  obtain ⟨a1, a2, a3, a4, a5, a6, a7, a8⟩ := h
  refine ⟨⟨a1.1, a1.2.1, fun j hj => by rw [ySa_ne _ _ (by omega)]; exact a1.2.2.1 j hj, a1.2.2.2⟩, atT_s a2 rfl rfl rfl rfl rfl, a3, a4, a5, ?_, fun j hj => ?_, fun j hj => ?_⟩
  · rw [ySa_at, upd_at]
  · rw [ySa_at, upd_ne (by omega), upd_ne (by omega), upd_ne (by omega)]; exact a7 j hj
  · rw [← a8 j hj]; unfold cdR rv; rw [ySa_at, upd_ne (by omega), upd_ne (by omega)]
theorem jR_i (h : jR f n t S k m m' q r c mq) {v : Int32} : jR f n t (ySi S 265 14 v) k m m' q r c mq := by
  obtain ⟨a1, a2, a3, a4, a5, a6, a7, a8⟩ := h
  exact ⟨⟨a1.1, by rw [fld_ne (by omega)]; exact a1.2.1, a1.2.2.1, a1.2.2.2⟩, atT_s a2 (fld_ne (by omega)) (fld_ne (by omega)) (fld_ne (by omega)) (fld_ne (by omega)) rfl, by rw [fld_ne (by omega)]; exact a3, by rw [fld_ne (by omega)]; exact a4, by rw [fld_ne (by omega)]; exact a5, a6, a7, a8⟩
theorem jR_19 (h : jR f n t S k m m' q r c mq) {m2 : Int} : jR f n t (ySi S 265 19 (Int32.ofInt m2)) k m m' q r c m2 := by
  obtain ⟨a1, a2, a3, a4, a5, a6, a7, a8⟩ := h
  exact ⟨⟨a1.1, by rw [fld_ne (by omega)]; exact a1.2.1, a1.2.2.1, a1.2.2.2⟩, atT_s a2 (fld_ne (by omega)) (fld_ne (by omega)) (fld_ne (by omega)) (fld_ne (by omega)) rfl, by rw [fld_ne (by omega)]; exact a3, by rw [fld_ne (by omega)]; exact a4, fld_at, a6, a7, a8⟩
/-- what both have read: a fault at a token, or a clause more -/
def cRs (f : Nat → Int) (n t M : Nat) (cb : yS → Option yS) (rb : yS → Option (Int32 × yS)) (S : yS) (k m : Nat) (q : qT) (la lb : lD) (r : Nat) (c : Nat → Int × Int) : Prop := ∃ S', cb S = some S' ∧ Fx S S' ∧ ((∃ (e : Int) (kf : Nat), (1 ≤ e ∧ e ≤ 6) ∧ kf ≤ M ∧ cB S' M e (plT f n kf) ∧ ∀ Sr, jR f n t Sr k m m q r c (mkL la lb) → ∃ Sr', rb Sr = some (Int32.ofInt e, Sr') ∧ atT Sr' f n kf ∧ Fw t Sr Sr') ∨ (∃ (k' z' : Nat) (q' : qT) (la' lb' : lD) (r' : Nat) (c' : Nat → Int × Int), k < k' ∧ k' ≤ M ∧ z' ≤ k' ∧ r' ≤ k' ∧ m < 24 ∧ (∀ j, j < m + 1 → qG (q' j)) ∧ lwP 0 la' q' (m + 1) c' r' ∧ lwP 1 lb' q' (m + 1) c' r' ∧ jC f n M S' k' z' (m + 1) (m + 1) q' la' lb' ∧ ∀ Sr, jR f n t Sr k m m q r c (mkL la lb) → ∃ Sr', rb Sr = some (Int32.ofInt 0, Sr') ∧ jR f n t Sr' k' (m + 1) (m + 1) q' r' c' (mkL la' lb') ∧ Fw t Sr Sr'))
theorem mk_0 {lb : lD} : Int32.ofInt (mkL none lb) ||| (Int32.ofInt 1 <<< (Int32.ofInt 0 &&& 31)) = Int32.ofInt (mkL none lb + 1) := by
  cases lb with
  | none => decide
  | some a =>
    have e : mkL none (some a) = 2 := rfl
    rw [e]; decide
theorem mk_1 {la : lD} : Int32.ofInt (mkL la none) ||| (Int32.ofInt 1 <<< (Int32.ofInt 1 &&& 31)) = Int32.ofInt (mkL la none + 2) := by
  cases la with
  | none => decide
  | some a =>
    have e : mkL (some a) none = 1 := rfl
    rw [e]; decide
theorem mk_h0 {la lb : lD} : fX12_has (Int32.ofInt (mkL la lb)) (Int32.ofInt 0) = Int32.ofInt (if la.isSome = true then 1 else 0) := by
  cases la with
  | none =>
    cases lb with
    | none => decide
    | some b =>
      have e : mkL none (some b) = 2 := rfl
      rw [e]; decide
  | some a =>
    cases lb with
    | none =>
      have e : mkL (some a) none = 1 := rfl
      rw [e]; rfl
    | some b =>
      have e : mkL (some a) (some b) = 3 := rfl
      rw [e]; rfl
theorem mk_h1 {la lb : lD} : fX12_has (Int32.ofInt (mkL la lb)) (Int32.ofInt 1) = Int32.ofInt (if lb.isSome = true then 1 else 0) := by
  cases la with
  | none =>
    cases lb with
    | none => decide
    | some b =>
      have e : mkL none (some b) = 2 := rfl
      rw [e]; rfl
  | some a =>
    cases lb with
    | none =>
      have e : mkL (some a) none = 1 := rfl
      rw [e]; rfl
    | some b =>
      have e : mkL (some a) (some b) = 3 := rfl
      rw [e]; rfl
def mkN (sr : Int) (la lb : lD) : Int := if sr = 0 then mkL la lb + 1 else if sr = 1 then mkL la lb + 2 else mkL la lb
theorem mkN_eq {sr : Int} {la lb la' lb' : lD} (hl0 : sr = 0 → la = none) (hl1 : sr = 1 → lb = none) (h0 : la'.isSome = (la.isSome || decide (sr = 0))) (h1 : lb'.isSome = (lb.isSome || decide (sr = 1))) : mkN sr la lb = mkL la' lb' := by
  unfold mkN mkL
  rw [h0, h1]
  by_cases e0 : sr = 0
  · rw [if_pos e0, hl0 e0, decide_eq_true e0, decide_eq_false (show ¬ sr = 1 by omega), Bool.or_true, Bool.or_false]
    rw [if_pos (show true = true from rfl), if_neg (show ¬ (none : lD).isSome = true by decide)]
    omega
  · rw [if_neg e0, decide_eq_false e0, Bool.or_false]
    by_cases e1 : sr = 1
    · rw [if_pos e1, hl1 e1, decide_eq_true e1, Bool.or_true]
      rw [if_pos (show true = true from rfl), if_neg (show ¬ (none : lD).isSome = true by decide)]
      omega
    · rw [if_neg e1, decide_eq_false e1, Bool.or_false]
theorem hd_step (hN : 2000000 ≤ N) (ht4 : t < 4) (hn : n ≤ 300) (hM : M ≤ n) (hMe : psT f n M = n) (hg : tkG (kdT f n) (vlT f n) M) (hm : m ≤ 24) (hk : k ≤ M) (hz : z ≤ k) (hr : r ≤ k) (h0 : 0 ≤ srt (kdT f n k)) (hl0 : srt (kdT f n k) = 0 → la = none) (hl1 : srt (kdT f n k) = 1 → lb = none) (hC : jC f n M S k z m m q la lb) (hq : ∀ j, j < m → qG (q j)) (p0 : lwP 0 la q m c r) (p1 : lwP 1 lb q m c r) : cRs f n t M (ccH N (Int32.ofInt (kdT f n k))) (rcH N (Int32.ofInt (srt (kdT f n k)))) S k m q la lb r c := by
  have hM3 := hg.1
  have kr := hg.2.2.2.1 k
  have sr7 : srt (kdT f n k) ≤ 7 := by
    unfold srt
    repeat' split
    all_goals omega
  obtain ⟨a1, a2, a3, a4, a5, a6⟩ := id hC
  by_cases m24 : m = 24
  · obtain ⟨S1, d1, d2, d3⟩ := c_fail a1 hg a2 hk (by omega) (e := 6)
    refine ⟨S1, ?_, Fx_r d3, Or.inl ⟨6, k, by omega, hk, d2, fun Sr jr => ⟨Sr, ?_, jr.2.1, Fw_refl Sr⟩⟩⟩
    · unfold ccH
      rw [a3]
      exact h_neg (by first | omega | ((simp (disch := omega) only [i0, i1, i_lt, i_le, i_eq, i_add, i_sub, i_mul, i_neg, i_ofNat, i_rem, i_div, w_in, w_in2, w_cnt, w_cnt2, z01, z01', il, li, lc_ge, lc_le, lc_gt, lc_lt, lc_eq, l_ofNat, l0, l_eq, l_lt, l_le]) <;> omega)) (h_bind d1 rfl)
    · unfold rcH
      rw [jr.2.2.1]
      refine h_ainN (by omega) (by omega) ?_
      rw [jr.2.2.2.2.2.1, m24]
      exact h_neg (by decide) rfl
  have hm' : m < 24 := by omega
  have k40 : kdT f n k ≠ 40 := fun e => by
    rw [e] at h0
    exact absurd h0 (by decide)
  have kM : k < M := by
    by_cases q2 : k < M
    · exact q2
    · have e1 : k = M := by omega
      have := hg.2.1
      rw [← e1] at this
      exact absurd this k40
  have hps : psT f n k < n := by
    have kr := kdT_rng (f := f) (n := n) k
    by_cases q2 : psT f n k < n
    · exact q2
    · exact absurd (kr.2.2.1.mpr q2) k40
  obtain ⟨n1, n2, n3⟩ := c_nxt a2
  have j1 := jC_F hC n2 n1 (fun _ _ => rfl) (Nat.le_refl _)
  have j2 := jC_a j1 (a := 258) (x := m) (v := Int32.ofInt (kdT f n k)) (by omega) (Nat.le_refl _)
  have j3 := jC_a j2 (a := 259) (x := m) (v := Int32.ofInt 0) (by omega) (Nat.le_refl _)
  have j4 := jC_a j3 (a := 260) (x := m) (v := Int32.ofInt 0) (by omega) (Nat.le_refl _)
  have fH := Fx_trans (Fx_trans (Fx_trans (Fx_r n2) (Fx_a (S := ySi S 250 1 (Int32.ofInt ((k + 1 : Nat) : Int))) (a := 258) (g := upd ((ySi S 250 1 (Int32.ofInt ((k + 1 : Nat) : Int))).2.2.1 258) m (Int32.ofInt (kdT f n k))) (by omega))) (Fx_a (a := 259) (g := upd ((ySa (ySi S 250 1 (Int32.ofInt ((k + 1 : Nat) : Int))) 258 (upd ((ySi S 250 1 (Int32.ofInt ((k + 1 : Nat) : Int))).2.2.1 258) m (Int32.ofInt (kdT f n k)))).2.2.1 259) m (Int32.ofInt 0)) (by omega))) (Fx_a (a := 260) (g := upd ((ySa (ySa (ySi S 250 1 (Int32.ofInt ((k + 1 : Nat) : Int))) 258 (upd ((ySi S 250 1 (Int32.ofInt ((k + 1 : Nat) : Int))).2.2.1 258) m (Int32.ofInt (kdT f n k)))) 259 (upd ((ySa (ySi S 250 1 (Int32.ofInt ((k + 1 : Nat) : Int))) 258 (upd ((ySi S 250 1 (Int32.ofInt ((k + 1 : Nat) : Int))).2.2.1 258) m (Int32.ofInt (kdT f n k)))).2.2.1 259) m (Int32.ofInt 0))).2.2.1 260) m (Int32.ofInt 0)) (by omega))
  generalize hS6 : ySa (ySa (ySa (ySi S 250 1 (Int32.ofInt ((k + 1 : Nat) : Int))) 258 (upd ((ySi S 250 1 (Int32.ofInt ((k + 1 : Nat) : Int))).2.2.1 258) m (Int32.ofInt (kdT f n k)))) 259 (upd ((ySa (ySi S 250 1 (Int32.ofInt ((k + 1 : Nat) : Int))) 258 (upd ((ySi S 250 1 (Int32.ofInt ((k + 1 : Nat) : Int))).2.2.1 258) m (Int32.ofInt (kdT f n k)))).2.2.1 259) m (Int32.ofInt 0))) 260 (upd ((ySa (ySa (ySi S 250 1 (Int32.ofInt ((k + 1 : Nat) : Int))) 258 (upd ((ySi S 250 1 (Int32.ofInt ((k + 1 : Nat) : Int))).2.2.1 258) m (Int32.ofInt (kdT f n k)))) 259 (upd ((ySa (ySi S 250 1 (Int32.ofInt ((k + 1 : Nat) : Int))) 258 (upd ((ySi S 250 1 (Int32.ofInt ((k + 1 : Nat) : Int))).2.2.1 258) m (Int32.ofInt (kdT f n k)))).2.2.1 259) m (Int32.ofInt 0))).2.2.1 260) m (Int32.ofInt 0)) = S6 at j4 fH
  have hv6 : S6.2.2.1 258 m = Int32.ofInt (kdT f n k) := by
    rw [← hS6, ySa_ne _ _ (by omega), ySa_ne _ _ (by omega), ySa_at, upd_at]
  obtain ⟨cb, hcb, S7, b1, b2, b3⟩ := body_all (c := c) (mq := mkN (srt (kdT f n k)) la lb) hN ht4 hn hM hMe hg hm' (show k + 1 ≤ M by omega) (show z ≤ k + 1 by omega) (show r ≤ k + 1 by omega) h0 hl0 hl1 j4 hv6
  have cls : ∀ {Y : Option yS}, ccT cb S6 = Y → ccH N (Int32.ofInt (kdT f n k)) S = Y := fun {Y} hY => by
    unfold ccH
    rw [a3, n3]
    refine h_pos (by first | omega | ((simp (disch := omega) only [i0, i1, i_lt, i_le, i_eq, i_add, i_sub, i_mul, i_neg, i_ofNat, i_rem, i_div, w_in, w_in2, w_cnt, w_cnt2, z01, z01', il, li, lc_ge, lc_le, lc_gt, lc_lt, lc_eq, l_ofNat, l0, l_eq, l_lt, l_le]) <;> omega)) (h_pst ?_)
    rw [fld_ne (show 15 ≠ 1 by omega), a3]
    refine h_ainN (by omega) (by omega) (h_pst ?_)
    rw [ySa_1, fld_ne (show 15 ≠ 1 by omega), a3]
    refine h_ainN (by omega) (by omega) (h_pst ?_)
    rw [ySa_1, ySa_1, fld_ne (show 15 ≠ 1 by omega), a3]
    refine h_ainN (by omega) (by omega) (h_pst ?_)
    rw [hS6, hcb]
    exact hY
  have rfs : ∀ Sr, jR f n t Sr k m m q r c (mkL la lb) → ∃ Sr8, (∀ {Y : Option (Int32 × yS)}, rcB N (Int32.ofInt (srt (kdT f n k))) (Int32.ofInt ((681 * t + 1 + 3 * m : Nat) : Int)) Sr8 = Y → rcH N (Int32.ofInt (srt (kdT f n k))) Sr = Y) ∧ jR f n t Sr8 (k + 1) m m q r c (mkN (srt (kdT f n k)) la lb) ∧ Sr8.2.2.1 268 (681 * t + 1 + 3 * m) = Int32.ofInt (srt (kdT f n k)) ∧ Sr8.1 265 14 = Int32.ofInt (srt (kdT f n k)) ∧ Fw t Sr Sr8 := fun Sr jr => by
    obtain ⟨Sr4, g1, g2, g3, g4⟩ : ∃ Sr4, (∀ {Y : Option (Int32 × yS)}, rcT N (Int32.ofInt (srt (kdT f n k))) (Int32.ofInt (m : Int)) Sr4 = Y → rcH N (Int32.ofInt (srt (kdT f n k))) Sr = Y) ∧ jR f n t Sr4 k m m q r c (mkN (srt (kdT f n k)) la lb) ∧ Sr4.1 265 14 = Int32.ofInt (srt (kdT f n k)) ∧ Fw t Sr Sr4 := by
      by_cases s1 : 1 < srt (kdT f n k)
      · refine ⟨ySi Sr 265 14 (Int32.ofInt (srt (kdT f n k))), fun {Y} hY => ?_, ?_, fld_at, Fw_i (by omega)⟩
        · unfold rcH
          rw [jr.2.2.1]
          refine h_ainN (by omega) (by omega) ?_
          rw [jr.2.2.2.2.2.1]
          exact h_pos (by first | omega | ((simp (disch := omega) only [i0, i1, i_lt, i_le, i_eq, i_add, i_sub, i_mul, i_neg, i_ofNat, i_rem, i_div, w_in, w_in2, w_cnt, w_cnt2, z01, z01', il, li, lc_ge, lc_le, lc_gt, lc_lt, lc_eq, l_ofNat, l0, l_eq, l_lt, l_le]) <;> omega)) (h_pos (by first | omega | ((simp (disch := omega) only [i0, i1, i_lt, i_le, i_eq, i_add, i_sub, i_mul, i_neg, i_ofNat, i_rem, i_div, w_in, w_in2, w_cnt, w_cnt2, z01, z01', il, li, lc_ge, lc_le, lc_gt, lc_lt, lc_eq, l_ofNat, l0, l_eq, l_lt, l_le]) <;> omega)) (h_pst hY))
        · unfold mkN
          rw [if_neg (by omega), if_neg (by omega)]
          exact jR_i jr
      · have or1 : (Sr.1 265 19) ||| ((Int32.ofInt 1) <<< (Int32.ofInt (srt (kdT f n k)) &&& 31)) = Int32.ofInt (mkN (srt (kdT f n k)) la lb) := by
          rw [jr.2.2.2.2.1]
          unfold mkN
          by_cases e0 : srt (kdT f n k) = 0
          · rw [if_pos e0, hl0 e0, e0]; exact mk_0
          · have e1 : srt (kdT f n k) = 1 := by omega
            rw [if_neg e0, if_pos e1, hl1 e1, e1]; exact mk_1
        refine ⟨ySi (ySi Sr 265 19 (Int32.ofInt (mkN (srt (kdT f n k)) la lb))) 265 14 (Int32.ofInt (srt (kdT f n k))), fun {Y} hY => ?_, jR_i (jR_19 jr), fld_at, Fw_trans (Fw_i (by omega)) (Fw_i (by omega))⟩
        unfold rcH
        rw [or1, jr.2.2.1]
        refine h_ainN (by omega) (by omega) ?_
        rw [jr.2.2.2.2.2.1]
        exact h_pos (by first | omega | ((simp (disch := omega) only [i0, i1, i_lt, i_le, i_eq, i_add, i_sub, i_mul, i_neg, i_ofNat, i_rem, i_div, w_in, w_in2, w_cnt, w_cnt2, z01, z01', il, li, lc_ge, lc_le, lc_gt, lc_lt, lc_eq, l_ofNat, l0, l_eq, l_lt, l_le]) <;> omega)) (h_neg (by first | omega | ((simp (disch := omega) only [i0, i1, i_lt, i_le, i_eq, i_add, i_sub, i_mul, i_neg, i_ofNat, i_rem, i_div, w_in, w_in2, w_cnt, w_cnt2, z01, z01', il, li, lc_ge, lc_le, lc_gt, lc_lt, lc_eq, l_ofNat, l0, l_eq, l_lt, l_le]) <;> omega)) (h_pst (h_pst hY)))
    obtain ⟨Sr6, u1, u2, u3⟩ := q_nextT hN g2.1 hps g2.2.1
    have jr6 := jR_k g2 u2 u3
    have jr8 := jR_a jr6 (x := 681 * t + 1 + 3 * m) (v := Int32.ofInt (srt (kdT f n k))) hm' (by omega)
    refine ⟨_, fun {Y} hY => g1 ?_, jr8, by rw [ySa_at, upd_at], ?_, Fw_trans g4 (Fw_trans (Fw_k u2) (Fw_a (by omega)))⟩
    · unfold rcT
      refine h_bind u1 (h_pst ?_)
      rw [jr6.2.2.1, i_add, i_mul, i_add, show ((681 * t : Nat) : Int) + 1 + 3 * (m : Int) = ((681 * t + 1 + 3 * m : Nat) : Int) by omega]
      exact h_ainN (by omega) (by omega) (h_pst hY)
    · show Sr6.1 265 14 = _
      rw [u2.2.1 14 (by omega)]; exact g3
  rcases b3 with ⟨e, kf, c1, c2, c3, c4, c5⟩ | ⟨k', z', x, la', lb', r', c', c1, c2, c3, c4, c5, c6, c7, c8, c9, c10, c11⟩
  · obtain ⟨S8, d1, d2, d3⟩ := b_expect (tkC_c j4.1 b2) hg c3 (by omega) (w := 35) (by omega)
    refine ⟨_, cls (h_bind b1 (h_bind d1 rfl)), Fx_trans fH (Fx_trans b2 (Fx_trans (Fx_r d3) Fx_i)), Or.inl ⟨e, kf, by omega, c2, cB_i d2 (by omega), fun Sr jr => ?_⟩⟩
    obtain ⟨Sr8, u1, u2, u3, u4, u5⟩ := rfs Sr jr
    obtain ⟨Sr', v1, v2, v3⟩ := c5 Sr8 u2 u3 u4
    refine ⟨Sr', u1 ?_, v2, Fw_trans u5 v3⟩
    unfold rcB
    refine h_bind v1 ?_
    dsimp only
    exact h_neg (by first | omega | ((simp (disch := omega) only [i0, i1, i_lt, i_le, i_eq, i_add, i_sub, i_mul, i_neg, i_ofNat, i_rem, i_div, w_in, w_in2, w_cnt, w_cnt2, z01, z01', il, li, lc_ge, lc_le, lc_gt, lc_lt, lc_eq, l_ofNat, l0, l_eq, l_lt, l_le]) <;> omega)) rfl
  · have mkE := mkN_eq hl0 hl1 c9.1 c9.2
    have qq : ∀ j, j < m + 1 → qG (qU q m x j) := fun j hj => by
      by_cases e : j = m
      · rw [e, qU_at]; exact c7
      · rw [qU_ne e]; exact hq j (by omega)
    obtain ⟨pp0, pp1⟩ := c8 m ⟨p0, p1⟩ rfl
    by_cases k35 : kdT f n k' = 35
    · have kM' : k' < M := by
        by_cases q2 : k' < M
        · exact q2
        · have e1 : k' = M := by omega
          have := hg.2.1
          rw [← e1] at this
          omega
      have hps' : psT f n k' < n := by
        have kr := kdT_rng (f := f) (n := n) k'
        by_cases q2 : psT f n k' < n
        · exact q2
        · have := kr.2.2.1.mpr q2; omega
      have x1 := c_expY c10.1 hg c10.2.1 c2 k35
      obtain ⟨y1, y2, y3⟩ := c_nxt c10.2.1
      have j5 := jC_15 (jC_F c10 y2 y1 (fun _ _ => rfl) (Nat.le_refl _)) (m2 := m + 1)
      refine ⟨_, cls (h_bind b1 (h_bind x1 (h_pst ?_))), Fx_trans fH (Fx_trans b2 (Fx_trans (Fx_r y2) Fx_i)), Or.inr ⟨k' + 1, z', qU q m x, la', lb', r', c', by omega, by omega, by omega, by omega, hm', qq, pp0, pp1, j5, fun Sr jr => ?_⟩⟩
      · rw [fld_ne (show 15 ≠ 1 by omega), c10.2.2.1, i_add, show (m : Int) + 1 = ((m + 1 : Nat) : Int) by omega]
      · obtain ⟨Sr8, u1, u2, u3, u4, u5⟩ := rfs Sr jr
        obtain ⟨Sr', v1, v2, v3⟩ := c11 Sr8 u2 u3 u4
        have v4 := jR_ct v2 (m2 := m + 1)
        obtain ⟨Sr2, w1, w2, w3⟩ := q_nextT hN v4.1 hps' v4.2.1
        rw [mkE] at v4
        refine ⟨Sr2, u1 ?_, jR_k v4 w2 w3, Fw_trans u5 (Fw_trans v3 (Fw_trans (Fw_a (by omega)) (Fw_k w2)))⟩
        unfold rcB
        refine h_bind v1 ?_
        dsimp only
        rw [v2.2.2.1]
        refine h_pos (by decide) (h_ainN (by omega) (by omega) (h_ainN (by omega) (by omega) ?_))
        rw [v2.2.2.2.2.2.1, i_add, show (m : Int) + 1 = ((m + 1 : Nat) : Int) by omega]
        have p35 : ((ySa Sr' 268 (upd (Sr'.2.2.1 268) (681 * t) (Int32.ofInt ((m + 1 : Nat) : Int)))).1 265 9 = Int32.ofInt 59) = (kdT f n k' = 35) := tD_s (atT_D v4.2.1) (k := 35) (by omega)
        exact h_pst (h_pos (p35.mpr k35) (h_bind w1 rfl))
    · obtain ⟨S8, d1, d2, d3⟩ := c_expN c10.1 hg c10.2.1 c2 (by omega) (w := 35) (by omega) k35
      refine ⟨_, cls (h_bind b1 (h_bind d1 rfl)), Fx_trans fH (Fx_trans b2 (Fx_trans (Fx_r d3) Fx_i)), Or.inl ⟨1, k', by omega, c2, cB_i d2 (by omega), fun Sr jr => ?_⟩⟩
      obtain ⟨Sr8, u1, u2, u3, u4, u5⟩ := rfs Sr jr
      obtain ⟨Sr', v1, v2, v3⟩ := c11 Sr8 u2 u3 u4
      have v4 := jR_ct v2 (m2 := m + 1)
      refine ⟨_, u1 ?_, v4.2.1, Fw_trans u5 (Fw_trans v3 (Fw_a (by omega)))⟩
      unfold rcB
      refine h_bind v1 ?_
      dsimp only
      rw [v2.2.2.1]
      refine h_pos (by decide) (h_ainN (by omega) (by omega) (h_ainN (by omega) (by omega) ?_))
      rw [v2.2.2.2.2.2.1, i_add, show (m : Int) + 1 = ((m + 1 : Nat) : Int) by omega]
      have p35 : ((ySa Sr' 268 (upd (Sr'.2.2.1 268) (681 * t) (Int32.ofInt ((m + 1 : Nat) : Int)))).1 265 9 = Int32.ofInt 59) = (kdT f n k' = 35) := tD_s (atT_D v4.2.1) (k := 35) (by omega)
      exact h_pst (h_neg (fun e => k35 (p35.mp e)) rfl)
end CLB
