/-! ===== all clauses; the tape ===== -/
section TAP
variable {f : Nat → Int} {n t N M : Nat} {S S' : yS} {k k' z z' m m' r : Nat} {q : qT} {la lb : lD} {c : Nat → Int × Int} {mq : Int}
theorem c_verb : ∀ k : Nat, k < 41 → fX5_isVerb (Int32.ofInt (k : Int)) = Int32.ofInt (if 0 ≤ srt (k : Int) then 1 else 0) := by decide +kernel
theorem cRs_of {cb cb' : yS → Option yS} {rb rb' : yS → Option (Int32 × yS)} (h1 : ∀ Y, cb S = Y → cb' S = Y) (h2 : ∀ Sr Y, jR f n t Sr k m m q r c (mkL la lb) → rb Sr = Y → rb' Sr = Y) (h : cRs f n t M cb rb S k m q la lb r c) : cRs f n t M cb' rb' S k m q la lb r c := by
  obtain ⟨S', a1, a2, a3⟩ := h
  refine ⟨S', h1 _ a1, a2, ?_⟩
  rcases a3 with ⟨e, kf, b1, b2, b3, b4⟩ | ⟨k', z', q', la', lb', r', c', b1, b2, b3, b4, b5, b6, b7, b8, b9, b10⟩
  · refine Or.inl ⟨e, kf, b1, b2, b3, fun Sr jr => ?_⟩
    obtain ⟨Sr', c1, c2⟩ := b4 Sr jr
    exact ⟨Sr', h2 _ _ jr c1, c2⟩
  · refine Or.inr ⟨k', z', q', la', lb', r', c', b1, b2, b3, b4, b5, b6, b7, b8, b9, fun Sr jr => ?_⟩
    obtain ⟨Sr', c1, c2⟩ := b10 Sr jr
    exact ⟨Sr', h2 _ _ jr c1, c2⟩
theorem cl_step (hN : 2000000 ≤ N) (ht4 : t < 4) (hn : n ≤ 300) (hM : M ≤ n) (hMe : psT f n M = n) (hg : tkG (kdT f n) (vlT f n) M) (hm : m ≤ 24) (hk : k ≤ M) (hz : z ≤ k) (hr : r ≤ k) (hC : jC f n M S k z m m q la lb) (hq : ∀ j, j < m → qG (q j)) (p0 : lwP 0 la q m c r) (p1 : lwP 1 lb q m c r) : cRs f n t M (fX5_readClause N) (fX12_clause N) S k m q la lb r c := by
  have hM3 := hg.1
  have kr := hg.2.2.2.1 k
  obtain ⟨a1, a2, a3, a4, a5, a6⟩ := id hC
  have kd := c_kind a1 hg a2.1 hk
  have vb : fX5_isVerb (Int32.ofInt (kdT f n k)) = Int32.ofInt (if 0 ≤ srt (kdT f n k) then 1 else 0) := by
    have := c_verb (kdT f n k).toNat (by omega)
    rw [Int.toNat_of_nonneg kr.1] at this
    exact this
  have sr7 : -1 ≤ srt (kdT f n k) ∧ srt (kdT f n k) ≤ 7 := by
    unfold srt
    repeat' split
    all_goals omega
  have fail : ∀ e : Int, 1 ≤ e ∧ e ≤ 6 → (∀ Y, (fX5_fail (Int32.ofInt e) S).bind (fun S106 => some S106) = Y → fX5_readClause N S = Y) → (∀ Sr, jR f n t Sr k m m q r c (mkL la lb) → fX12_clause N Sr = some (Int32.ofInt e, Sr)) → cRs f n t M (fX5_readClause N) (fX12_clause N) S k m q la lb r c := fun e he h1 h2 => by
    obtain ⟨S1, d1, d2, d3⟩ := c_fail a1 hg a2 hk (by omega) (e := e)
    exact ⟨S1, h1 _ (h_bind d1 rfl), Fx_r d3, Or.inl ⟨e, k, he, hk, d2, fun Sr jr => ⟨Sr, h2 Sr jr, jr.2.1, Fw_refl Sr⟩⟩⟩
  by_cases h0 : 0 ≤ srt (kdT f n k)
  case neg =>
    rw [if_neg h0] at vb
    refine fail 1 (by omega) (fun Y hY => ?_) (fun Sr jr => ?_)
    · rw [cc_eq]
      refine h_bind kd ?_
      rw [vb]
      exact h_neg (by decide) hY
    · rw [rc_eq]
      refine h_bind (q_sort (atT_D jr.2.1)) ?_
      rw [show srt (kdT f n k) = -1 by omega]
      exact h_neg (by decide) rfl
  rw [if_pos h0] at vb
  by_cases e18 : kdT f n k = 18
  · have s0 : srt (kdT f n k) = 0 := by rw [e18]; rfl
    cases hla : la with
    | some a =>
      obtain ⟨k0, w⟩ := a
      rw [hla] at a5
      obtain ⟨i, j, i1, i2, i3, i4⟩ := a5
      have ij := i4.1
      have i1 : S.1 250 8 = Int32.ofInt (i : Int) := i1
      rw [← hla]
      refine fail 4 (by omega) (fun Y hY => ?_) (fun Sr jr => ?_)
      · rw [cc_eq]
        refine h_bind kd ?_
        rw [vb, e18, i1]
        exact h_pos (by decide) (h_neg (by decide) (h_pos (by first | omega | ((simp (disch := omega) only [i0, i1, i_lt, i_le, i_eq, i_add, i_sub, i_mul, i_neg, i_ofNat, i_rem, i_div, w_in, w_in2, w_cnt, w_cnt2, z01, z01', il, li, lc_ge, lc_le, lc_gt, lc_lt, lc_eq, l_ofNat, l0, l_eq, l_lt, l_le]) <;> omega)) hY))
      · rw [rc_eq]
        refine h_bind (q_sort (atT_D jr.2.1)) ?_
        rw [s0, jr.2.2.2.2.1, mk_h0, hla]
        exact h_pos (by decide) (h_neg (by decide) (h_neg (show ¬ Int32.ofInt 1 = 0 by decide) rfl))
    | none =>
      have a5' := a5
      rw [hla] at a5'
      have i1 : S.1 250 8 = Int32.ofInt (-1) := a5'
      rw [← hla]
      refine cRs_of (fun Y hY => ?_) (fun Sr Y jr hY => ?_) (hd_step hN ht4 hn hM hMe hg hm hk hz hr h0 (fun _ => hla) (fun e => by omega) hC hq p0 p1)
      · rw [cc_eq]
        refine h_bind kd ?_
        rw [vb, i1]
        rw [e18] at hY ⊢
        exact h_pos (by decide) (h_neg (by decide) (h_neg (by decide) (h_pos (by decide) hY)))
      · rw [rc_eq]
        refine h_bind (q_sort (atT_D jr.2.1)) ?_
        rw [s0] at hY ⊢
        rw [jr.2.2.2.2.1, mk_h0, hla]
        exact h_pos (by decide) (h_neg (by decide) (h_pos (by decide) hY))
  by_cases e19 : kdT f n k = 19
  · have s1 : srt (kdT f n k) = 1 := by rw [e19]; rfl
    cases hlb : lb with
    | some a =>
      obtain ⟨k0, w⟩ := a
      rw [hlb] at a6
      obtain ⟨i, j, i1, i2, i3, i4⟩ := a6
      have ij := i4.1
      have i1 : S.1 250 10 = Int32.ofInt (i : Int) := i1
      rw [← hlb]
      refine fail 4 (by omega) (fun Y hY => ?_) (fun Sr jr => ?_)
      · rw [cc_eq]
        refine h_bind kd ?_
        rw [vb, e19, i1]
        exact h_pos (by decide) (h_pos (by decide) (h_neg (by decide) (h_neg (by first | omega | ((simp (disch := omega) only [i0, i1, i_lt, i_le, i_eq, i_add, i_sub, i_mul, i_neg, i_ofNat, i_rem, i_div, w_in, w_in2, w_cnt, w_cnt2, z01, z01', il, li, lc_ge, lc_le, lc_gt, lc_lt, lc_eq, l_ofNat, l0, l_eq, l_lt, l_le]) <;> omega)) hY)))
      · rw [rc_eq]
        refine h_bind (q_sort (atT_D jr.2.1)) ?_
        rw [s1, jr.2.2.2.2.1, mk_h1, hlb]
        exact h_pos (by decide) (h_neg (by decide) (h_neg (show ¬ Int32.ofInt 1 = 0 by decide) rfl))
    | none =>
      have a6' := a6
      rw [hlb] at a6'
      have i1 : S.1 250 10 = Int32.ofInt (-1) := a6'
      rw [← hlb]
      refine cRs_of (fun Y hY => ?_) (fun Sr Y jr hY => ?_) (hd_step hN ht4 hn hM hMe hg hm hk hz hr h0 (fun e => by omega) (fun _ => hlb) hC hq p0 p1)
      · rw [cc_eq]
        refine h_bind kd ?_
        rw [vb, i1]
        rw [e19] at hY ⊢
        exact h_pos (by decide) (h_pos (by decide) (h_neg (by decide) (h_pos rfl hY)))
      · rw [rc_eq]
        refine h_bind (q_sort (atT_D jr.2.1)) ?_
        rw [s1] at hY ⊢
        rw [jr.2.2.2.2.1, mk_h1, hlb]
        exact h_pos (by decide) (h_neg (by decide) (h_pos (by decide) hY))
  have s2 : 1 < srt (kdT f n k) := by
    rcases srt_c h0 with e | e | e | e | e | e | e | e
    · exact absurd e e18
    · exact absurd e e19
    all_goals (rw [e]; decide)
  refine cRs_of (fun Y hY => ?_) (fun Sr Y jr hY => ?_) (hd_step hN ht4 hn hM hMe hg hm hk hz hr h0 (fun e => by omega) (fun e => by omega) hC hq p0 p1)
  · rw [cc_eq]
    refine h_bind kd ?_
    rw [vb]
    exact h_pos (by decide) (h_pos (by first | omega | ((simp (disch := omega) only [i0, i1, i_lt, i_le, i_eq, i_add, i_sub, i_mul, i_neg, i_ofNat, i_rem, i_div, w_in, w_in2, w_cnt, w_cnt2, z01, z01', il, li, lc_ge, lc_le, lc_gt, lc_lt, lc_eq, l_ofNat, l0, l_eq, l_lt, l_le]) <;> omega)) (h_pos (by first | omega | ((simp (disch := omega) only [i0, i1, i_lt, i_le, i_eq, i_add, i_sub, i_mul, i_neg, i_ofNat, i_rem, i_div, w_in, w_in2, w_cnt, w_cnt2, z01, z01', il, li, lc_ge, lc_le, lc_gt, lc_lt, lc_eq, l_ofNat, l0, l_eq, l_lt, l_le]) <;> omega)) hY))
  · rw [rc_eq]
    refine h_bind (q_sort (atT_D jr.2.1)) ?_
    exact h_pos (by first | omega | ((simp (disch := omega) only [i0, i1, i_lt, i_le, i_eq, i_add, i_sub, i_mul, i_neg, i_ofNat, i_rem, i_div, w_in, w_in2, w_cnt, w_cnt2, z01, z01', il, li, lc_ge, lc_le, lc_gt, lc_lt, lc_eq, l_ofNat, l0, l_eq, l_lt, l_le]) <;> omega)) (h_pos (by first | omega | ((simp (disch := omega) only [i0, i1, i_lt, i_le, i_eq, i_add, i_sub, i_mul, i_neg, i_ofNat, i_rem, i_div, w_in, w_in2, w_cnt, w_cnt2, z01, z01', il, li, lc_ge, lc_le, lc_gt, lc_lt, lc_eq, l_ofNat, l0, l_eq, l_lt, l_le]) <;> omega)) hY)
def tRs (f : Nat → Int) (n t M : Nat) (cr : Option yS) (rb : yS → Option (Int32 × yS)) (S : yS) (k m : Nat) (q : qT) (la lb : lD) (r : Nat) (c : Nat → Int × Int) : Prop := ∃ S', cr = some S' ∧ Fx S S' ∧ ((∃ (e : Int) (kf : Nat), (1 ≤ e ∧ e ≤ 6) ∧ kf ≤ M ∧ cB S' M e (plT f n kf) ∧ ∀ Sr, jR f n t Sr k m m q r c (mkL la lb) → ∃ Sr', rb Sr = some (Int32.ofInt e, Sr') ∧ atT Sr' f n kf ∧ Fw t Sr Sr') ∨ (∃ (z' m' : Nat) (q' : qT) (la' lb' : lD) (r' : Nat) (c' : Nat → Int × Int), z' ≤ M ∧ r' ≤ M ∧ m' ≤ 24 ∧ (∀ j, j < m' → qG (q' j)) ∧ lwP 0 la' q' m' c' r' ∧ lwP 1 lb' q' m' c' r' ∧ jC f n M S' M z' m' m' q' la' lb' ∧ ∀ Sr, jR f n t Sr k m m q r c (mkL la lb) → ∃ Sr', rb Sr = some (Int32.ofInt 0, Sr') ∧ jR f n t Sr' M m' m' q' r' c' (mkL la' lb') ∧ Fw t Sr Sr'))
theorem tp_stop (hg : tkG (kdT f n) (vlT f n) M) (hm : m ≤ 24) (hk : k ≤ M) (hz : z ≤ k) (hr : r ≤ k) (hC : jC f n M S k z m m q la lb) (hq : ∀ j, j < m → qG (q j)) (p0 : lwP 0 la q m c r) (p1 : lwP 1 lb q m c r) (h40 : kdT f n k = 40) {fu fu' : Nat} : tRs f n t M (lX5_readTape N (fu + 1) (Int32.ofInt (m : Int)) S) (lX12_readText N (fu' + 1)) S k m q la lb r c := by
  have hM3 := hg.1
  have hkM : k = M := by
    by_cases q2 : k < M
    · exact absurd h40 (hg.2.2.1 k q2)
    · omega
  have kd := c_kind hC.1 hg hC.2.1.1 hk
  rw [h40] at kd
  refine ⟨S, ?_, Fx_refl S, Or.inr ⟨z, m, q, la, lb, r, c, by omega, by omega, hm, hq, p0, p1, by have x := hC; rw [hkM] at x; exact x, fun Sr jr => ⟨Sr, ?_, by have x := jr; rw [hkM] at x; exact x, Fw_refl Sr⟩⟩⟩
  · rw [lX5_readTape]
    exact h_neg (by first | omega | ((simp (disch := omega) only [i0, i1, i_lt, i_le, i_eq, i_add, i_sub, i_mul, i_neg, i_ofNat, i_rem, i_div, w_in, w_in2, w_cnt, w_cnt2, z01, z01', il, li, lc_ge, lc_le, lc_gt, lc_lt, lc_eq, l_ofNat, l0, l_eq, l_lt, l_le]) <;> omega)) (h_bind kd (h_pos rfl rfl))
  · obtain ⟨cc, c1, c2, c3, c4, -⟩ := tD_9 (atT_D jr.2.1)
    rw [lX12_readText, c1, c4.mpr h40]
    exact h_pos rfl rfl
theorem tp_loop (hN : 2000000 ≤ N) (ht4 : t < 4) (hn : n ≤ 300) (hM : M ≤ n) (hMe : psT f n M = n) (hg : tkG (kdT f n) (vlT f n) M) : ∀ (d fu fu' : Nat) (S : yS) (k z m : Nat) (q : qT) (la lb : lD) (r : Nat) (c : Nat → Int × Int), M - k ≤ d → d + 2 ≤ fu → d + 2 ≤ fu' → k ≤ M → z ≤ k → r ≤ k → m ≤ 24 → (∀ j, j < m → qG (q j)) → lwP 0 la q m c r → lwP 1 lb q m c r → jC f n M S k z m m q la lb → tRs f n t M (lX5_readTape N fu (Int32.ofInt (m : Int)) S) (lX12_readText N fu') S k m q la lb r c := by
  have hM3 := hg.1
  intro d
  induction d with
  | zero =>
    intro fu fu' S k z m q la lb r c h1 h2 h3 hk hz hr hm hq p0 p1 hC
    obtain ⟨fu, rfl⟩ : ∃ x, fu = x + 1 := ⟨fu - 1, by omega⟩
    obtain ⟨fu', rfl⟩ : ∃ x, fu' = x + 1 := ⟨fu' - 1, by omega⟩
    have : k = M := by omega
    exact tp_stop hg hm hk hz hr hC hq p0 p1 (by rw [this]; exact hg.2.1)
  | succ d ih =>
    intro fu fu' S k z m q la lb r c h1 h2 h3 hk hz hr hm hq p0 p1 hC
    obtain ⟨fu, rfl⟩ : ∃ x, fu = x + 1 := ⟨fu - 1, by omega⟩
    obtain ⟨fu', rfl⟩ : ∃ x, fu' = x + 1 := ⟨fu' - 1, by omega⟩
    by_cases h40 : kdT f n k = 40
    · exact tp_stop hg hm hk hz hr hC hq p0 p1 h40
    have kr := hg.2.2.2.1 k
    have kd := c_kind hC.1 hg hC.2.1.1 hk
    have hkM : k < M := by
      by_cases q2 : k < M
      · exact q2
      · have e1 : k = M := by omega
        rw [e1] at h40
        exact absurd hg.2.1 h40
    obtain ⟨S1, a1, a2, a3⟩ := cl_step (c := c) (t := t) hN ht4 hn hM hMe hg hm hk hz hr hC hq p0 p1
    have cl : ∀ {Y : Option yS}, lX5_readTape N fu (Int32.ofInt ((m + 1 : Nat) : Int)) S1 = Y → lX5_readTape N (fu + 1) (Int32.ofInt (m : Int)) S = Y := fun {Y} hY => by
      rw [lX5_readTape, i_add, show (m : Int) + 1 = ((m + 1 : Nat) : Int) by omega]
      exact h_neg (by first | omega | ((simp (disch := omega) only [i0, i1, i_lt, i_le, i_eq, i_add, i_sub, i_mul, i_neg, i_ofNat, i_rem, i_div, w_in, w_in2, w_cnt, w_cnt2, z01, z01', il, li, lc_ge, lc_le, lc_gt, lc_lt, lc_eq, l_ofNat, l0, l_eq, l_lt, l_le]) <;> omega)) (h_bind kd (h_neg (by first | omega | ((simp (disch := omega) only [i0, i1, i_lt, i_le, i_eq, i_add, i_sub, i_mul, i_neg, i_ofNat, i_rem, i_div, w_in, w_in2, w_cnt, w_cnt2, z01, z01', il, li, lc_ge, lc_le, lc_gt, lc_lt, lc_eq, l_ofNat, l0, l_eq, l_lt, l_le]) <;> omega)) (h_bind a1 hY)))
    have rf : ∀ Sr, jR f n t Sr k m m q r c (mkL la lb) → ∀ {u Sr'} {Y : Option (Int32 × yS)}, fX12_clause N Sr = some (u, Sr') → (if u = 0 then lX12_readText N fu' Sr' else some (u, Sr')) = Y → lX12_readText N (fu' + 1) Sr = Y := fun Sr jr {u Sr' Y} h1 h2 => by
      obtain ⟨cc, c1, c2, c3, c4, -⟩ := tD_9 (atT_D jr.2.1)
      have : cc ≠ 0 := fun e => h40 (c4.mp e)
      rw [lX12_readText, c1]
      exact h_neg (by first | omega | ((simp (disch := omega) only [i0, i1, i_lt, i_le, i_eq, i_add, i_sub, i_mul, i_neg, i_ofNat, i_rem, i_div, w_in, w_in2, w_cnt, w_cnt2, z01, z01', il, li, lc_ge, lc_le, lc_gt, lc_lt, lc_eq, l_ofNat, l0, l_eq, l_lt, l_le]) <;> omega)) (h_bind h1 h2)
    rcases a3 with ⟨e, kf, b1, b2, b3, b4⟩ | ⟨k', z', q', la', lb', r', c', b1, b2, b3, b4, b5, b6, b7, b8, b9, b10⟩
    · refine ⟨S1, cl ?_, a2, Or.inl ⟨e, kf, b1, b2, b3, fun Sr jr => ?_⟩⟩
      · obtain ⟨fu2, rfl⟩ : ∃ x, fu = x + 1 := ⟨fu - 1, by omega⟩
        rw [lX5_readTape]
        by_cases m24 : m = 24
        · rw [m24]; exact h_pos (by decide) rfl
        · exact h_neg (by first | omega | ((simp (disch := omega) only [i0, i1, i_lt, i_le, i_eq, i_add, i_sub, i_mul, i_neg, i_ofNat, i_rem, i_div, w_in, w_in2, w_cnt, w_cnt2, z01, z01', il, li, lc_ge, lc_le, lc_gt, lc_lt, lc_eq, l_ofNat, l0, l_eq, l_lt, l_le]) <;> omega)) (h_bind (b_kind (tkC_c hC.1 a2) hg b3) (h_pos rfl rfl))
      · obtain ⟨Sr', c1, c2, c3⟩ := b4 Sr jr
        exact ⟨Sr', rf Sr jr c1 (h_neg (by first | omega | ((simp (disch := omega) only [i0, i1, i_lt, i_le, i_eq, i_add, i_sub, i_mul, i_neg, i_ofNat, i_rem, i_div, w_in, w_in2, w_cnt, w_cnt2, z01, z01', il, li, lc_ge, lc_le, lc_gt, lc_lt, lc_eq, l_ofNat, l0, l_eq, l_lt, l_le]) <;> omega)) rfl), c2, c3⟩
    · obtain ⟨S2, d1, d2, d3⟩ := ih fu fu' S1 k' z' (m + 1) q' la' lb' r' c' (by omega) (by omega) (by omega) b2 b3 b4 (by omega) b6 b7 b8 b9
      refine ⟨S2, cl d1, Fx_trans a2 d2, ?_⟩
      rcases d3 with ⟨e, kf, e1, e2, e3, e4⟩ | ⟨z2, m2, q2, la2, lb2, r2, c2, e1, e2, e3, e4, e5, e6, e7, e8⟩
      · refine Or.inl ⟨e, kf, e1, e2, e3, fun Sr jr => ?_⟩
        obtain ⟨Sr', c1, c2, c3⟩ := b10 Sr jr
        obtain ⟨Sr2, g1, g2, g3⟩ := e4 Sr' c2
        exact ⟨Sr2, rf Sr jr c1 (h_pos rfl g1), g2, Fw_trans c3 g3⟩
      · refine Or.inr ⟨z2, m2, q2, la2, lb2, r2, c2, e1, e2, e3, e4, e5, e6, e7, fun Sr jr => ?_⟩
        obtain ⟨Sr', c1, c2, c3⟩ := b10 Sr jr
        obtain ⟨Sr2, g1, g2, g3⟩ := e8 Sr' c2
        exact ⟨Sr2, rf Sr jr c1 (h_pos rfl g1), g2, Fw_trans c3 g3⟩
/-- the whole tape, by both -/
theorem tape_step (hN : 2000000 ≤ N) (ht4 : t < 4) (h : scG S f n) : ∃ M S1, M ≤ n ∧ tkG (kdT f n) (vlT f n) M ∧ fX5_readTape N S = some S1 ∧ ((∀ i, i ≠ 250 → i ≠ 251 → S1.1 i = S.1 i) ∧ (∀ j, j ≠ 5 → S1.1 251 j = S.1 251 j) ∧ (∀ i, ¬ (253 ≤ i ∧ i ≤ 260) → S1.2.2.1 i = S.2.2.1 i) ∧ S1.2.1 = S.2.1 ∧ S1.2.2.2 = S.2.2.2) ∧ ((∃ (e : Int) (kf : Nat), (1 ≤ e ∧ e ≤ 6) ∧ kf ≤ M ∧ cB S1 M e (plT f n kf) ∧ ∀ Sr, jR f n t Sr 0 0 0 (fun _ => (0, 0, 0)) 0 (fun _ => (0, 0)) 0 → ∃ Sr', lX12_readText N N Sr = some (Int32.ofInt e, Sr') ∧ atT Sr' f n kf ∧ Fw t Sr Sr') ∨ (∃ (z' m' : Nat) (q' : qT) (la' lb' : lD) (r' : Nat) (c' : Nat → Int × Int), z' ≤ M ∧ r' ≤ M ∧ m' ≤ 24 ∧ (∀ j, j < m' → qG (q' j)) ∧ lwP 0 la' q' m' c' r' ∧ lwP 1 lb' q' m' c' r' ∧ jC f n M S1 M z' m' m' q' la' lb' ∧ ∀ Sr, jR f n t Sr 0 0 0 (fun _ => (0, 0, 0)) 0 (fun _ => (0, 0)) 0 → ∃ Sr', lX12_readText N N Sr = some (Int32.ofInt 0, Sr') ∧ jR f n t Sr' M m' m' q' r' c' (mkL la' lb') ∧ Fw t Sr Sr')) := by
  obtain ⟨M, g1, g2, g3, s1, s2, s3, s4, s5⟩ := c_scan hN h
  have hn := h.1
  have hg : tkG (kdT f n) (vlT f n) M := ⟨by omega, (kdT_rng M).2.2.1.mpr (by omega), fun j hj e => by have := (kdT_rng (f := f) (n := n) j).2.2.1.mp e; exact this (s4 j hj), fun j => ⟨(kdT_rng j).1, (kdT_rng j).2.1⟩, fun j => (kdT_rng j).2.2.2⟩
  obtain ⟨S9, hS9⟩ : ∃ X, X = ySi (ySi (ySi (ySi (ySi (ySi (ySi (pQ S g1 g2 g3 (M + 1)) 250 1 (Int32.ofInt 0)) 250 3 (Int32.ofInt 0)) 250 4 (Int32.ofInt (-1))) 250 7 (Int32.ofInt 0)) 250 8 (Int32.ofInt (-1))) 250 10 (Int32.ofInt (-1))) 250 15 (Int32.ofInt 0) := ⟨_, rfl⟩
  have o9 : ∀ i, i ≠ 250 → S9.1 i = (pQ S g1 g2 g3 (M + 1)).1 i := fun i hi => by rw [hS9, fld_o hi, fld_o hi, fld_o hi, fld_o hi, fld_o hi, fld_o hi, fld_o hi]
  have a9 : S9.2 = (pQ S g1 g2 g3 (M + 1)).2 := by rw [hS9]; rfl
  have t9 : tkC S9 (kdT f n) (vlT f n) (plT f n) M := by
    refine ⟨by rw [o9 251 (by omega), pQ_n], fun j hj => ?_⟩
    obtain ⟨u1, u2, u3⟩ := s5 j (by omega)
    rw [a9]
    unfold pQ
    rw [ySi_2, ySa_ne _ _ (show 253 ≠ 255 by omega), ySa_ne _ _ (show 253 ≠ 254 by omega), ySa_at, ySa_ne _ _ (show 254 ≠ 255 by omega), ySa_at, ySa_at]
    exact ⟨u1, u2, u3⟩
  have c9 : cS S9 0 0 := by
    rw [hS9]
    refine ⟨?_, ⟨?_, ?_⟩, ?_⟩
    · rw [fld_ne (by omega), fld_ne (by omega), fld_ne (by omega), fld_ne (by omega), fld_ne (by omega), fld_ne (by omega), fld_at]; rfl
    · rw [fld_ne (by omega), fld_ne (by omega), fld_ne (by omega), fld_ne (by omega), fld_ne (by omega), fld_at]
    · rw [fld_ne (by omega), fld_ne (by omega), fld_ne (by omega), fld_ne (by omega), fld_at]
    · rw [fld_ne (by omega), fld_ne (by omega), fld_ne (by omega), fld_at]; rfl
  have j9 : jC f n M S9 0 0 0 0 (fun _ => (0, 0, 0)) none none := by
    refine ⟨t9, c9, by rw [hS9, fld_at]; rfl, fun j hj => by omega, ?_, ?_⟩
    · show S9.1 250 8 = _
      rw [hS9, fld_ne (by omega), fld_ne (by omega), fld_at]
    · show S9.1 250 10 = _
      rw [hS9, fld_ne (by omega), fld_at]
  have hl : ∀ s : Nat, lwP s none (fun _ => (0, 0, 0)) 0 (fun _ => (0, 0)) 0 := fun s j hj => by omega
  obtain ⟨S1, a1, a2, a3⟩ := tp_loop (t := t) hN ht4 hn s1 s3 hg M N N S9 0 0 0 (fun _ => (0, 0, 0)) none none 0 (fun _ => (0, 0)) (by omega) (by omega) (by omega) (by omega) (by omega) (by omega) (by omega) (fun j hj => by omega) (hl 0) (hl 1) j9
  refine ⟨M, S1, s1, hg, ?_, ⟨fun i i1 i2 => ?_, fun j hj => ?_, fun i hi => ?_, ?_, ?_⟩, a3⟩
  · unfold fX5_readTape
    refine h_bind s2 (h_pst (h_pst (h_pst (h_pst (h_pst (h_pst (h_pst ?_)))))))
    rw [← hS9]
    exact a1
  · rw [a2.1 i i1, o9 i i1]
    unfold pQ
    rw [fld_o i2]; rfl
  · rw [a2.1 251 (by omega), o9 251 (by omega)]
    unfold pQ
    rw [fld_ne hj]; rfl
  · rw [a2.2.1 i (by omega), a9]
    unfold pQ
    rw [ySi_2, ySa_ne _ _ (by omega), ySa_ne _ _ (by omega), ySa_ne _ _ (by omega)]
  · rw [a2.2.2.1, a9]; rfl
  · rw [a2.2.2.2, a9]; rfl
end TAP
