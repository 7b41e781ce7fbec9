/-! ===== text(): a text that came; both sides ===== -/
section TXU
variable {f : Nat → Int} {n t N M : Nat} {S S' : yS} {T : yK}
theorem lw_tt {S1 Y : yS} {o z m r s cf ct : Nat} {q : qT} {l : lD} {c : Nat → Int × Int} {k' : Nat} {mq : Int} (hz : z ≤ 300) (hr : r ≤ 300) (hcf : S'.1 o cf = S1.1 250 (8 + 2 * s)) (hct : S'.1 o ct = S1.1 250 (9 + 2 * s)) (hx : lwX S1 s l z) (hp : lwP s l q m c r) (hq : ∀ j, j < m → qG (q j)) (hY : jR f n t Y k' m m q r c mq) (hs : s ≤ 1) (h268 : S'.2.2.1 268 = Y.2.2.1 268) (ha1 : ∀ j, j < z → S'.2.2.1 (o + 1) j = S1.2.2.1 256 j) (ha2 : ∀ j, j < z → S'.2.2.1 (o + 2) j = S1.2.2.1 257 j) : lwR S' o t m z s cf ct := by
  obtain ⟨y1, y2, y3, y4, y5, y6, y7, y8⟩ := hY
  have row0 : ∀ j, j < m → rv S' 268 (681 * t + 1 + 3 * j) = (q j).1 := fun j hj => by
    have := (hq j hj).1
    unfold rv
    rw [h268, (y7 j hj).1, i_toInt (by omega) (by omega)]
  cases l with
  | none =>
    have hx : S1.1 250 (8 + 2 * s) = Int32.ofInt (-1) := hx
    have hp : ∀ j, j < m → (q j).1 ≠ (s : Int) := hp
    exact Or.inl ⟨by rw [hcf]; exact hx, fun k hk => by rw [row0 k hk]; exact hp k hk⟩
  | some a =>
    obtain ⟨k0, w⟩ := a
    obtain ⟨i, j, x1, x2, x3, x4⟩ := hx
    obtain ⟨p1, p2, p3, i', j', p4, p5, p6⟩ := hp
    have ij := p6.1
    refine Or.inr ⟨k0, i, j, i', j', w, p1, by rw [row0 k0 p1]; exact p2, fun k hk => by rw [row0 k (by omega)]; exact p3 k hk, by rw [hcf]; exact x1, by rw [hct]; exact x2, x3, frC_congr x4 (fun k _ hk => ?_), ?_, ?_, by omega, frV_congr p6 (fun k _ hk => ?_)⟩
    · unfold cdC cdX rv
      rw [ha1 k (by omega), ha2 k (by omega)]
    · unfold rv
      rw [h268, (y7 k0 p1).2.1, p4, i_toInt (by dsimp only; omega) (by dsimp only; omega)]
    · unfold rv
      rw [h268, (y7 k0 p1).2.2 (by omega), p4, i_toInt (by dsimp only; omega) (by dsimp only; omega)]
    · rw [← y8 k (by omega)]
      unfold cdR rv
      rw [h268]
theorem Rel_tt {S1 Y : yS} {o z m r : Nat} {q : qT} {la lb : lD} {c : Nat → Int × Int} {k' : Nat} {mq : Int} (h : Rel T S) (ht : rv S 266 1 = (t : Int)) (ht4 : t < 4) (hF : Ft t S S') (h18 : ∀ j, j ≠ 8 → S'.1 18 j = S.1 18 j) (h188 : S'.1 18 8 = Int32.ofInt ((t + 1 : Nat) : Int)) (h266 : ∀ k, k ≠ 1 → S'.2.2.1 266 k = S.2.2.1 266 k) (h2661 : S'.2.2.1 266 1 = Int32.ofInt ((t + 1 : Nat) : Int)) (h118 : S'.2.2.2.2 118 t = some o) (h118' : ∀ k, k ≠ t → S'.2.2.2.2 118 k = S.2.2.2.2 118 k) (ho : 281 ≤ o) (hT : ∀ j, o ≤ j → T j = none) (hb1 : ∀ i, 281 ≤ i → i ≠ o → S'.1 i = S.1 i) (hb2 : ∀ i, 281 ≤ i → ¬ (o + 1 ≤ i ∧ i ≤ o + 5) → S'.2.2.1 i = S.2.2.1 i) (hp : tpR S') (hf : flR S') (hz : z ≤ 300) (hr : r ≤ 300) (hm : m ≤ 24) (hC : jC f n M S1 M z m m q la lb) (hY : jR f n t Y k' m m q r c mq) (h268 : S'.2.2.1 268 = Y.2.2.1 268) (hq : ∀ j, j < m → qG (q j)) (p0 : lwP 0 la q m c r) (p1 : lwP 1 lb q m c r) (ho2 : S'.1 o 2 = S1.1 250 8) (ho3 : S'.1 o 3 = S1.1 250 9) (ho4 : S'.1 o 4 = S1.1 250 10) (ho5 : S'.1 o 5 = S1.1 250 11) (ha1 : ∀ j, j < z → S'.2.2.1 (o + 1) j = S1.2.2.1 256 j) (ha2 : ∀ j, j < z → S'.2.2.1 (o + 2) j = S1.2.2.1 257 j) (ha3 : ∀ j, j < m → S'.2.2.1 (o + 3) j = S1.2.2.1 258 j) (ha4 : ∀ j, j < m → S'.2.2.1 (o + 4) j = S1.2.2.1 259 j) (ha5 : ∀ j, j < m → S'.2.2.1 (o + 5) j = S1.2.2.1 260 j) : Rel (tT T o z m) S' := by
  obtain ⟨c0, c1, r0, r1, -, -, x1, ⟨oo, x2, x3⟩, x4, x5⟩ := h
  obtain ⟨f1, f2, f3, f4⟩ := hF
  have e61 : rv S' 266 1 = ((t + 1 : Nat) : Int) := by unfold rv; rw [h2661, i_toInt (by omega) (by omega)]
  have eA : ∀ k, k ≠ 1 → rv S' 266 k = rv S 266 k := fun k hk => by unfold rv; rw [h266 k hk]
  have e7 : rv S' 267 = rv S 267 := rv_congr (f2 267 (by omega) (by omega) (by omega) (by omega) (by omega))
  have key : ∀ a, yTx T a = true → yTx (tT T o z m) a = true := fun a ha => yTx_c ha (fun i hi => tT_lt (yTx_lt ha hT) hi)
  have keyN : ∀ x, oN T x → oN (tT T o z m) x := fun x hx => by
    rcases hx with hx | ⟨a, hx, ha⟩
    · exact Or.inl hx
    · exact Or.inr ⟨a, hx, key a ha⟩
  have newT : yTx (tT T o z m) o = true := yTx_tT ho
  obtain ⟨j1, j2, j3, j4, j5, j6⟩ := id hC
  obtain ⟨y1, y2, y3, y4, y5, y6, y7, y8⟩ := id hY
  have txn : tx (tT T o z m) S' o t := by
    refine ⟨m, z, hm, hz, ⟨?_, ?_, ?_, ?_, ?_⟩, ?_, fun k hk => ?_, lw_tt (Y := Y) hz hr ho2 ho3 j5 p0 hq hY (by omega) h268 ha1 ha2, lw_tt (Y := Y) hz hr ho4 ho5 j6 p1 hq hY (by omega) h268 ha1 ha2⟩
    · unfold tLn tT; rw [if_neg (by omega), if_pos (Or.inl rfl)]
    · unfold tLn tT; rw [if_neg (by omega), if_pos (Or.inr rfl)]
    · unfold tLn tT; rw [if_neg (by omega), if_neg (by omega), if_pos (Or.inl rfl)]
    · unfold tLn tT; rw [if_neg (by omega), if_neg (by omega), if_pos (Or.inr (Or.inl rfl))]
    · unfold tLn tT; rw [if_neg (by omega), if_neg (by omega), if_pos (Or.inr (Or.inr rfl))]
    · unfold rv; rw [h268, y6, i_toInt (by omega) (by omega)]
    · obtain ⟨q1, q2, q3⟩ := hq k hk
      obtain ⟨u1, u2, u3⟩ := j4 k hk
      obtain ⟨v1, v2, v3⟩ := y7 k hk
      have vr : 0 ≤ vbC (q k).1 ∧ vbC (q k).1 ≤ 23 := by
        unfold vbC
        repeat' split
        all_goals omega
      refine ⟨(q k).1, if 2 ≤ (q k).1 then (q k).2.1 else 0, q1.1, q1.2, ?_, ?_, ?_, ?_, fun e2 => ?_, fun e2 => ?_⟩
      · split
        · rename_i e; exact (q2 e).1
        · omega
      · split
        · rename_i e; exact (q2 e).2.1
        · omega
      · unfold rv; rw [h268, v1, i_toInt (by omega) (by omega)]
      · unfold rv; rw [ha3 k hk, u1, i_toInt (by omega) (by omega)]
      · obtain ⟨g1, g2, g3⟩ := q2 e2
        rw [if_pos e2]
        refine ⟨?_, ?_, g3⟩
        · unfold rv; rw [h268, v2, i_toInt (by omega) (by omega)]
        · unfold rv; rw [ha4 k hk, u2 e2, i_toInt (by omega) (by omega)]
      · obtain ⟨g1, g2⟩ := q3 e2
        have e5 : rv S' (o + 5) k = (q k).2.2 := by unfold rv; rw [ha5 k hk, u3 e2, i_toInt (by omega) (by omega)]
        rw [e5]
        refine ⟨?_, g1, g2⟩
        unfold rv; rw [h268, v3 (by omega), i_toInt (by omega) (by omega)]
  refine ⟨cR_t c0 r0 (fun i a b => f1 i (by omega) (by omega) (by omega) (by omega) (by omega) (by omega)) h18 (by rw [h188, e61]) (fun i a b => f2 i (by omega) (by omega) (by omega) (by omega) (by omega)) (f4 23 (by omega)) eA, ?_, rI_t r0 eA (by rw [e61, ht]; omega), by rw [e7]; exact r1, hp, hf, ?_⟩
  · rw [e7]
    exact cR_frame c1 r1 (fun i a b => f1 i (by omega) (by omega) (by omega) (by omega) (by omega) (by omega)) (fun i a b c => f2 i (by omega) (by omega) (by omega) (by omega) (by omega)) (f4 138 (by omega))
  · unfold txR
    rw [e61, e7]
    refine ⟨by rw [ht] at x1; omega, ⟨fun x => if x = t then o else oo x, fun t' ht' => ?_, fun t' ht' => ?_⟩, fun t' ht' => ?_, fun t' ht' => ?_⟩
    · dsimp only
      by_cases e : t' = t
      · rw [e, if_pos rfl]
        exact ⟨h118, newT, txn⟩
      · rw [if_neg e]
        obtain ⟨b1, b2, b3⟩ := x2 t' (by omega)
        have hl := (yTx_K b2).2.2.2.2.2.2
        have hlt := yTx_lt b2 hT
        exact ⟨by rw [h118' t' e]; exact b1, key _ b2, tx_congr b3 (fun i _ hi => tT_lt hlt hi) (hb1 _ hl (by omega)) (fun i _ hi => hb2 _ (by omega) (by omega)) (fun k k1 k2 => f3 k (by omega))⟩
    · dsimp only
      rw [if_neg (by rw [ht] at x1; omega), f4 233 (by omega)]
      exact x3 t' ht'
    · by_cases e : t' = t
      · rw [e, h118]; exact Or.inr ⟨o, rfl, newT⟩
      · rw [h118' t' e]; exact keyN _ (x4 t' ht')
    · rw [f4 233 (by omega)]; exact keyN _ (x5 t' ht')
theorem r_txF (h4 : S.2.2.1 266 1 = Int32.ofInt (t : Int)) (ht4 : t < 4) {e : Int} {S2 : yS} (he : 1 ≤ e ∧ e ≤ 6) (h : fX12_readText N S = some (Int32.ofInt e, S2)) : fX12_text N S = some (Int32.ofInt (-1), ySi (ySi (ySi S2 265 5 (Int32.ofInt e)) 265 6 (S2.1 265 8)) 265 4 (Int32.ofInt 0)) := by
  unfold fX12_text
  rw [h4]
  refine h_pos (by first | omega | ((simp (disch := omega) only [i0, i1, i_lt, i_le, i_eq, i_add, i_sub, i_mul, i_neg, i_ofNat, i_rem, i_div, w_in, w_in2, w_cnt, w_cnt2, z01, z01', il, li, lc_ge, lc_le, lc_gt, lc_lt, lc_eq, l_ofNat, l0, l_eq, l_lt, l_le]) <;> omega)) (h_bind h ?_)
  dsimp only
  refine h_pst ?_
  rw [fld_at, fld_ne (show 8 ≠ 5 by omega)]
  refine h_pos (by first | omega | ((simp (disch := omega) only [i0, i1, i_lt, i_le, i_eq, i_add, i_sub, i_mul, i_neg, i_ofNat, i_rem, i_div, w_in, w_in2, w_cnt, w_cnt2, z01, z01', il, li, lc_ge, lc_le, lc_gt, lc_lt, lc_eq, l_ofNat, l0, l_eq, l_lt, l_le]) <;> omega)) (h_pst (h_pst ?_))
  rw [fld_ne (show 5 ≠ 4 by omega), fld_ne (show 5 ≠ 6 by omega), fld_at]
  exact h_neg (by first | omega | ((simp (disch := omega) only [i0, i1, i_lt, i_le, i_eq, i_add, i_sub, i_mul, i_neg, i_ofNat, i_rem, i_div, w_in, w_in2, w_cnt, w_cnt2, z01, z01', il, li, lc_ge, lc_le, lc_gt, lc_lt, lc_eq, l_ofNat, l0, l_eq, l_lt, l_le]) <;> omega)) rfl
theorem r_txT (h4 : S.2.2.1 266 1 = Int32.ofInt (t : Int)) (ht4 : t < 4) {S2 : yS} (h5 : S2.2.2.1 266 1 = Int32.ofInt (t : Int)) (h : fX12_readText N S = some (Int32.ofInt 0, S2)) : fX12_text N S = some (Int32.ofInt (t : Int), ySa (ySi (ySi (ySi S2 265 5 (Int32.ofInt 0)) 265 6 (Int32.ofInt (-1))) 265 4 (Int32.ofInt 0)) 266 (upd (S2.2.2.1 266) 1 (Int32.ofInt ((t + 1 : Nat) : Int)))) := by
  unfold fX12_text
  rw [h4]
  refine h_pos (by first | omega | ((simp (disch := omega) only [i0, i1, i_lt, i_le, i_eq, i_add, i_sub, i_mul, i_neg, i_ofNat, i_rem, i_div, w_in, w_in2, w_cnt, w_cnt2, z01, z01', il, li, lc_ge, lc_le, lc_gt, lc_lt, lc_eq, l_ofNat, l0, l_eq, l_lt, l_le]) <;> omega)) (h_bind h ?_)
  dsimp only
  refine h_pst ?_
  rw [fld_at]
  refine h_neg (by decide) (h_pst (h_pst ?_))
  rw [fld_ne (show 5 ≠ 4 by omega), fld_ne (show 5 ≠ 6 by omega), fld_at]
  refine h_pos rfl (h_pst ?_)
  rw [ySa_at, ySi_2, ySi_2, ySi_2, h5, upd_at, i_add, i_sub, show (t : Int) + 1 - 1 = (t : Int) by omega, show (t : Int) + 1 = ((t + 1 : Nat) : Int) by omega]
/-- text(), by both -/
theorem pm_text (hN : 2000000 ≤ N) (h : Rel T S) : (¬ S.1 18 8 < Int32.ofInt 4 ∧ ∃ S2, fX12_text N S = some (Int32.ofInt (-1), S2) ∧ Rel T S2) ∨ (S.1 18 8 < Int32.ofInt 4 ∧ ∃ S1, fX5_readTape N S = some S1 ∧ ¬ S1.1 250 3 = 0 ∧ ∃ S2, fX12_text N (txE S1) = some (Int32.ofInt (-1), S2) ∧ Rel T S2) ∨ (S.1 18 8 < Int32.ofInt 4 ∧ ∃ (S1 : yS) (sz cl : Nat), fX5_readTape N S = some S1 ∧ S1.1 250 3 = 0 ∧ (S1.1 250 7).toInt = sz ∧ sz ≤ 300 ∧ (S1.1 250 15).toInt = cl ∧ cl ≤ 24 ∧ ¬ S1.1 18 8 < 0 ∧ S1.1 18 8 < Int32.ofInt 4 ∧ ∀ (o : Nat) (g1 g2 g3 g4 g5 : Nat → Int32), 281 ≤ o → (∀ j, o ≤ j → T j = none) → (∀ j, j < sz → g1 j = S1.2.2.1 256 j) → (∀ j, j < sz → g2 j = S1.2.2.1 257 j) → (∀ j, j < cl → g3 j = S1.2.2.1 258 j) → (∀ j, j < cl → g4 j = S1.2.2.1 259 j) → (∀ j, j < cl → g5 j = S1.2.2.1 260 j) → ∃ S2, fX12_text N (txA (txE (tS S1 o g1 g2 g3 g4 g5)) o) = some (S1.1 18 8 + Int32.ofInt 1 - Int32.ofInt 1, S2) ∧ Rel (tT T o sz cl) S2) := by
  have i1 := R_i1 h
  obtain ⟨t, ht⟩ : ∃ t : Nat, rv S 266 1 = (t : Int) := ⟨(rv S 266 1).toNat, by omega⟩
  have e18 : S.1 18 8 = Int32.ofInt (t : Int) := by have := h.1.1.2.1; rw [ht] at this; exact this
  have e266 : S.2.2.1 266 1 = Int32.ofInt (t : Int) := by rw [rv_eq S 266 1, ht]
  by_cases t4 : t = 4
  · left
    refine ⟨by rw [e18, t4]; decide, S, ?_, h⟩
    unfold fX12_text
    rw [e266, t4]
    exact h_neg (by decide) rfl
  have ht4 : t < 4 := by omega
  have lt4 : S.1 18 8 < Int32.ofInt 4 := by rw [e18]; first | omega | ((simp (disch := omega) only [i0, i1, i_lt, i_le, i_eq, i_add, i_sub, i_mul, i_neg, i_ofNat, i_rem, i_div, w_in, w_in2, w_cnt, w_cnt2, z01, z01', il, li, lc_ge, lc_le, lc_gt, lc_lt, lc_eq, l_ofNat, l0, l_eq, l_lt, l_le]) <;> omega)
  right
  obtain ⟨n, hn, n1, n2, n3⟩ := h.2.2.2.2.1
  have hsc : scG S (rv S 252) n := ⟨hn, n1, fun k _ => rv_eq S 252 k, fun k hk => (n3 k hk).2⟩
  obtain ⟨M, S1, hM, hg, a1, ⟨f1, f2, f3, f4, f5⟩, a3⟩ := tape_step (t := t) hN ht4 hsc
  have hM3 := hg.1
  have rtg : ∀ X : yS, X.1 265 = S.1 265 → X.2.2.1 269 = S.2.2.1 269 → rtG X (rv S 252) n := fun X x1 x2 => ⟨hn, by rw [x1]; exact n2, fun k hk => by rw [x2, ← (n3 k hk).1]; exact rv_eq S 252 k, fun k hk => (n3 k hk).2⟩
  rcases a3 with ⟨e, kf, b1, b2, b3, b4⟩ | ⟨z, m, q, la, lb, r, c, b1, b2, b3, b4, b5, b6, b7, b8⟩
  · left
    refine ⟨lt4, S1, a1, ?_, ?_⟩
    · rw [b3.2.1]
      intro x
      have x : Int32.ofInt e = Int32.ofInt 0 := x
      have y : (Int32.ofInt e = Int32.ofInt 0) = (e = 0) := i_eq (by omega) (by omega) (by omega) (by omega)
      rw [y] at x
      omega
    have hE : ∀ i, i ≠ 16 → i ≠ 251 → (txE S1).1 i = S1.1 i := fun i q1 q2 => by
      unfold txE txE2 txE1
      rw [fld_o q1, fld_o q1, fld_o q2]
    have hE2 : (txE S1).2 = S1.2 := rfl
    have r0 := rtg (txE S1) (by rw [hE 265 (by omega) (by omega), f1 265 (by omega) (by omega)]) (by rw [hE2, f3 269 (by omega)])
    have r66 : (txE S1).2.2.1 266 1 = Int32.ofInt (t : Int) := by rw [hE2, f3 266 (by omega)]; exact e266
    obtain ⟨S7, g1, g2, g3⟩ := q_rtI hN ht4 r0 r66
    obtain ⟨S8, k1, k2, k3⟩ := b4 S7 g2
    have fw := Fw_trans g3 k3
    have e8 : S8.1 265 8 = Int32.ofInt ((psT (rv S 252) n kf : Nat) : Int) := k2.1
    refine ⟨_, r_txF r66 ht4 b1 (g1 k1), ?_⟩
    have o1 : ∀ i, i ≠ 265 → (ySi (ySi (ySi S8 265 5 (Int32.ofInt e)) 265 6 (S8.1 265 8)) 265 4 (Int32.ofInt 0)).1 i = (txE S1).1 i := fun i hi => by rw [fld_o hi, fld_o hi, fld_o hi, fw.1 i hi]
    refine Rel_tf (t := t) h ht ⟨fun i q0 q1 q2 q3 q4 q5 => ?_, fun i q0 q1 q2 q3 q4 => ?_, fun k hk => ?_, fun i hi => ?_⟩ ?_ ?_ ?_ (fun i hi => ?_) (fun i hi => ?_) (tpR_0 ?_ fld_at) ⟨?_, ?_, ?_⟩
    · rw [o1 i q5, hE i q1 q4, f1 i q3 q4]
    · rw [ySi_2, ySi_2, ySi_2, fw.2.2.1 i q3 q4, hE2, f3 i q1]
    · rw [ySi_2, ySi_2, ySi_2, fw.2.2.2.1 k hk, hE2, f3 268 (by omega)]
    · rw [ySi_2, ySi_2, ySi_2, fw.2.2.2.2, hE2, f5]
    · rw [o1 18 (by omega), hE 18 (by omega) (by omega), f1 18 (by omega) (by omega)]
    · rw [ySi_2, ySi_2, ySi_2, fw.2.2.1 266 (by omega) (by omega), hE2, f3 266 (by omega)]
    · rw [ySi_2, ySi_2, ySi_2, fw.2.2.2.2, hE2, f5]
    · rw [o1 i (by omega), hE i (by omega) (by omega), f1 i (by omega) (by omega)]
    · rw [ySi_2, ySi_2, ySi_2, fw.2.2.1 i (by omega) (by omega), hE2, f3 i (by omega)]
    · rw [o1 251 (by omega)]
      unfold txE txE2 txE1
      rw [fld_o (by omega), fld_o (by omega), fld_at]
    · rw [o1 16 (by omega), fld_ne (by omega), fld_ne (by omega), fld_at]
      unfold txE txE2
      rw [fld_ne (by omega), fld_at]
      unfold txE1
      rw [fld_o (by omega)]; exact b3.2.1
    · rw [o1 16 (by omega), fld_ne (by omega), fld_at, e8]
      unfold txE
      rw [fld_at]
      unfold txE2 txE1
      rw [fld_o (by omega), fld_o (by omega)]; exact b3.2.2.1
    · rw [fld_ne (by omega), fld_ne (by omega), fld_ne (by omega), fw.2.1 23 (by omega) (by omega), hE 265 (by omega) (by omega), f1 265 (by omega) (by omega)]; exact h.2.2.2.2.2.1.2.2
  · right
    obtain ⟨j1, j2, j3, j4, j5, j6⟩ := id b7
    have s18 : S1.1 18 = S.1 18 := f1 18 (by omega) (by omega)
    refine ⟨lt4, S1, z, m, a1, j2.2.1.1, by rw [j2.2.2, i_toInt (by omega) (by omega)], by omega, by rw [j3, i_toInt (by omega) (by omega)], b3, by rw [s18, e18]; first | omega | ((simp (disch := omega) only [i0, i1, i_lt, i_le, i_eq, i_add, i_sub, i_mul, i_neg, i_ofNat, i_rem, i_div, w_in, w_in2, w_cnt, w_cnt2, z01, z01', il, li, lc_ge, lc_le, lc_gt, lc_lt, lc_eq, l_ofNat, l0, l_eq, l_lt, l_le]) <;> omega), by rw [s18]; exact lt4, fun o u1 u2 u3 u4 u5 ho hT v1 v2 v3 v4 v5 => ?_⟩
    obtain ⟨X, hX⟩ : ∃ X, X = txA (txE (tS S1 o u1 u2 u3 u4 u5)) o := ⟨_, rfl⟩
    rw [← hX]
    have tS1 : ∀ i, i ≠ o → (tS S1 o u1 u2 u3 u4 u5).1 i = S1.1 i := fun i hi => yU_ne hi
    have tE1 : ∀ (Q : yS) i, i ≠ 16 → i ≠ 251 → (txE Q).1 i = Q.1 i := fun Q i q1 q2 => by
      unfold txE txE2 txE1
      rw [fld_o q1, fld_o q1, fld_o q2]
    have tE2 : ∀ Q : yS, (txE Q).2 = Q.2 := fun Q => rfl
    have tA1 : ∀ (Q : yS) i, i ≠ 18 → (txA Q o).1 i = Q.1 i := fun Q i q1 => by
      unfold txA
      rw [fld_o q1]; rfl
    have tA2 : ∀ Q : yS, (txA Q o).2.2.1 = Q.2.2.1 := fun Q => rfl
    have x1 : ∀ i, i ≠ o → i ≠ 16 → i ≠ 18 → i ≠ 251 → X.1 i = S1.1 i := fun i q0 q1 q2 q3 => by rw [hX, tA1 _ i q2, tE1 _ i q1 q3, tS1 i q0]
    have xo : X.1 o = tF S1 o := by
      rw [hX, tA1 _ o (by omega), tE1 _ o (by omega) (by omega)]
      exact yU_eq
    have x188 : (txE (tS S1 o u1 u2 u3 u4 u5)).1 18 8 = Int32.ofInt (t : Int) := by rw [tE1 _ 18 (by omega) (by omega), tS1 18 (by omega), s18]; exact e18
    have xa : ∀ i, ¬ (o + 1 ≤ i ∧ i ≤ o + 5) → X.2.2.1 i = S1.2.2.1 i := fun i hi => by
      rw [hX, tA2, tE2]
      show yU (yU (yU (yU (yU S1.2.2.1 (o + 1) u1) (o + 2) u2) (o + 3) u3) (o + 4) u4) (o + 5) u5 i = _
      rw [yU_ne (by omega), yU_ne (by omega), yU_ne (by omega), yU_ne (by omega), yU_ne (by omega)]
    have r0 := rtg X (by rw [x1 265 (by omega) (by omega) (by omega) (by omega), f1 265 (by omega) (by omega)]) (by rw [xa 269 (by omega), f3 269 (by omega)])
    have r66 : X.2.2.1 266 1 = Int32.ofInt (t : Int) := by rw [xa 266 (by omega), f3 266 (by omega)]; exact e266
    obtain ⟨S7, g1, g2, g3⟩ := q_rtI hN ht4 r0 r66
    obtain ⟨S8, k1, k2, k3⟩ := b8 S7 g2
    have fw := Fw_trans g3 k3
    have r66' : S8.2.2.1 266 1 = Int32.ofInt (t : Int) := by rw [fw.2.2.1 266 (by omega) (by omega)]; exact r66
    refine ⟨_, by rw [s18, e18, i_add, i_sub, show (t : Int) + 1 - 1 = (t : Int) by omega]; exact r_txT r66 ht4 r66' (g1 k1), ?_⟩
    obtain ⟨W, hW⟩ : ∃ W, W = ySa (ySi (ySi (ySi S8 265 5 (Int32.ofInt 0)) 265 6 (Int32.ofInt (-1))) 265 4 (Int32.ofInt 0)) 266 (upd (S8.2.2.1 266) 1 (Int32.ofInt ((t + 1 : Nat) : Int))) := ⟨_, rfl⟩
    rw [← hW]
    have w1 : ∀ i, i ≠ 265 → W.1 i = X.1 i := fun i hi => by rw [hW, ySa_1, fld_o hi, fld_o hi, fld_o hi, fw.1 i hi]
    have wa : ∀ i, i ≠ 266 → W.2.2.1 i = S8.2.2.1 i := fun i hi => by rw [hW, ySa_ne _ _ hi, ySi_2, ySi_2, ySi_2]
    have wq : W.2.2.2 = X.2.2.2 := by
      rw [hW]
      show S8.2.2.2 = _
      exact fw.2.2.2.2
    have wn : ∀ i, i < 281 → ¬ (253 ≤ i ∧ i ≤ 260) → i ≠ 266 → i ≠ 268 → i ≠ 270 → W.2.2.1 i = S.2.2.1 i := fun i q0 q1 q2 q3 q4 => by rw [wa i q2, fw.2.2.1 i q3 q4, xa i (by omega), f3 i q1]
    have wf : ∀ i, i ≠ 265 → i ≠ o → i ≠ 16 → i ≠ 18 → i ≠ 250 → i ≠ 251 → W.1 i = S.1 i := fun i q0 q1 q2 q3 q4 q5 => by rw [w1 i q0, x1 i q1 q2 q3 q5, f1 i q4 q5]
    have wo : ∀ i, 281 ≤ i → W.2.2.1 i = X.2.2.1 i := fun i hi => by rw [wa i (by omega), fw.2.2.1 i (by omega) (by omega)]
    have xarr : X.2.2.1 = yU (yU (yU (yU (yU S1.2.2.1 (o + 1) u1) (o + 2) u2) (o + 3) u3) (o + 4) u4) (o + 5) u5 := by rw [hX]; rfl
    have xref : X.2.2.2.2 = yU S.2.2.2.2 118 (va_up (S.2.2.2.2 118) t (some o)) := by
      have e1 : X.2.2.2.2 = yU (S1.2.2.2.2) 118 (va_up (S1.2.2.2.2 118) ((txE (tS S1 o u1 u2 u3 u4 u5)).1 18 8).toNatClampNeg (some o)) := by rw [hX]; rfl
      rw [e1, x188, f5]
      congr 2
      have : ((Int32.ofInt (t : Int)).toNatClampNeg : Int) = (Int32.ofInt (t : Int)).toInt := i32_nat (by first | omega | ((simp (disch := omega) only [i0, i1, i_lt, i_le, i_eq, i_add, i_sub, i_mul, i_neg, i_ofNat, i_rem, i_div, w_in, w_in2, w_cnt, w_cnt2, z01, z01', il, li, lc_ge, lc_le, lc_gt, lc_lt, lc_eq, l_ofNat, l0, l_eq, l_lt, l_le]) <;> omega))
      rw [i_toInt (by omega) (by omega)] at this
      omega
    refine Rel_tt (S1 := S1) (Y := S8) h ht ht4 ⟨fun i q0 q1 q2 q3 q4 q5 => wf i q5 (by omega) q1 q2 q3 q4, wn, fun k hk => ?_, fun i hi => ?_⟩ (fun j hj => ?_) ?_ (fun k hk => ?_) ?_ ?_ (fun k hk => ?_) ho hT (fun i hi q1 => wf i (by omega) q1 (by omega) (by omega) (by omega) (by omega)) (fun i hi q1 => ?_) (tpR_0 ?_ ?_) ⟨?_, ?_, ?_⟩ (by omega) (by omega) b3 b7 k2 (wa 268 (by omega)) b4 b5 b6 ?_ ?_ ?_ ?_ (fun j hj => ?_) (fun j hj => ?_) (fun j hj => ?_) (fun j hj => ?_) (fun j hj => ?_)
    · rw [wa 268 (by omega), fw.2.2.2.1 k hk, xa 268 (by omega), f3 268 (by omega)]
    · rw [wq, xref, yU_ne hi]
    · rw [w1 18 (by omega), hX]
      unfold txA
      rw [fld_ne hj]
      show (txE (tS S1 o u1 u2 u3 u4 u5)).1 18 j = _
      rw [tE1 _ 18 (by omega) (by omega), tS1 18 (by omega), s18]
    · rw [w1 18 (by omega), hX]
      unfold txA
      rw [fld_at, x188, i_add, show (t : Int) + 1 = ((t + 1 : Nat) : Int) by omega]
    · rw [hW, ySa_at, upd_ne hk, fw.2.2.1 266 (by omega) (by omega), xa 266 (by omega), f3 266 (by omega)]
    · rw [hW, ySa_at, upd_at]
    · rw [wq, xref, yU_eq]; exact if_pos rfl
    · rw [wq, xref, yU_eq]; exact if_neg hk
    · rw [wo i hi, xa i q1, f3 i (by omega)]
    · rw [w1 251 (by omega), hX, tA1 _ 251 (by omega)]
      unfold txE txE2 txE1
      rw [fld_o (by omega), fld_o (by omega), fld_at]
    · rw [hW, ySa_1, fld_at]
    · rw [w1 16 (by omega), hX, tA1 _ 16 (by omega), hW, ySa_1, fld_ne (by omega), fld_ne (by omega), fld_at]
      unfold txE txE2
      rw [fld_ne (by omega), fld_at]
      unfold txE1
      rw [fld_o (by omega), tS1 250 (by omega)]; exact j2.2.1.1
    · rw [w1 16 (by omega), hX, tA1 _ 16 (by omega), hW, ySa_1, fld_ne (by omega), fld_at]
      unfold txE
      rw [fld_at]
      unfold txE2 txE1
      rw [fld_o (by omega), fld_o (by omega), tS1 250 (by omega)]; exact j2.2.1.2
    · rw [hW, ySa_1, fld_ne (by omega), fld_ne (by omega), fld_ne (by omega), fw.2.1 23 (by omega) (by omega), x1 265 (by omega) (by omega) (by omega) (by omega), f1 265 (by omega) (by omega)]; exact h.2.2.2.2.2.1.2.2
    · rw [w1 o (by omega), xo]; rfl
    · rw [w1 o (by omega), xo]; rfl
    · rw [w1 o (by omega), xo]; rfl
    · rw [w1 o (by omega), xo]; rfl
    · rw [wo _ (by omega), xarr, yU_ne (by omega), yU_ne (by omega), yU_ne (by omega), yU_ne (by omega), yU_eq]; exact v1 j hj
    · rw [wo _ (by omega), xarr, yU_ne (by omega), yU_ne (by omega), yU_ne (by omega), yU_eq]; exact v2 j hj
    · rw [wo _ (by omega), xarr, yU_ne (by omega), yU_ne (by omega), yU_eq]; exact v3 j hj
    · rw [wo _ (by omega), xarr, yU_ne (by omega), yU_eq]; exact v4 j hj
    · rw [wo _ (by omega), xarr, yU_eq]; exact v5 j hj
end TXU
