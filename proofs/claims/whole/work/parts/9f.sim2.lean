/-! ===== the reference's loop is the machine ===== -/
/-- what the reading of a law may change of the reference -/
def Fu (t r : Nat) (S S' : yS) : Prop := (∀ i, i ≠ 265 → S'.1 i = S.1 i) ∧ (∀ j, ¬ (7 ≤ j ∧ j ≤ 10) → j ≠ 13 → ¬ (16 ≤ j ∧ j ≤ 18) → S'.1 265 j = S.1 265 j) ∧ (∀ i, i ≠ 268 → i ≠ 270 → S'.2.2.1 i = S.2.2.1 i) ∧ (∀ k, k < 681 * t + 73 + 2 * r ∨ 681 * t + 681 ≤ k → S'.2.2.1 268 k = S.2.2.1 268 k) ∧ S'.2.2.2 = S.2.2.2
theorem Fu_refl {t r : Nat} (S : yS) : Fu t r S S := ⟨fun _ _ => rfl, fun _ _ _ _ => rfl, fun _ _ _ => rfl, fun _ _ => rfl, rfl⟩
theorem Fu_trans {t r r' : Nat} {S S1 S2 : yS} (h1 : Fu t r S S1) (h2 : Fu t r' S1 S2) (h : r ≤ r') : Fu t r S S2 := ⟨fun i a => (h2.1 i a).trans (h1.1 i a), fun j a b c => (h2.2.1 j a b c).trans (h1.2.1 j a b c), fun i a b => (h2.2.2.1 i a b).trans (h1.2.2.1 i a b), fun k a => (h2.2.2.2.1 k (by omega)).trans (h1.2.2.2.1 k a), h2.2.2.2.2.trans h1.2.2.2.2⟩
theorem Fu_s {t r : Nat} {S S' : yS} (h : Fs t r S S') : Fu t r S S' := ⟨h.1, fun j a b c => h.2.1 j b (by omega) (by omega), fun i a _ => h.2.2.2.1 i a, h.2.2.2.2.1, h.2.2.2.2.2⟩
theorem Fu_k {t r : Nat} {S S' : yS} (h : Fk S S') : Fu t r S S' := ⟨h.1, fun j a _ _ => h.2.1 j a, fun i _ _ => by rw [h.2.2], fun k _ => by rw [h.2.2], by rw [h.2.2]⟩
theorem Fu_i {t r : Nat} {S : yS} {j : Nat} {v : Int32} (h : j = 13 ∨ 16 ≤ j ∧ j ≤ 18) : Fu t r S (ySi S 265 j v) := ⟨fun i a => fld_o a, fun k a b c => fld_ne (by omega), fun _ _ _ => rfl, fun _ _ => rfl, rfl⟩
theorem Fu_a {t r : Nat} {S : yS} {f : Nat → Int32} : Fu t r S (ySa S 270 f) := ⟨fun _ _ => rfl, fun _ _ _ _ => rfl, fun i a b => ySa_ne _ _ b, fun k _ => by rw [ySa_ne _ _ (by omega)], rfl⟩
section SIM
variable {S S' : yS} {f : Nat → Int} {n N t s : Nat} {z : uZ} {X : uX}
theorem tD_s' {kd vl : Int} (h : tD S kd vl) (h1 : S'.1 265 9 = S.1 265 9) (h2 : S'.1 265 10 = S.1 265 10) (h3 : S'.2.1 265 11 = S.2.1 265 11) : tD S' kd vl := by
  unfold tD at h ⊢
  rw [h1, h2, h3]
  exact h
theorem atT_s {k : Nat} (h : atT S f n k) (h7 : S'.1 265 7 = S.1 265 7) (h8 : S'.1 265 8 = S.1 265 8) (h1 : S'.1 265 9 = S.1 265 9) (h2 : S'.1 265 10 = S.1 265 10) (h3 : S'.2.1 265 11 = S.2.1 265 11) : atT S' f n k := by
  obtain ⟨a, b⟩ := h
  refine ⟨by rw [h8]; exact a, ?_⟩
  by_cases q : psT f n k < n
  · rw [if_pos q] at b ⊢
    exact ⟨by rw [h7]; exact b.1, tD_s' b.2 h1 h2 h3⟩
  · rw [if_neg q] at b ⊢
    exact ⟨by rw [h7]; exact b.1, tD_s' b.2 h1 h2 h3⟩
theorem atT_f {k r : Nat} (h : atT S f n k) (g : Fs t r S S') : atT S' f n k := atT_s h (g.2.1 7 (by omega) (by omega) (by omega)) (g.2.1 8 (by omega) (by omega) (by omega)) (g.2.1 9 (by omega) (by omega) (by omega)) (g.2.1 10 (by omega) (by omega) (by omega)) (by rw [g.2.2.1])
theorem rtG_f {r : Nat} (h : rtG S f n) (g : Fs t r S S') : rtG S' f n := ⟨h.1, by rw [g.2.1 4 (by omega) (by omega) (by omega)]; exact h.2.1, fun k hk => by rw [g.2.2.2.1 269 (by omega)]; exact h.2.2.1 k hk, h.2.2.2⟩
theorem rZ_k (h : rZ S t z) (g : Fk S S') : rZ S' t z := by
  obtain ⟨h1, h2, h3, h4, h5, h6⟩ := h
  refine ⟨by rw [g.2.1 12 (by omega)]; exact h1, by rw [g.2.1 16 (by omega)]; exact h2, by rw [g.2.2]; exact h3, by rw [g.2.1 17 (by omega)]; exact h4, by rw [g.2.1 13 (by omega)]; exact h5, fun j hj => ?_⟩
  rw [← h6 j hj]
  unfold cdR rv
  rw [g.2.2]
def rS (S : yS) (f : Nat → Int) (n t s : Nat) (X : uX) : Prop := rtG S f n ∧ atT S f n X.1 ∧ rZ S t X.2.2 ∧ S.1 265 18 = Int32.ofInt (if X.2.1 = true then 1 else 0) ∧ S.1 265 14 = Int32.ofInt (s : Int)
/-- one emitted, then whole -/
theorem q_whole (hN : 2000000 ≤ N) (ht : t < 4) (h : rS S f n t s X) (hi : inv X) (hk : psT f n X.1 < n) (hx : X.1 ≤ 300) {a b : Int} (ha : -2147483648 ≤ a ∧ a < 2147483648) (hb : -2147483648 ≤ b ∧ b < 2147483648) : ∃ S', ((fX12_emit (Int32.ofInt a) (Int32.ofInt b) S).bind fun S4 => (fX12_nextToken N S4).bind fun S6 => pSt (ySi S6 265 18 (Int32.ofInt 1)) fun S7 => (fX12_settle N (Int32.ofInt 7) S7).bind fun S9 => some ((Int32.ofInt 0), S9)) = some (Int32.ofInt 0, S') ∧ rS S' f n t s (X.1 + 1, true, stl 7 X.2.2.1 X.2.2.2.1 (cU X.2.2.2.2.1 X.2.2.2.2.2 (a, b)) (X.2.2.2.2.2 + 1)) ∧ Fu t X.2.2.2.2.2 S S' := by
  obtain ⟨h1, h2, h3, h4, h5⟩ := h
  have hl := inv_len hi
  obtain ⟨i1, i2, i3, i4⟩ := hi
  have hoc := ocn_nn X.2.2.1
  obtain ⟨S1, a1, a2, a3⟩ := q_emit h3 ht (by omega) ha hb
  obtain ⟨S2, b1, b2, b3⟩ := q_nextT hN (rtG_f h1 a3) hk (atT_f h2 a3)
  have z2 := rZ_k a2 b2
  have z3 : rZ (ySi S2 265 18 (Int32.ofInt 1)) t (X.2.2.1, X.2.2.2.1, cU X.2.2.2.2.1 X.2.2.2.2.2 (a, b), X.2.2.2.2.2 + 1) := ⟨by rw [fld_ne (by omega)]; exact z2.1, by rw [fld_ne (by omega)]; exact z2.2.1, z2.2.2.1, by rw [fld_ne (by omega)]; exact z2.2.2.2.1, by rw [fld_ne (by omega)]; exact z2.2.2.2.2.1, z2.2.2.2.2.2⟩
  obtain ⟨S3, c1, c2, c3⟩ := q_settle hN ht (L := 7) (by omega) z3 (okp_el i1) (by show X.2.2.2.2.2 + 1 + X.2.2.1.length ≤ 301; omega) (by show X.2.2.1.length < 160; omega) (by show 0 ≤ X.2.2.2.1 ∧ X.2.2.2.1 ≤ 8; omega)
  have c3 : Fs t (X.2.2.2.2.2 + 1) (ySi S2 265 18 (Int32.ofInt 1)) S3 := c3
  have t2 : atT (ySi S2 265 18 (Int32.ofInt 1)) f n (X.1 + 1) := atT_s b3 (fld_ne (by omega)) (fld_ne (by omega)) (fld_ne (by omega)) (fld_ne (by omega)) rfl
  have g2 : rtG (ySi S2 265 18 (Int32.ofInt 1)) f n := by
    have g := rtG_k (rtG_f h1 a3) b2
    exact ⟨g.1, by rw [fld_ne (by omega)]; exact g.2.1, g.2.2.1, g.2.2.2⟩
  refine ⟨S3, h_bind a1 (h_bind b1 (h_pst (h_bind c1 rfl))), ⟨rtG_f g2 c3, atT_f t2 c3, c2, ?_, ?_⟩, Fu_trans (Fu_s a3) (Fu_trans (Fu_k (r := X.2.2.2.2.2) b2) (Fu_trans (Fu_i (r := X.2.2.2.2.2) (by omega)) (Fu_s c3) (by omega)) (Nat.le_refl _)) (Nat.le_refl _)⟩
  · rw [c3.2.1 18 (by omega) (by omega) (by omega), fld_at]
    rfl
  · rw [c3.2.1 14 (by omega) (by omega) (by omega), fld_ne (by omega), b2.2.1 14 (by omega), a3.2.1 14 (by omega) (by omega) (by omega)]
    exact h5
theorem q_opd (hN : 2000000 ≤ N) (h : rS S f n t s X) (hi : inv X) (hk : psT f n X.1 < n) (hw : X.2.1 = false) {x : Int} (hx : 2 ≤ x ∧ x ≤ 43) : ∃ S', fX12_opened N (Int32.ofInt x) S = some (Int32.ofInt (if (opd x X).1 = -1 then 0 else (opd x X).1), S') ∧ rS S' f n t s (opd x X).2 ∧ Fu t X.2.2.2.2.2 S S' := by
  obtain ⟨h1, h2, h3, h4, h5⟩ := id h
  have hl := inv_len hi
  obtain ⟨i1, i2, i3, i4⟩ := hi
  have hoc := ocn_nn X.2.2.1
  obtain ⟨z1, z2, z3, z4, z5, z6⟩ := h3
  unfold fX12_opened opd
  rw [z4]
  by_cases q : X.2.2.2.1 = 8
  · rw [if_pos q]
    refine ⟨S, h_neg (by first | omega | ((simp (disch := omega) only [i0, i1, i_lt, i_le, i_eq, i_add, i_sub, i_mul, i_neg, i_ofNat, i_rem, i_div, w_in, w_in2, w_cnt, w_cnt2, z01, z01', il, li, lc_ge, lc_le, lc_gt, lc_lt, lc_eq, l_ofNat, l0, l_eq, l_lt, l_le]) <;> omega)) ?_, h, Fu_refl S⟩
    rfl
  · rw [if_neg q]
    have F1 : Fu t X.2.2.2.2.2 S (ySi (ySa (ySi S 265 17 (Int32.ofInt (X.2.2.2.1 + 1))) 270 (upd (S.2.2.1 270) X.2.2.1.length (Int32.ofInt x))) 265 16 (Int32.ofInt ((X.2.2.1.length + 1 : Nat) : Int))) := Fu_trans (Fu_i (by omega)) (Fu_trans (Fu_a (r := X.2.2.2.2.2)) (Fu_i (r := X.2.2.2.2.2) (by omega)) (Nat.le_refl _)) (Nat.le_refl _)
    have g1 : rtG (ySi (ySa (ySi S 265 17 (Int32.ofInt (X.2.2.2.1 + 1))) 270 (upd (S.2.2.1 270) X.2.2.1.length (Int32.ofInt x))) 265 16 (Int32.ofInt ((X.2.2.1.length + 1 : Nat) : Int))) f n := ⟨h1.1, by rw [F1.2.1 4 (by omega) (by omega) (by omega)]; exact h1.2.1, fun k hk => by rw [F1.2.2.1 269 (by omega) (by omega)]; exact h1.2.2.1 k hk, h1.2.2.2⟩
    have t1 : atT (ySi (ySa (ySi S 265 17 (Int32.ofInt (X.2.2.2.1 + 1))) 270 (upd (S.2.2.1 270) X.2.2.1.length (Int32.ofInt x))) 265 16 (Int32.ofInt ((X.2.2.1.length + 1 : Nat) : Int))) f n X.1 := by
      refine atT_s h2 ?_ ?_ ?_ ?_ rfl
      all_goals (rw [fld_ne (by omega), ySa_1, fld_ne (by omega)])
    have zz : rZ (ySi (ySa (ySi S 265 17 (Int32.ofInt (X.2.2.2.1 + 1))) 270 (upd (S.2.2.1 270) X.2.2.1.length (Int32.ofInt x))) 265 16 (Int32.ofInt ((X.2.2.1.length + 1 : Nat) : Int))) t (x :: X.2.2.1, X.2.2.2.1 + 1, X.2.2.2.2.1, X.2.2.2.2.2) := by
      refine ⟨?_, ?_, ?_, ?_, ?_, fun j hj => ?_⟩
      · rw [fld_ne (by omega), ySa_1, fld_ne (by omega)]; exact z1
      · exact fld_at
      · rw [ySi_2, ySa_at]
        exact ⟨upd_at, plG_upd z3 (Nat.le_refl _)⟩
      · rw [fld_ne (by omega), ySa_1, fld_at]
      · rw [fld_ne (by omega), ySa_1, fld_ne (by omega)]; exact z5
      · rw [← z6 j hj]
        unfold cdR rv
        rw [ySi_2, ySa_ne _ _ (by omega), ySi_2]
    obtain ⟨S2, b1, b2, b3⟩ := q_nextT hN g1 hk t1
    refine ⟨S2, h_pos (by first | omega | ((simp (disch := omega) only [i0, i1, i_lt, i_le, i_eq, i_add, i_sub, i_mul, i_neg, i_ofNat, i_rem, i_div, w_in, w_in2, w_cnt, w_cnt2, z01, z01', il, li, lc_ge, lc_le, lc_gt, lc_lt, lc_eq, l_ofNat, l0, l_eq, l_lt, l_le]) <;> omega)) (h_pst ?_), ⟨rtG_k g1 b2, b3, rZ_k zz b2, ?_, ?_⟩, Fu_trans F1 (Fu_k b2) (Nat.le_refl _)⟩
    · rw [i_add, fld_ne (show 16 ≠ 17 by omega), z2]
      refine h_ainN (by omega) (by omega) (h_pst (h_pst ?_))
      rw [ySa_1, fld_ne (show 16 ≠ 17 by omega), z2, i_add, show (X.2.2.1.length : Int) + 1 = ((X.2.2.1.length + 1 : Nat) : Int) by omega]
      exact h_bind b1 rfl
    · rw [b2.2.1 18 (by omega), fld_ne (by omega), ySa_1, fld_ne (by omega), h4, hw]
    · rw [b2.2.1 14 (by omega), fld_ne (by omega), ySa_1, fld_ne (by omega)]; exact h5
theorem tD_w {kd vl : Int} (h : tD S kd vl) (h9 : S.1 265 9 = Int32.ofInt 2) : ∃ x, S.2.1 265 11 = Int64.ofInt x ∧ 0 ≤ x ∧ x < 4611686018427387904 ∧ ∀ k : Nat, k < 25 → (x = wcd k ↔ kd = k) := by
  rcases h with ⟨a, b⟩ | ⟨a, b, -⟩ | ⟨v, a, a2, b, c⟩ | ⟨a, b⟩ | ⟨a, b⟩
  · rw [b] at h9; exact absurd h9 (by decide)
  · rw [b] at h9; exact absurd h9 (by decide)
  · have rg := wcd_rng v a2
    refine ⟨wcd v, c, by omega, by omega, fun k hk => ⟨fun q => ?_, fun q => ?_⟩⟩
    · rw [a, wcd_inj v a2 k hk q]
    · rw [show v = k by omega]
  · have e : sgc kd ≠ 2 ∧ 0 ≤ sgc kd ∧ sgc kd ≤ 100 := by
      unfold sgc
      repeat' split
      all_goals omega
    rw [b, i_eq (by omega) (by omega) (by omega) (by omega)] at h9
    exact absurd h9 e.1
  · rcases b with b | b | ⟨b, x, c, d, d2, e⟩
    · rw [b] at h9; exact absurd h9 (by decide)
    · rw [b] at h9; exact absurd h9 (by decide)
    · exact ⟨x, c, d, d2, fun k hk => ⟨fun q => absurd q (e k hk), fun q => by omega⟩⟩
theorem q_nameOf {kd vl : Int} (h : tD S kd vl) : fX12_nameOf S = some (Int32.ofInt (if kd ≤ 8 then kd else -1)) := by
  obtain ⟨c, c1, c2, c3, c4, c5, c6, c7, c8, c9, c10⟩ := tD_9 h
  have ey : kd ≤ 8 → (if kd ≤ 8 then kd else -1) = kd := fun q => if_pos q
  have en : ¬ kd ≤ 8 → (if kd ≤ 8 then kd else -1) = -1 := fun q => if_neg q
  unfold fX12_nameOf
  rw [w_day, w_fund, w_last, w_gone, w_number, w_odds, w_period, w_count, w_thing]
  by_cases q2 : c = 2
  · have h9 : S.1 265 9 = Int32.ofInt 2 := by rw [c1, q2]
    obtain ⟨x, x1, x2, x3, x4⟩ := tD_w h h9
    rw [h9, x1]
    have lq : ∀ k : Nat, k < 25 → ((lg_cmp (Int64.ofInt x) (Int64.ofInt (wcd k)) = 0) = (kd = k)) := fun k hk => by
      have rg := wcd_rng k hk
      rw [lc_eq (by omega) (by omega) (by omega) (by omega)]
      exact propext (x4 k hk)
    clear x4
    refine h_pos rfl ?_
    by_cases k0 : kd = ((0 : Nat) : Int)
    · refine h_neg (fun q => q ((lq 0 (by omega)).mpr k0)) ?_
      rw [ey (by omega), k0]; rfl
    refine h_pos (fun q => k0 ((lq 0 (by omega)).mp q)) ?_
    by_cases k1 : kd = ((1 : Nat) : Int)
    · refine h_neg (fun q => q ((lq 1 (by omega)).mpr k1)) ?_
      rw [ey (by omega), k1]; rfl
    refine h_pos (fun q => k1 ((lq 1 (by omega)).mp q)) ?_
    by_cases k2 : kd = ((2 : Nat) : Int)
    · refine h_neg (fun q => q ((lq 2 (by omega)).mpr k2)) ?_
      rw [ey (by omega), k2]; rfl
    refine h_pos (fun q => k2 ((lq 2 (by omega)).mp q)) ?_
    by_cases k3 : kd = ((3 : Nat) : Int)
    · refine h_neg (fun q => q ((lq 3 (by omega)).mpr k3)) ?_
      rw [ey (by omega), k3]; rfl
    refine h_pos (fun q => k3 ((lq 3 (by omega)).mp q)) ?_
    by_cases k4 : kd = ((4 : Nat) : Int)
    · refine h_neg (fun q => q ((lq 4 (by omega)).mpr k4)) ?_
      rw [ey (by omega), k4]; rfl
    refine h_pos (fun q => k4 ((lq 4 (by omega)).mp q)) ?_
    by_cases k5 : kd = ((5 : Nat) : Int)
    · refine h_neg (fun q => q ((lq 5 (by omega)).mpr k5)) ?_
      rw [ey (by omega), k5]; rfl
    refine h_pos (fun q => k5 ((lq 5 (by omega)).mp q)) ?_
    by_cases k6 : kd = ((6 : Nat) : Int)
    · refine h_neg (fun q => q ((lq 6 (by omega)).mpr k6)) ?_
      rw [ey (by omega), k6]; rfl
    refine h_pos (fun q => k6 ((lq 6 (by omega)).mp q)) ?_
    by_cases k7 : kd = ((7 : Nat) : Int)
    · refine h_neg (fun q => q ((lq 7 (by omega)).mpr k7)) ?_
      rw [ey (by omega), k7]; rfl
    refine h_pos (fun q => k7 ((lq 7 (by omega)).mp q)) ?_
    by_cases k8 : kd = ((8 : Nat) : Int)
    · refine h_neg (fun q => q ((lq 8 (by omega)).mpr k8)) ?_
      rw [ey (by omega), k8]; rfl
    refine h_pos (fun q => k8 ((lq 8 (by omega)).mp q)) ?_
    rw [en (by omega)]
  · rw [c1, en (by omega)]
    exact h_neg (by first | omega | ((simp (disch := omega) only [i0, i1, i_lt, i_le, i_eq, i_add, i_sub, i_mul, i_neg, i_ofNat, i_rem, i_div, w_in, w_in2, w_cnt, w_cnt2, z01, z01', il, li, lc_ge, lc_le, lc_gt, lc_lt, lc_eq, l_ofNat, l0, l_eq, l_lt, l_le]) <;> omega)) rfl
theorem q_isOf {kd : Int} (hk : 0 ≤ kd ∧ kd ≤ 8) (hs : s ≤ 1) (h : S.1 265 14 = Int32.ofInt (s : Int)) : fX12_isOf (Int32.ofInt kd) S = some (Int32.ofInt (if okN s kd = true then 1 else 0)) := by
  unfold fX12_isOf okN
  rw [h]
  by_cases k4 : kd < 4
  · rw [decide_eq_true (by omega)]
    exact h_pos (by first | omega | ((simp (disch := omega) only [i0, i1, i_lt, i_le, i_eq, i_add, i_sub, i_mul, i_neg, i_ofNat, i_rem, i_div, w_in, w_in2, w_cnt, w_cnt2, z01, z01', il, li, lc_ge, lc_le, lc_gt, lc_lt, lc_eq, l_ofNat, l0, l_eq, l_lt, l_le]) <;> omega)) rfl
  · refine h_neg (by first | omega | ((simp (disch := omega) only [i0, i1, i_lt, i_le, i_eq, i_add, i_sub, i_mul, i_neg, i_ofNat, i_rem, i_div, w_in, w_in2, w_cnt, w_cnt2, z01, z01', il, li, lc_ge, lc_le, lc_gt, lc_lt, lc_eq, l_ofNat, l0, l_eq, l_lt, l_le]) <;> omega)) ?_
    by_cases k7 : 7 ≤ kd
    · refine h_pos (by first | omega | ((simp (disch := omega) only [i0, i1, i_lt, i_le, i_eq, i_add, i_sub, i_mul, i_neg, i_ofNat, i_rem, i_div, w_in, w_in2, w_cnt, w_cnt2, z01, z01', il, li, lc_ge, lc_le, lc_gt, lc_lt, lc_eq, l_ofNat, l0, l_eq, l_lt, l_le]) <;> omega)) ?_
      by_cases s1 : s = 1
      · rw [decide_eq_true (by omega)]
        exact h_neg (by first | omega | ((simp (disch := omega) only [i0, i1, i_lt, i_le, i_eq, i_add, i_sub, i_mul, i_neg, i_ofNat, i_rem, i_div, w_in, w_in2, w_cnt, w_cnt2, z01, z01', il, li, lc_ge, lc_le, lc_gt, lc_lt, lc_eq, l_ofNat, l0, l_eq, l_lt, l_le]) <;> omega)) rfl
      · rw [decide_eq_false (by omega)]
        exact h_pos (by first | omega | ((simp (disch := omega) only [i0, i1, i_lt, i_le, i_eq, i_add, i_sub, i_mul, i_neg, i_ofNat, i_rem, i_div, w_in, w_in2, w_cnt, w_cnt2, z01, z01', il, li, lc_ge, lc_le, lc_gt, lc_lt, lc_eq, l_ofNat, l0, l_eq, l_lt, l_le]) <;> omega)) rfl
    · refine h_neg (by first | omega | ((simp (disch := omega) only [i0, i1, i_lt, i_le, i_eq, i_add, i_sub, i_mul, i_neg, i_ofNat, i_rem, i_div, w_in, w_in2, w_cnt, w_cnt2, z01, z01', il, li, lc_ge, lc_le, lc_gt, lc_lt, lc_eq, l_ofNat, l0, l_eq, l_lt, l_le]) <;> omega)) ?_
      by_cases s0 : s = 0
      · rw [decide_eq_true (by omega)]
        exact h_neg (by first | omega | ((simp (disch := omega) only [i0, i1, i_lt, i_le, i_eq, i_add, i_sub, i_mul, i_neg, i_ofNat, i_rem, i_div, w_in, w_in2, w_cnt, w_cnt2, z01, z01', il, li, lc_ge, lc_le, lc_gt, lc_lt, lc_eq, l_ofNat, l0, l_eq, l_lt, l_le]) <;> omega)) rfl
      · rw [decide_eq_false (by omega)]
        exact h_pos (by first | omega | ((simp (disch := omega) only [i0, i1, i_lt, i_le, i_eq, i_add, i_sub, i_mul, i_neg, i_ofNat, i_rem, i_div, w_in, w_in2, w_cnt, w_cnt2, z01, z01', il, li, lc_ge, lc_le, lc_gt, lc_lt, lc_eq, l_ofNat, l0, l_eq, l_lt, l_le]) <;> omega)) rfl
theorem q_bgn (hN : 2000000 ≤ N) (ht : t < 4) (hs : s ≤ 1) (h : rS S f n t s X) (hi : inv X) (hx : X.1 ≤ 300) (hw : X.2.1 = false) : ∃ S', fX12_beginOne N S = some (Int32.ofInt (if (bgn s (kdT f n X.1) (vlT f n X.1) X).1 = -1 then 0 else (bgn s (kdT f n X.1) (vlT f n X.1) X).1), S') ∧ rS S' f n t s (bgn s (kdT f n X.1) (vlT f n X.1) X).2 ∧ Fu t X.2.2.2.2.2 S S' := by
  have td := atT_D h.2.1
  have kr := kdT_rng (f := f) (n := n) X.1
  have hl := inv_len hi
  generalize hkd : kdT f n X.1 = kd at *
  generalize hvl : vlT f n X.1 = vl at *
  obtain ⟨c, c1, c2, c3, c4, c5, c6, c7, c8, c9, c10⟩ := tD_9 td
  have nm := q_nameOf td
  have pk : kd ≠ 40 → psT f n X.1 < n := fun q => by
    by_cases z : psT f n X.1 < n
    · exact z
    · exact absurd (kr.2.2.1.mpr z) q
  unfold bgn
  by_cases k38 : kd = 38
  · have e1 := c5.mpr k38
    rw [e1] at c1
    rw [if_neg (by omega)] at nm
    obtain ⟨v, v1, v2, v3, v4⟩ : ∃ v, S.1 265 10 = Int32.ofInt v ∧ 0 ≤ v ∧ v ≤ 999999 ∧ (vl ≤ 9999 ∧ v = vl ∨ vl = 10000 ∧ 10000 ≤ v) := by
      rcases td with ⟨a, b⟩ | ⟨a, b, c⟩ | ⟨v, a, a2, b, c⟩ | ⟨a, b⟩ | ⟨a, b⟩
      · omega
      · exact c
      · omega
      · omega
      · omega
    rw [if_pos k38]
    by_cases v9 : 9999 < vl
    · rw [if_pos v9]
      refine ⟨S, ?_, h, Fu_refl S⟩
      unfold fX12_beginOne
      rw [c1, v1]
      exact h_neg (fun q => q rfl) (h_neg (by first | omega | ((simp (disch := omega) only [i0, i1, i_lt, i_le, i_eq, i_add, i_sub, i_mul, i_neg, i_ofNat, i_rem, i_div, w_in, w_in2, w_cnt, w_cnt2, z01, z01', il, li, lc_ge, lc_le, lc_gt, lc_lt, lc_eq, l_ofNat, l0, l_eq, l_lt, l_le]) <;> omega)) rfl)
    · rw [if_neg v9]
      have ev : v = vl := by omega
      obtain ⟨S', w1, w2, w3⟩ := q_whole hN ht h hi (pk (by omega)) hx (a := 0) (b := v) (by omega) (by omega)
      rw [ev] at w2
      refine ⟨S', ?_, w2, w3⟩
      unfold fX12_beginOne
      rw [c1, v1]
      exact h_neg (fun q => q rfl) (h_pos (by first | omega | ((simp (disch := omega) only [i0, i1, i_lt, i_le, i_eq, i_add, i_sub, i_mul, i_neg, i_ofNat, i_rem, i_div, w_in, w_in2, w_cnt, w_cnt2, z01, z01', il, li, lc_ge, lc_le, lc_gt, lc_lt, lc_eq, l_ofNat, l0, l_eq, l_lt, l_le]) <;> omega)) (h_bind nm (h_pos (by decide) (h_pos rfl (h_neg (fun q => q rfl) (h_neg (fun q => q rfl) w1))))))
  · have e1 : c ≠ 1 := fun q => k38 (c5.mp q)
    rw [if_neg k38]
    by_cases k8 : kd ≤ 8
    · rw [if_pos k8] at nm
      rw [if_pos k8]
      have io := q_isOf (kd := kd) (by omega) hs h.2.2.2.2
      by_cases ok : okN s kd = true
      · rw [if_pos ok] at io
        rw [if_pos ok]
        obtain ⟨S', w1, w2, w3⟩ := q_whole hN ht h hi (pk (by omega)) hx (a := 1) (b := kd) (by omega) (by omega)
        refine ⟨S', ?_, w2, w3⟩
        unfold fX12_beginOne
        rw [c1]
        exact h_pos (by first | omega | ((simp (disch := omega) only [i0, i1, i_lt, i_le, i_eq, i_add, i_sub, i_mul, i_neg, i_ofNat, i_rem, i_div, w_in, w_in2, w_cnt, w_cnt2, z01, z01', il, li, lc_ge, lc_le, lc_gt, lc_lt, lc_eq, l_ofNat, l0, l_eq, l_lt, l_le]) <;> omega)) (h_bind nm (h_neg (by first | omega | ((simp (disch := omega) only [i0, i1, i_lt, i_le, i_eq, i_add, i_sub, i_mul, i_neg, i_ofNat, i_rem, i_div, w_in, w_in2, w_cnt, w_cnt2, z01, z01', il, li, lc_ge, lc_le, lc_gt, lc_lt, lc_eq, l_ofNat, l0, l_eq, l_lt, l_le]) <;> omega)) (h_bind io (h_pos (by decide) (h_neg (by first | omega | ((simp (disch := omega) only [i0, i1, i_lt, i_le, i_eq, i_add, i_sub, i_mul, i_neg, i_ofNat, i_rem, i_div, w_in, w_in2, w_cnt, w_cnt2, z01, z01', il, li, lc_ge, lc_le, lc_gt, lc_lt, lc_eq, l_ofNat, l0, l_eq, l_lt, l_le]) <;> omega)) (h_neg (by first | omega | ((simp (disch := omega) only [i0, i1, i_lt, i_le, i_eq, i_add, i_sub, i_mul, i_neg, i_ofNat, i_rem, i_div, w_in, w_in2, w_cnt, w_cnt2, z01, z01', il, li, lc_ge, lc_le, lc_gt, lc_lt, lc_eq, l_ofNat, l0, l_eq, l_lt, l_le]) <;> omega)) (h_pos (by first | omega | ((simp (disch := omega) only [i0, i1, i_lt, i_le, i_eq, i_add, i_sub, i_mul, i_neg, i_ofNat, i_rem, i_div, w_in, w_in2, w_cnt, w_cnt2, z01, z01', il, li, lc_ge, lc_le, lc_gt, lc_lt, lc_eq, l_ofNat, l0, l_eq, l_lt, l_le]) <;> omega)) (h_pos (by first | omega | ((simp (disch := omega) only [i0, i1, i_lt, i_le, i_eq, i_add, i_sub, i_mul, i_neg, i_ofNat, i_rem, i_div, w_in, w_in2, w_cnt, w_cnt2, z01, z01', il, li, lc_ge, lc_le, lc_gt, lc_lt, lc_eq, l_ofNat, l0, l_eq, l_lt, l_le]) <;> omega)) w1))))))))
      · rw [if_neg ok] at io
        rw [if_neg ok]
        refine ⟨S, ?_, h, Fu_refl S⟩
        unfold fX12_beginOne
        rw [c1]
        exact h_pos (by first | omega | ((simp (disch := omega) only [i0, i1, i_lt, i_le, i_eq, i_add, i_sub, i_mul, i_neg, i_ofNat, i_rem, i_div, w_in, w_in2, w_cnt, w_cnt2, z01, z01', il, li, lc_ge, lc_le, lc_gt, lc_lt, lc_eq, l_ofNat, l0, l_eq, l_lt, l_le]) <;> omega)) (h_bind nm (h_neg (by first | omega | ((simp (disch := omega) only [i0, i1, i_lt, i_le, i_eq, i_add, i_sub, i_mul, i_neg, i_ofNat, i_rem, i_div, w_in, w_in2, w_cnt, w_cnt2, z01, z01', il, li, lc_ge, lc_le, lc_gt, lc_lt, lc_eq, l_ofNat, l0, l_eq, l_lt, l_le]) <;> omega)) (h_bind io (h_neg (by decide) rfl))))
    · rw [if_neg k8] at nm
      rw [if_neg k8]
      have pre : fX12_beginOne N S = (if ¬ (Int32.ofInt c) = (Int32.ofInt 40) then (if ¬ (Int32.ofInt c) = (Int32.ofInt 45) then (fX12_isWord (Int64.ofInt (wcd 9)) S).bind fun u32 => (if u32 = 0 then (fX12_isWord (Int64.ofInt (wcd 10)) S).bind fun u34 => (if u34 = 0 then (fX12_isWord (Int64.ofInt (wcd 14)) S).bind fun u36 => (if u36 = 0 then (fX12_isWord (Int64.ofInt (wcd 11)) S).bind fun u38 => (if u38 = 0 then some ((Int32.ofInt 1), S) else (fX12_isAskAhead N S).bind fun u40 => (if u40 = 0 then some ((Int32.ofInt 1), S) else (fX12_opened N (Int32.ofInt 20) S).bind fun (u43, S42) => some (u43, S42))) else (fX12_opened N (Int32.ofInt 41) S).bind fun (u46, S45) => some (u46, S45)) else (fX12_opened N (Int32.ofInt 4) S).bind fun (u49, S48) => some (u49, S48)) else (fX12_opened N (Int32.ofInt 2) S).bind fun (u52, S51) => some (u52, S51)) else (fX12_opened N (Int32.ofInt 5) S).bind fun (u55, S54) => some (u55, S54)) else (fX12_opened N (Int32.ofInt 40) S).bind fun (u58, S57) => some (u58, S57)) := by
        unfold fX12_beginOne
        rw [c1, w_rhyme, w_came, w_if, w_not]
        exact h_pos (by first | omega | ((simp (disch := omega) only [i0, i1, i_lt, i_le, i_eq, i_add, i_sub, i_mul, i_neg, i_ofNat, i_rem, i_div, w_in, w_in2, w_cnt, w_cnt2, z01, z01', il, li, lc_ge, lc_le, lc_gt, lc_lt, lc_eq, l_ofNat, l0, l_eq, l_lt, l_le]) <;> omega)) (h_bind nm (h_pos (by decide) (h_neg (by first | omega | ((simp (disch := omega) only [i0, i1, i_lt, i_le, i_eq, i_add, i_sub, i_mul, i_neg, i_ofNat, i_rem, i_div, w_in, w_in2, w_cnt, w_cnt2, z01, z01', il, li, lc_ge, lc_le, lc_gt, lc_lt, lc_eq, l_ofNat, l0, l_eq, l_lt, l_le]) <;> omega)) (h_pos (by decide) rfl))))
      have s40 := tD_s td (k := 33) (by omega)
      have s45 := tD_s td (k := 30) (by omega)
      have i9 := q_isW td (w := 9) (by omega)
      have i10 := q_isW td (w := 10) (by omega)
      have i14 := q_isW td (w := 14) (by omega)
      have i11 := q_isW td (w := 11) (by omega)
      rw [c1] at s40 s45
      have s40 : (Int32.ofInt c = Int32.ofInt 40) = (kd = 33) := s40
      have s45 : (Int32.ofInt c = Int32.ofInt 45) = (kd = 30) := s45
      by_cases k33 : kd = 33
      · obtain ⟨S', w1, w2, w3⟩ := q_opd hN h hi (pk (by omega)) hw (x := 40) (by omega)
        rw [if_pos k33]
        exact ⟨S', pre.trans (h_neg (fun q => q (s40.mpr k33)) (h_bind w1 rfl)), w2, w3⟩
      · rw [if_neg k33]
        have n40 : ¬ Int32.ofInt c = Int32.ofInt 40 := fun q => k33 (s40.mp q)
        by_cases k30 : kd = 30
        · obtain ⟨S', w1, w2, w3⟩ := q_opd hN h hi (pk (by omega)) hw (x := 5) (by omega)
          rw [if_pos k30]
          exact ⟨S', pre.trans (h_pos n40 (h_neg (fun q => q (s45.mpr k30)) (h_bind w1 rfl))), w2, w3⟩
        · rw [if_neg k30]
          have n45 : ¬ Int32.ofInt c = Int32.ofInt 45 := fun q => k30 (s45.mp q)
          by_cases k9 : kd = 9
          · obtain ⟨S', w1, w2, w3⟩ := q_opd hN h hi (pk (by omega)) hw (x := 2) (by omega)
            rw [if_pos (show kd = ((9 : Nat) : Int) by omega)] at i9
            rw [if_pos k9]
            exact ⟨S', pre.trans (h_pos n40 (h_pos n45 (h_bind i9 (h_neg (by decide) (h_bind w1 rfl))))), w2, w3⟩
          · rw [if_neg (show ¬ kd = ((9 : Nat) : Int) by omega)] at i9
            rw [if_neg k9]
            by_cases k10 : kd = 10
            · obtain ⟨S', w1, w2, w3⟩ := q_opd hN h hi (pk (by omega)) hw (x := 4) (by omega)
              rw [if_pos (show kd = ((10 : Nat) : Int) by omega)] at i10
              rw [if_pos k10]
              exact ⟨S', pre.trans (h_pos n40 (h_pos n45 (h_bind i9 (h_pos (by decide) (h_bind i10 (h_neg (by decide) (h_bind w1 rfl))))))), w2, w3⟩
            · rw [if_neg (show ¬ kd = ((10 : Nat) : Int) by omega)] at i10
              rw [if_neg k10]
              by_cases k14 : kd = 14
              · obtain ⟨S', w1, w2, w3⟩ := q_opd hN h hi (pk (by omega)) hw (x := 41) (by omega)
                rw [if_pos (show kd = ((14 : Nat) : Int) by omega)] at i14
                rw [if_pos k14]
                exact ⟨S', pre.trans (h_pos n40 (h_pos n45 (h_bind i9 (h_pos (by decide) (h_bind i10 (h_pos (by decide) (h_bind i14 (h_neg (by decide) (h_bind w1 rfl))))))))), w2, w3⟩
              · rw [if_neg (show ¬ kd = ((14 : Nat) : Int) by omega)] at i14
                rw [if_neg k14]
                by_cases k11 : kd = 11
                · rw [if_pos (show kd = ((11 : Nat) : Int) by omega)] at i11
                  rw [if_pos k11]
                  have qa := q_ask hN h.2.2.1 (by omega) (okp_el hi.1)
                  by_cases ak : opN X.2.2.1 = 41 ∧ askT X.2.2.1 = true
                  · rw [if_pos ak] at qa
                    rw [if_pos ak]
                    obtain ⟨S', w1, w2, w3⟩ := q_opd hN h hi (pk (by omega)) hw (x := 20) (by omega)
                    exact ⟨S', pre.trans (h_pos n40 (h_pos n45 (h_bind i9 (h_pos (by decide) (h_bind i10 (h_pos (by decide) (h_bind i14 (h_pos (by decide) (h_bind i11 (h_neg (by decide) (h_bind qa (h_neg (by decide) (h_bind w1 rfl))))))))))))), w2, w3⟩
                  · rw [if_neg ak] at qa
                    rw [if_neg ak]
                    exact ⟨S, pre.trans (h_pos n40 (h_pos n45 (h_bind i9 (h_pos (by decide) (h_bind i10 (h_pos (by decide) (h_bind i14 (h_pos (by decide) (h_bind i11 (h_neg (by decide) (h_bind qa (h_pos (by decide) rfl)))))))))))), h, Fu_refl S⟩
                · rw [if_neg (show ¬ kd = ((11 : Nat) : Int) by omega)] at i11
                  rw [if_neg k11]
                  exact ⟨S, pre.trans (h_pos n40 (h_pos n45 (h_bind i9 (h_pos (by decide) (h_bind i10 (h_pos (by decide) (h_bind i14 (h_pos (by decide) (h_bind i11 (h_pos (by decide) rfl)))))))))), h, Fu_refl S⟩
end SIM
