/-! ===== image and back: a county copied ===== -/
theorem ySq_1 (S : yS) (a : Nat) (f : Nat → Option Nat) : (ySq S a f).1 = S.1 := rfl
theorem ySq_at (S : yS) (a : Nat) (f : Nat → Option Nat) : (ySq S a f).2.2.2.2 a = f := yU_eq
theorem ySq_ne (S : yS) {a i : Nat} (f : Nat → Option Nat) (h : i ≠ a) : (ySq S a f).2.2.2.2 i = S.2.2.2.2 i := yU_ne h
def Fc (b : Nat) (S S' : yS) : Prop := (∀ i, ¬ (18 + b ≤ i ∧ i ≤ 131 + b) → S'.1 i = S.1 i) ∧ (∀ i, ¬ (18 + b ≤ i ∧ i ≤ 131 + b) → S'.2.2.1 i = S.2.2.1 i) ∧ (∀ i, i ≠ 118 + b → S'.2.2.2.2 i = S.2.2.2.2 i)
def Cq (bs bd : Nat) (S X : yS) (l m : List (Nat × Nat)) : Prop := (∀ i, i ≠ 18 + bd → i ≠ 119 + bd → X.1 i = S.1 i) ∧ (∀ i, ¬ (114 + bd ≤ i ∧ i ≤ 131 + bd) → X.2.2.1 i = S.2.2.1 i) ∧ (∀ i, i ≠ 118 + bd → X.2.2.2.2 i = S.2.2.2.2 i) ∧ (∀ e ∈ l, ∀ k, k < e.2 → X.2.2.1 (e.1 + bd) k = S.2.2.1 (e.1 + bs) k) ∧ (∀ e ∈ m, X.1 (e.1 + bd) e.2 = S.1 (e.1 + bs) e.2)
theorem Cq_0 {bs bd : Nat} (S : yS) : Cq bs bd S S [] [] := ⟨fun _ _ _ => rfl, fun _ _ => rfl, fun _ _ => rfl, fun e he => absurd he (by simp), fun e he => absurd he (by simp)⟩
section CQ
variable {bs bd : Nat} {S X : yS} {l m : List (Nat × Nat)} {T : yK}
theorem Cq_a (h : Cq bs bd S X l m) (hb : bs = 0 ∧ bd = 115 ∨ bs = 115 ∧ bd = 0) {i n : Nat} {f : Nat → Int32} (hi : 114 ≤ i ∧ i ≤ 131) (hl : ∀ e ∈ l, e.1 ≠ i) (hf : ∀ k, k < n → f k = X.2.2.1 (i + bs) k) : Cq bs bd S (ySa X (i + bd) f) ((i, n) :: l) m := by
  obtain ⟨h1, h2, h3, h4, h5⟩ := h
  refine ⟨h1, fun j hj => ?_, h3, fun e he k hk => ?_, h5⟩
  · rw [ySa_ne _ _ (by omega)]; exact h2 j hj
  · rcases List.mem_cons.mp he with rfl | he
    · rw [ySa_at, hf k hk, h2 _ (by omega)]
    · have := hl e he
      rw [ySa_ne _ _ (by omega)]; exact h4 e he k hk
theorem Cq_i (h : Cq bs bd S X l m) (hb : bs = 0 ∧ bd = 115 ∨ bs = 115 ∧ bd = 0) {o k : Nat} {v : Int32} (ho : o = 18 ∨ o = 119) (hm : ∀ e ∈ m, e ≠ (o, k)) (hv : v = X.1 (o + bs) k) : Cq bs bd S (ySi X (o + bd) k v) l ((o, k) :: m) := by
  obtain ⟨h1, h2, h3, h4, h5⟩ := h
  refine ⟨fun j a b => ?_, h2, h3, h4, fun e he => ?_⟩
  · rw [fld_o (by omega)]; exact h1 j a b
  · rcases List.mem_cons.mp he with rfl | he
    · rw [fld_at, hv, h1 _ (by omega) (by omega)]
    · have hne := hm e he
      by_cases q : e.1 = o
      · rw [q, fld_ne (fun q2 => hne (Prod.ext q q2)), ← q]; exact h5 e he
      · rw [fld_o (by omega)]; exact h5 e he
theorem Cq_q (h : Cq bs bd S X l m) {g : Nat → Option Nat} : Cq bs bd S (ySq X (118 + bd) g) l m := by
  obtain ⟨h1, h2, h3, h4, h5⟩ := h
  refine ⟨h1, h2, fun j hj => ?_, h4, h5⟩
  rw [ySq_ne _ _ hj]; exact h3 j hj
theorem ex_pst {x : yS} {k : yS → Option yS} {Q : yS → Prop} (h : ∃ S1, k x = some S1 ∧ Q S1) : ∃ S1, pSt x k = some S1 ∧ Q S1 := h
theorem ex_bind {o : Option yS} {v : yS} {F : yS → Option yS} {Q : yS → Prop} (h : o = some v) (k : ∃ S1, F v = some S1 ∧ Q S1) : ∃ S1, o.bind F = some S1 ∧ Q S1 := by
  rw [h]; exact k
theorem ex_arr {k : yS → Option yS} {Q : yS → Prop} (h : Cq bs bd S X l m) (hb : bs = 0 ∧ bd = 115 ∨ bs = 115 ∧ bd = 0) (i n : Nat) (hi : 114 ≤ i ∧ i ≤ 131) (hl : ∀ e ∈ l, e.1 ≠ i) (kk : ∀ X', Cq bs bd S X' ((i, n) :: l) m → (∀ a, a ≠ i + bd → X'.2.2.1 a = X.2.2.1 a) → X'.2.2.2.2 = X.2.2.2.2 → ∃ S1, k X' = some S1 ∧ Q S1) : ∃ S1, pSt (ySa X (i + bd) (va_cpy (X.2.2.1 (i + bs)) (X.2.2.1 (i + bd)) 0 0 n)) k = some S1 ∧ Q S1 :=
  kk _ (Cq_a h hb hi hl (fun k hk => by unfold va_cpy; rw [if_pos (by omega), show 0 + (k - 0) = k by omega])) (fun a ha => ySa_ne _ _ ha) rfl
theorem ex_fld {k : yS → Option yS} {Q : yS → Prop} (h : Cq bs bd S X l m) (hb : bs = 0 ∧ bd = 115 ∨ bs = 115 ∧ bd = 0) (o j : Nat) (ho : o = 18 ∨ o = 119) (hm : ∀ e ∈ m, e ≠ (o, j)) (kk : ∀ X', Cq bs bd S X' l ((o, j) :: m) → X'.2 = X.2 → ∃ S1, k X' = some S1 ∧ Q S1) : ∃ S1, pSt (ySi X (o + bd) j (X.1 (o + bs) j)) k = some S1 ∧ Q S1 :=
  kk _ (Cq_i h hb ho hm rfl) rfl
end CQ
/-- a county by a copy of its cells -/
theorem cR_cq {bs bd : Nat} {S X : yS} {A : Nat → Int} (h : Cq bs bd S X [(131, 8), (130, 8), (126, 5), (125, 5), (123, 9), (121, 12), (120, 12), (117, 9), (116, 8), (115, 8), (114, 8)] [(18, 15), (119, 2), (18, 9), (18, 8), (18, 5)]) (hs : cR bs A S) (hr : rI A) (hb : bs = 0 ∧ bd = 115 ∨ bs = 115 ∧ bd = 0) (mr : mR (19 + bd) (nowF A) S) (sr : sR bd A S) : cR bd A X := by
  obtain ⟨h1, h2, h3, h4, h5⟩ := h
  obtain ⟨c1, c2, c3, c4⟩ := hs
  have hm : nowF A 5 ≤ 25 := hr.2.2.2.1.2.2.2.2.2.1.2
  have i3 := I_i3 hr
  refine ⟨?_, fun e he k hk => ?_, ?_, ?_⟩
  · unfold cI at c1 ⊢
    have e1 := h5 (18, 5) (by decide)
    have e2 := h5 (18, 8) (by decide)
    have e3 := h5 (18, 9) (by decide)
    have e4 := h5 (18, 15) (by decide)
    have e5 := h5 (119, 2) (by decide)
    dsimp only at e1 e2 e3 e4 e5
    rw [e1, e2, e3, e4, e5]
    exact c1
  · have hin : ∀ e ∈ cTab, (e.1, e.2.1) ∈ [(131, 8), (130, 8), (126, 5), (125, 5), (123, 9), (121, 12), (120, 12), (117, 9), (116, 8), (115, 8), (114, 8)] := by decide
    have := h4 _ (hin e he) k hk
    dsimp only at this
    rw [this]
    exact c2 e he k hk
  · exact mR_congr mr (h1 _ (by omega) (by omega)) (h2 _ (by omega)) (h2 _ (by omega)) (fun _ _ => rfl) hm
  · obtain ⟨s1, s2, fi, s3, s4, s5⟩ := sr
    refine ⟨by rw [h3 _ (by omega)]; exact s1, by rw [h1 _ (by omega) (by omega)]; exact s2, fi, s3, by rw [h1 _ (by omega) (by omega)]; exact s4, fun i hi => ?_⟩
    have hl := Nat.mod_lt (fi + i) (show 0 < 30 by omega)
    exact mR_congr (s5 i hi) (h1 _ (by omega) (by omega)) (h2 _ (by omega)) (h2 _ (by omega)) (fun _ _ => rfl) (hr.2.2.2.2 i hi).2.2.2.2.2.1.2
theorem yMo_sd : ∀ t : Nat, t < 30 → yMo (24 + 115 + 3 * t) = true := by decide +kernel
theorem cR_lt {b : Nat} {A A' : Nat → Int} {S : yS} (h : cR b A S) (hr : rI A) (hA : ∀ k, k < 1338 → A' k = A k) : cR b A' S := by
  obtain ⟨c1, c2, c3, c4, c5, fi, c6, c7, c8⟩ := h
  have hm : nowF A 5 ≤ 25 := hr.2.2.2.1.2.2.2.2.2.1.2
  have i3 := I_i3 hr
  refine ⟨?_, fun e he k hk => ?_, mR_congr c3 rfl rfl rfl (nowF_congr (fun k a b => hA k (by omega)) (fun k a b => hA k (by omega))) hm, c4, by rw [hA 3 (by omega)]; exact c5, fi, c6, c7, fun i hi => ?_⟩
  · unfold cI at c1 ⊢
    rw [hA 0 (by omega), hA 1 (by omega), hA 2 (by omega), hA 5 (by omega), hA 4 (by omega)]
    exact c1
  · have r7 := (cTab_rng e he).2.2.2.2.2.2.1 k hk
    rw [hA _ (by omega)]
    exact c2 e he k hk
  · rw [hA 3 (by omega)] at hi
    exact mR_congr (c8 i hi) rfl rfl rfl (stF_congr (fun k a b => hA k (by omega)) (by omega)) (hr.2.2.2.2 i hi).2.2.2.2.2.1.2
theorem rI_lt {A A' : Nat → Int} (hr : rI A) (hA : ∀ k, k < 1338 → A' k = A k) : rI A' := by
  have i3 := I_i3 hr
  obtain ⟨a, b, c, d, e⟩ := id hr
  refine ⟨?_, rA_same b (fun k h1 h2 => hA k (by omega)), fun k hk => ?_, ?_, fun i hi => ?_⟩
  · rw [hA 0 (by omega), hA 1 (by omega), hA 2 (by omega), hA 3 (by omega), hA 5 (by omega), hA 4 (by omega)]
    exact a
  · rw [hA 0 (by omega)] at hk
    have := a.1
    rw [hA _ (by omega), hA _ (by omega)]
    exact c k hk
  · rw [hA 0 (by omega)]
    exact mI_congr d (Int.le_refl _) (nowF_congr (fun k a b => hA k (by omega)) (fun k a b => hA k (by omega)))
  · rw [hA 3 (by omega)] at hi
    rw [hA 0 (by omega)]
    exact mI_congr (e i hi) (Int.le_refl _) (stF_congr (fun k a b => hA k (by omega)) (by omega))
theorem im_sw (X : yS) (f g h k : Nat → Int32) : ySa (ySa (ySa (ySa X 235 f) 236 g) 235 h) 236 k = ySa (ySa X 235 h) 236 k := by
  unfold ySa
  congr 3
  funext i
  unfold yU
  dsimp only
  by_cases q1 : i = 236
  · rw [if_pos q1, if_pos q1]
  · rw [if_neg q1, if_neg q1]
    by_cases q2 : i = 235
    · rw [if_pos q2, if_pos q2, if_neg q1]
    · rw [if_neg q2, if_neg q2, if_neg q1, if_neg q2]
/-! ===== image ===== -/
theorem im_st {N fi : Nat} (hfi : fi < 30) : ∀ (r n i : Nat) (S : yS), S.1 137 1 = Int32.ofInt (fi : Int) → S.1 137 2 = Int32.ofInt ((i + r : Nat) : Int) → i + r ≤ 30 → (∀ t, t < 30 → S.2.2.2.2 138 t = some (24 + 115 + 3 * t)) → (∀ t, t < 30 → S.2.2.2.2 23 t = some (24 + 0 + 3 * t)) → r < n → ∃ S', lX8_copy_t137_22 N n (Int32.ofInt (i : Int)) S = some S' ∧ (∀ j, ¬ (24 + 115 ≤ j ∧ j ≤ 113 + 115) → S'.1 j = S.1 j ∧ S'.2.2.1 j = S.2.2.1 j) ∧ S'.2.2.2.2 = S.2.2.2.2 ∧ (∀ (j : Nat) (f : Nat → Int), j < i + r → f 5 ≤ 25 → mR (24 + 0 + 3 * ((fi + j) % 30)) f S → (j < i → mR (24 + 115 + 3 * ((fi + j) % 30)) f S) → mR (24 + 115 + 3 * ((fi + j) % 30)) f S')
  | 0, n + 1, i, S, h1, h2, h3, h4, h5, hn => by
    rw [lX8_copy_t137_22, h2]
    exact ⟨S, h_pos (by first | omega | ((simp (disch := omega) only [i0, i1, i_lt, i_le, i_eq, i_add, i_sub, i_mul, i_neg, i_ofNat, i_rem, i_div, w_in, w_in2, w_cnt, w_cnt2, z01, z01', il, li, lc_ge, lc_le, lc_gt, lc_lt, lc_eq, l_ofNat, l0, l_eq, l_lt, l_le]) <;> omega)) rfl, fun _ _ => ⟨rfl, rfl⟩, rfl, fun j f hj _ _ hm => hm (by omega)⟩
  | r + 1, n + 1, i, S, h1, h2, h3, h4, h5, hn => by
    have hl := Nat.mod_lt (fi + i) (show 0 < 30 by omega)
    have g1 := h4 _ hl
    have g2 := h5 _ hl
    have y1 := yMo_sd _ hl
    have y2 := yMo_st _ hl
    obtain ⟨S', a1, a2, a3, a4⟩ := im_st (N := N) hfi r n (i + 1) (mCopy S (24 + 115 + 3 * ((fi + i) % 30)) (24 + 0 + 3 * ((fi + i) % 30))) (by rw [mCopy_o (by omega)]; exact h1) (by rw [mCopy_o (by omega), h2]; congr 2; omega) (by omega) h4 h5 (by omega)
    refine ⟨S', ?_, fun j hj => ⟨(a2 j hj).1.trans (mCopy_o (by omega)), (a2 j hj).2.trans (mCopy_a (by omega) (by omega))⟩, a3, fun j f hj h25 hm hd => ?_⟩
    · rw [lX8_copy_t137_22, h1, h2]
      refine h_neg (by first | omega | ((simp (disch := omega) only [i0, i1, i_lt, i_le, i_eq, i_add, i_sub, i_mul, i_neg, i_ofNat, i_rem, i_div, w_in, w_in2, w_cnt, w_cnt2, z01, z01', il, li, lc_ge, lc_le, lc_gt, lc_lt, lc_eq, l_ofNat, l0, l_eq, l_lt, l_le]) <;> omega)) (h_pst ?_)
      rw [i_add (fi : Int) (i : Int), i_rem (by omega) (by omega) (by omega) (by omega), show ((fi : Int) + (i : Int)) % 30 = (((fi + i) % 30 : Nat) : Int) by omega]
      refine h_ainN hl (by omega) (h_bind g1 (h_pos y1 (h_ainN hl (by omega) (h_bind g2 (h_pos y2 (h_pst ?_))))))
      rw [i_add, show (i : Int) + 1 = ((i + 1 : Nat) : Int) by omega]
      exact a1
    · have hlj := Nat.mod_lt (fi + j) (show 0 < 30 by omega)
      have ms : mR (24 + 0 + 3 * ((fi + j) % 30)) f (mCopy S (24 + 115 + 3 * ((fi + i) % 30)) (24 + 0 + 3 * ((fi + i) % 30))) := mR_congr hm (mCopy_o (by omega)) (mCopy_a (by omega) (by omega)) (mCopy_a (by omega) (by omega)) (fun _ _ => rfl) h25
      refine a4 j f (by omega) h25 ms (fun hji => ?_)
      by_cases q : j = i
      · subst q
        exact mR_copy hm h25 (by omega) (by omega)
      · exact mR_congr (hd (by omega)) (mCopy_o (by omega)) (mCopy_a (by omega) (by omega)) (mCopy_a (by omega) (by omega)) (fun _ _ => rfl) h25
theorem im_mo {N : Nat} {S X : yS} {l m : List (Nat × Nat)} (hc : Cq 0 115 S X l m) (hl : ∀ e ∈ l, e.1 ≠ 120 ∧ e.1 ≠ 121) (hm : ∀ e ∈ m, e ≠ (119, 2)) (h01 : ∀ k, k < 12 → S.2.2.1 121 k = 0 ∨ S.2.2.1 121 k = 1) (hN : 2000000 ≤ N) : ∃ X', fX3_copy_t234_119 N X = some X' ∧ Cq 0 115 S X' ((121, 12) :: (120, 12) :: l) ((119, 2) :: m) ∧ X'.2.2.2.2 = X.2.2.2.2 := by
  have key : ∀ (r n k : Nat), k + r = 12 → lX3_copy_t234_119 N (n + r) (Int32.ofInt (k : Int)) (ySa (ySa X 235 (cpF (X.2.2.1 235) (X.2.2.1 120) 0 0 k)) 236 (cpF (X.2.2.1 236) (X.2.2.1 121) 0 0 k)) = lX3_copy_t234_119 N n (Int32.ofInt 12) (ySa (ySa X 235 (cpF (X.2.2.1 235) (X.2.2.1 120) 0 0 12)) 236 (cpF (X.2.2.1 236) (X.2.2.1 121) 0 0 12)) := by
    intro r
    induction r with
    | zero => intro n k hk; rw [show k = 12 by omega]; rfl
    | succ r ih =>
      intro n k hk
      rw [show n + (r + 1) = (n + r) + 1 by omega, lX3_copy_t234_119]
      refine h_neg (by first | omega | ((simp (disch := omega) only [i0, i1, i_lt, i_le, i_eq, i_add, i_sub, i_mul, i_neg, i_ofNat, i_rem, i_div, w_in, w_in2, w_cnt, w_cnt2, z01, z01', il, li, lc_ge, lc_le, lc_gt, lc_lt, lc_eq, l_ofNat, l0, l_eq, l_lt, l_le]) <;> omega)) (h_ainN (by omega) (by omega) (h_ainN (by omega) (by omega) (h_pst (h_ainN (by omega) (by omega) (h_ainN (by omega) (by omega) ?_)))))
      have e1 : (ySa (ySa X 235 (cpF (X.2.2.1 235) (X.2.2.1 120) 0 0 k)) 236 (cpF (X.2.2.1 236) (X.2.2.1 121) 0 0 k)).2.2.1 235 = cpF (X.2.2.1 235) (X.2.2.1 120) 0 0 k := by rw [ySa_ne _ _ (by omega), ySa_at]
      have e2 : (ySa (ySa X 235 (cpF (X.2.2.1 235) (X.2.2.1 120) 0 0 k)) 236 (cpF (X.2.2.1 236) (X.2.2.1 121) 0 0 k)).2.2.1 120 = X.2.2.1 120 := by rw [ySa_ne _ _ (by omega), ySa_ne _ _ (by omega)]
      have s1 := cpF_s (X.2.2.1 235) (X.2.2.1 120) 0 0 k
      have s2 := cpF_s (X.2.2.1 236) (X.2.2.1 121) 0 0 k
      rw [Nat.zero_add] at s1 s2
      rw [e1, e2, s1, ySa_ne _ _ (show 121 ≠ 235 by omega), ySa_ne _ _ (show 121 ≠ 236 by omega), ySa_ne _ _ (show 121 ≠ 235 by omega), ySa_ne _ _ (show 236 ≠ 235 by omega), ySa_at, s2]
      have b01 := h01 k (by omega)
      rw [← hc.2.1 121 (by omega)] at b01
      refine h_pos b01 (h_pst ?_)
      rw [i_add, show (k : Int) + 1 = ((k + 1 : Nat) : Int) by omega, ← ih n (k + 1) (by omega)]
      congr 1
      exact im_sw _ _ _ _ _
  have c1 := Cq_a (i := 120) (n := 12) hc (by omega) (by omega) (fun e he => (hl e he).1) (f := cpF (X.2.2.1 235) (X.2.2.1 120) 0 0 12) (fun k hk => by unfold cpF; rw [if_pos (by omega), show 0 + (k - 0) = k by omega])
  have c2 := Cq_a (i := 121) (n := 12) c1 (by omega) (by omega) (fun e he => by
    rcases List.mem_cons.mp he with rfl | he
    · decide
    · exact (hl e he).2) (f := cpF (X.2.2.1 236) (X.2.2.1 121) 0 0 12) (fun k hk => by unfold cpF; rw [if_pos (by omega), show 0 + (k - 0) = k by omega, ySa_ne _ _ (by omega)])
  have c3 := Cq_i (o := 119) (k := 2) c2 (by omega) (by omega) hm rfl
  refine ⟨_, ?_, c3, rfl⟩
  unfold fX3_copy_t234_119
  have k0 := key 12 (N - 13 + 1) 0 (by omega)
  rw [cpF_0, cpF_0, ySa_self X 235, ySa_self X 236, show N - 13 + 1 + 12 = N by omega] at k0
  refine Eq.trans k0 ?_
  rw [lX3_copy_t234_119]
  exact h_pos (by decide) rfl
theorem im_tx {N : Nat} {T : yK} {S : yS} (hT : ∀ t, t < 4 → oN T (S.2.2.2.2 118 t)) {l m : List (Nat × Nat)} : ∀ (r n t : Nat) (X : yS), t + r = 4 → Cq 0 115 S X l m → (∀ k, k < t → X.2.2.2.2 233 k = S.2.2.2.2 118 k) → ∃ X', lX0_copy_t133_18 N T (n + r) (Int32.ofInt (t : Int)) X = lX0_copy_t133_18 N T n (Int32.ofInt 4) X' ∧ Cq 0 115 S X' l m ∧ (∀ k, k < 4 → X'.2.2.2.2 233 k = S.2.2.2.2 118 k)
  | 0, n, t, X, ht, hc, hk => ⟨X, by rw [show t = 4 by omega]; rfl, hc, fun k h => hk k (by omega)⟩
  | r + 1, n, t, X, ht, hc, hk => by
    have e0 : X.2.2.2.2 118 t = S.2.2.2.2 118 t := by rw [hc.2.2.1 118 (by omega)]
    have up : ∀ (w : Option Nat), S.2.2.2.2 118 t = w → ∀ k, k < t + 1 → (ySq X 233 (va_up (X.2.2.2.2 233) t w)).2.2.2.2 233 k = S.2.2.2.2 118 k := by
      intro w hw k hk2
      rw [ySq_at]
      unfold va_up
      by_cases q : k = t
      · rw [if_pos q, q, hw]
      · rw [if_neg q]; exact hk k (by omega)
    rw [show n + (r + 1) = (n + r) + 1 by omega, lX0_copy_t133_18]
    rcases hT t (by omega) with hn | ⟨o, ho, hy⟩
    · obtain ⟨X', a1, a2, a3⟩ := im_tx hT r n (t + 1) (ySq X 233 (va_up (X.2.2.2.2 233) t none)) (by omega) (Cq_q hc) (up none hn)
      refine ⟨X', h_neg (by first | omega | ((simp (disch := omega) only [i0, i1, i_lt, i_le, i_eq, i_add, i_sub, i_mul, i_neg, i_ofNat, i_rem, i_div, w_in, w_in2, w_cnt, w_cnt2, z01, z01', il, li, lc_ge, lc_le, lc_gt, lc_lt, lc_eq, l_ofNat, l0, l_eq, l_lt, l_le]) <;> omega)) (h_ainN (by omega) (by omega) ?_), a2, a3⟩
      rw [e0, hn]
      refine h_ainN (by omega) (by omega) (h_pst ?_)
      rw [i_add, show (t : Int) + 1 = ((t + 1 : Nat) : Int) by omega]
      exact a1
    · obtain ⟨X', a1, a2, a3⟩ := im_tx hT r n (t + 1) (ySq X 233 (va_up (X.2.2.2.2 233) t (some o))) (by omega) (Cq_q hc) (up (some o) ho)
      refine ⟨X', h_neg (by first | omega | ((simp (disch := omega) only [i0, i1, i_lt, i_le, i_eq, i_add, i_sub, i_mul, i_neg, i_ofNat, i_rem, i_div, w_in, w_in2, w_cnt, w_cnt2, z01, z01', il, li, lc_ge, lc_le, lc_gt, lc_lt, lc_eq, l_ofNat, l0, l_eq, l_lt, l_le]) <;> omega)) (h_ainN (by omega) (by omega) ?_), a2, a3⟩
      rw [e0, ho]
      refine h_pos hy (h_ainN (by omega) (by omega) (h_pst ?_))
      rw [i_add, show (t : Int) + 1 = ((t + 1 : Nat) : Int) by omega]
      exact a1
theorem im_all {N : Nat} (hN : 2000000 ≤ N) {T : yK} {S : yS} {A : Nat → Int} (hs : cR 0 A S) (hr : rI A) (hd : ∀ t, t < 30 → S.2.2.2.2 138 t = some (24 + 115 + 3 * t)) (hT : ∀ t, t < 4 → oN T (S.2.2.2.2 118 t)) : ∃ S1, fX0_copy_t133_18 N T S = some S1 ∧ cR 115 A S1 ∧ (∀ t, t < 4 → S1.2.2.2.2 233 t = S.2.2.2.2 118 t) ∧ Fc 115 S S1 := by
  have hm : nowF A 5 ≤ 25 := hr.2.2.2.1.2.2.2.2.2.1.2
  have i3 := I_i3 hr
  obtain ⟨c1, c2, c3, c4, c5, fi, c6, c7, c8⟩ := id hs
  obtain ⟨ms, hms⟩ := Int.eq_ofNat_of_zero_le i3.1
  have e2 : fX2_copy_t134_19 S = some (mCopy S 134 19) := rfl
  have m2 : mR 134 (nowF A) (mCopy S 134 19) := mR_copy c3 hm (by omega) (by omega)
  -- the steps
  obtain ⟨S4, a1, a2, a3, a4⟩ := im_st (N := N) c6 ms N 0 (ySi (ySi (mCopy S 134 19) 137 1 ((mCopy S 134 19).1 22 1)) 137 2 ((ySi (mCopy S 134 19) 137 1 ((mCopy S 134 19).1 22 1)).1 22 2)) (by
      rw [fld_ne (by omega), fld_at, mCopy_o (by omega)]; exact c7) (by
      rw [fld_at, fld_o (by omega), mCopy_o (by omega), Nat.zero_add, ← hms]; exact c5) (by omega) hd c4 (by omega)
  have f1 : ∀ j, ¬ (19 + 115 ≤ j ∧ j ≤ 113 + 115) → S4.1 j = S.1 j := fun j hj => by rw [(a2 j (by omega)).1, fld_o (by omega), fld_o (by omega), mCopy_o (by omega)]
  have f2 : ∀ j, ¬ (19 + 115 ≤ j ∧ j ≤ 113 + 115) → S4.2.2.1 j = S.2.2.1 j := fun j hj => by rw [(a2 j (by omega)).2, ySi_2, ySi_2, mCopy_a (by omega) (by omega)]
  have f3 : S4.2.2.2.2 = S.2.2.2.2 := a3
  have g19 : mR (19 + 115) (nowF A) S4 := mR_congr m2 (by rw [(a2 _ (by omega)).1, fld_o (by omega), fld_o (by omega)]) (by rw [(a2 _ (by omega)).2, ySi_2, ySi_2]) (by rw [(a2 _ (by omega)).2, ySi_2, ySi_2]) (fun _ _ => rfl) hm
  have gst : sR 115 A S4 := by
    refine ⟨by rw [f3]; exact hd, ?_, fi, c6, ?_, fun i hi => ?_⟩
    · rw [(a2 _ (by omega)).1]
      show (ySi (ySi (mCopy S 134 19) 137 1 ((mCopy S 134 19).1 22 1)) 137 2 ((ySi (mCopy S 134 19) 137 1 ((mCopy S 134 19).1 22 1)).1 22 2)).1 137 2 = _
      rw [fld_at, fld_o (by omega), mCopy_o (by omega)]; exact c5
    · rw [(a2 _ (by omega)).1]
      show (ySi (ySi (mCopy S 134 19) 137 1 ((mCopy S 134 19).1 22 1)) 137 2 ((ySi (mCopy S 134 19) 137 1 ((mCopy S 134 19).1 22 1)).1 22 2)).1 137 1 = _
      rw [fld_ne (by omega), fld_at, mCopy_o (by omega)]; exact c7
    · have hl := Nat.mod_lt (fi + i) (show 0 < 30 by omega)
      have h25 := (hr.2.2.2.2 i hi).2.2.2.2.2.1.2
      refine a4 i _ (by omega) h25 (mR_congr (c8 i hi) ?_ ?_ ?_ (fun _ _ => rfl) h25) (fun q => absurd q (by omega))
      · rw [fld_o (by omega), fld_o (by omega), mCopy_o (by omega)]
      · rw [ySi_2, ySi_2, mCopy_a (by omega) (by omega)]
      · rw [ySi_2, ySi_2, mCopy_a (by omega) (by omega)]
  have hs4 : cR 0 A S4 := cR_frame hs hr (fun i a b => f1 i (by omega)) (fun i a b _ => f2 i (by omega)) (by rw [f3])
  have hT4 : ∀ t, t < 4 → oN T (S4.2.2.2.2 118 t) := fun t ht => by rw [f3]; exact hT t ht
  have h01 : ∀ k, k < 12 → S4.2.2.1 121 k = 0 ∨ S4.2.2.1 121 k = 1 := by
    intro k hk
    have v := hs4.2.1 _ (show (121, 12, 55, 2, (0 : Int), (1 : Int)) ∈ cTab by decide) k hk
    have b := hr.2.1 _ (show (121, 12, 55, 2, (0 : Int), (1 : Int)) ∈ cTab by decide) k hk
    dsimp only at v b
    have v' : S4.2.2.1 121 k = Int32.ofInt (A (55 + 2 * k)) := v
    rw [v']
    have : A (55 + 2 * k) = 0 ∨ A (55 + 2 * k) = 1 := by omega
    rcases this with q | q <;> rw [q]
    · exact Or.inl rfl
    · exact Or.inr rfl
  have hb : (0 = 0 ∧ 115 = 115 ∨ 0 = 115 ∧ 115 = 0) := by omega
  have key : ∃ S1, (pSt (ySa S4 229 (va_cpy (S4.2.2.1 114) (S4.2.2.1 229) 0 0 8)) fun S5 => pSt (ySa S5 230 (va_cpy (S5.2.2.1 115) (S5.2.2.1 230) 0 0 8)) fun S6 => pSt (ySa S6 231 (va_cpy (S6.2.2.1 116) (S6.2.2.1 231) 0 0 8)) fun S7 => pSt (ySi S7 133 5 (S7.1 18 5)) fun S8 => pSt (ySa S8 232 (va_cpy (S8.2.2.1 117) (S8.2.2.1 232) 0 0 9)) fun S9 => lX0_copy_t133_18 N T N (Int32.ofInt 0) S9) = some S1 ∧ (cR 115 A S1 ∧ (∀ t, t < 4 → S1.2.2.2.2 233 t = S4.2.2.2.2 118 t) ∧ Fc 115 S4 S1) := by
    refine ex_arr (bs := 0) (bd := 115) (Cq_0 S4) hb 114 8 (by omega) (by decide) (fun X1 q1 _ _ => ?_)
    refine ex_arr q1 hb 115 8 (by omega) (by decide) (fun X2 q2 _ _ => ?_)
    refine ex_arr q2 hb 116 8 (by omega) (by decide) (fun X3 q3 _ _ => ?_)
    refine ex_fld q3 hb 18 5 (by omega) (by decide) (fun X4 q4 _ => ?_)
    refine ex_arr q4 hb 117 9 (by omega) (by decide) (fun X5 q5 _ _ => ?_)
    obtain ⟨X6, t1, q6, t3⟩ := im_tx (N := N) hT4 4 (N - 5 + 1) 0 X5 (by omega) q5 (fun k hk => absurd hk (by omega))
    rw [show N - 5 + 1 + 4 = N by omega] at t1
    rw [show Int32.ofInt 0 = Int32.ofInt ((0 : Nat) : Int) from rfl, t1, lX0_copy_t133_18, if_pos (by decide)]
    refine ex_fld q6 hb 18 8 (by omega) (by decide) (fun X7 q7 u7 => ?_)
    refine ex_fld q7 hb 18 9 (by omega) (by decide) (fun X8 q8 u8 => ?_)
    obtain ⟨X9, n1, q9, n3⟩ := im_mo q8 (by decide) (by decide) h01 hN
    refine ex_bind n1 ?_
    have n6 : ∃ X10, fX6_copy_t237_122 X9 = some X10 ∧ Cq 0 115 S4 X10 [(123, 9), (121, 12), (120, 12), (117, 9), (116, 8), (115, 8), (114, 8)] [(119, 2), (18, 9), (18, 8), (18, 5)] ∧ X10.2.2.2.2 = X9.2.2.2.2 := by
      unfold fX6_copy_t237_122
      exact ex_arr q9 hb 123 9 (by omega) (by decide) (fun X q _ r => ⟨X, rfl, q, r⟩)
    obtain ⟨X10, n1', q10, n4⟩ := n6
    refine ex_bind n1' ?_
    have n7 : ∃ X11, fX4_copy_t239_124 X10 = some X11 ∧ Cq 0 115 S4 X11 [(126, 5), (125, 5), (123, 9), (121, 12), (120, 12), (117, 9), (116, 8), (115, 8), (114, 8)] [(119, 2), (18, 9), (18, 8), (18, 5)] ∧ X11.2.2.2.2 = X10.2.2.2.2 := by
      unfold fX4_copy_t239_124
      exact ex_arr q10 hb 125 5 (by omega) (by decide) (fun X q _ r => ex_arr q hb 126 5 (by omega) (by decide) (fun Y q' _ r' => ⟨Y, rfl, q', r'.trans r⟩))
    obtain ⟨X11, n8, q11, n5⟩ := n7
    refine ex_bind n8 ?_
    refine ex_arr q11 hb 130 8 (by omega) (by decide) (fun X12 q12 _ u12 => ?_)
    refine ex_arr q12 hb 131 8 (by omega) (by decide) (fun X13 q13 _ u13 => ?_)
    refine ex_fld q13 hb 18 15 (by omega) (by decide) (fun X14 q14 u14 => ?_)
    have ur : X14.2.2.2.2 = X6.2.2.2.2 := by rw [u14, u13, u12, n5, n4, n3, u8, u7]
    refine ⟨X14, rfl, cR_cq q14 hs4 hr hb g19 gst, fun t ht => by rw [ur]; exact t3 t ht, fun i hi => q14.1 i (by omega) (by omega), fun i hi => q14.2.1 i (by omega), fun i hi => q14.2.2.1 i (by omega)⟩
  obtain ⟨S1, k1, k2, k3, k4⟩ := key
  refine ⟨S1, ?_, k2, fun t ht => by rw [k3 t ht, f3], fun i hi => (k4.1 i hi).trans (f1 i (by omega)), fun i hi => (k4.2.1 i hi).trans (f2 i (by omega)), fun i hi => (k4.2.2 i hi).trans (by rw [f3])⟩
  unfold fX0_copy_t133_18
  refine h_bind e2 (h_bind (v := S4) ?_ k1)
  unfold fX8_copy_t137_22
  exact h_pst (h_pst a1)
theorem bk_sw (X : yS) (f g h k : Nat → Int32) : ySa (ySa (ySa (ySa X 120 f) 121 g) 120 h) 121 k = ySa (ySa X 120 h) 121 k := by
  unfold ySa
  congr 3
  funext i
  unfold yU
  dsimp only
  by_cases q1 : i = 121
  · rw [if_pos q1, if_pos q1]
  · rw [if_neg q1, if_neg q1]
    by_cases q2 : i = 120
    · rw [if_pos q2, if_pos q2, if_neg q1]
    · rw [if_neg q2, if_neg q2, if_neg q1, if_neg q2]
/-! ===== back ===== -/
theorem bk_st {N fi : Nat} (hfi : fi < 30) : ∀ (r n i : Nat) (S : yS), S.1 22 1 = Int32.ofInt (fi : Int) → S.1 22 2 = Int32.ofInt ((i + r : Nat) : Int) → i + r ≤ 30 → (∀ t, t < 30 → S.2.2.2.2 23 t = some (24 + 0 + 3 * t)) → (∀ t, t < 30 → S.2.2.2.2 138 t = some (24 + 115 + 3 * t)) → r < n → ∃ S', lX8_copy_137 N n (Int32.ofInt (i : Int)) S = some S' ∧ (∀ j, ¬ (24 + 0 ≤ j ∧ j ≤ 113 + 0) → S'.1 j = S.1 j ∧ S'.2.2.1 j = S.2.2.1 j) ∧ S'.2.2.2.2 = S.2.2.2.2 ∧ (∀ (j : Nat) (f : Nat → Int), j < i + r → f 5 ≤ 25 → mR (24 + 115 + 3 * ((fi + j) % 30)) f S → (j < i → mR (24 + 0 + 3 * ((fi + j) % 30)) f S) → mR (24 + 0 + 3 * ((fi + j) % 30)) f S')
  | 0, n + 1, i, S, h1, h2, h3, h4, h5, hn => by
    rw [lX8_copy_137, h2]
    exact ⟨S, h_pos (by first | omega | ((simp (disch := omega) only [i0, i1, i_lt, i_le, i_eq, i_add, i_sub, i_mul, i_neg, i_ofNat, i_rem, i_div, w_in, w_in2, w_cnt, w_cnt2, z01, z01', il, li, lc_ge, lc_le, lc_gt, lc_lt, lc_eq, l_ofNat, l0, l_eq, l_lt, l_le]) <;> omega)) rfl, fun _ _ => ⟨rfl, rfl⟩, rfl, fun j f hj _ _ hm => hm (by omega)⟩
  | r + 1, n + 1, i, S, h1, h2, h3, h4, h5, hn => by
    have hl := Nat.mod_lt (fi + i) (show 0 < 30 by omega)
    have g1 := h4 _ hl
    have g2 := h5 _ hl
    have y1 := yMo_st _ hl
    have y2 := yMo_sd _ hl
    obtain ⟨S', a1, a2, a3, a4⟩ := bk_st (N := N) hfi r n (i + 1) (mCopy S (24 + 0 + 3 * ((fi + i) % 30)) (24 + 115 + 3 * ((fi + i) % 30))) (by rw [mCopy_o (by omega)]; exact h1) (by rw [mCopy_o (by omega), h2]; congr 2; omega) (by omega) h4 h5 (by omega)
    refine ⟨S', ?_, fun j hj => ⟨(a2 j hj).1.trans (mCopy_o (by omega)), (a2 j hj).2.trans (mCopy_a (by omega) (by omega))⟩, a3, fun j f hj h25 hm hd => ?_⟩
    · rw [lX8_copy_137, h1, h2]
      refine h_neg (by first | omega | ((simp (disch := omega) only [i0, i1, i_lt, i_le, i_eq, i_add, i_sub, i_mul, i_neg, i_ofNat, i_rem, i_div, w_in, w_in2, w_cnt, w_cnt2, z01, z01', il, li, lc_ge, lc_le, lc_gt, lc_lt, lc_eq, l_ofNat, l0, l_eq, l_lt, l_le]) <;> omega)) (h_pst ?_)
      rw [i_add (fi : Int) (i : Int), i_rem (by omega) (by omega) (by omega) (by omega), show ((fi : Int) + (i : Int)) % 30 = (((fi + i) % 30 : Nat) : Int) by omega]
      refine h_ainN hl (by omega) (h_bind g1 (h_pos y1 (h_ainN hl (by omega) (h_bind g2 (h_pos y2 (h_pst ?_))))))
      rw [i_add, show (i : Int) + 1 = ((i + 1 : Nat) : Int) by omega]
      exact a1
    · have hlj := Nat.mod_lt (fi + j) (show 0 < 30 by omega)
      have ms : mR (24 + 115 + 3 * ((fi + j) % 30)) f (mCopy S (24 + 0 + 3 * ((fi + i) % 30)) (24 + 115 + 3 * ((fi + i) % 30))) := mR_congr hm (mCopy_o (by omega)) (mCopy_a (by omega) (by omega)) (mCopy_a (by omega) (by omega)) (fun _ _ => rfl) h25
      refine a4 j f (by omega) h25 ms (fun hji => ?_)
      by_cases q : j = i
      · subst q
        exact mR_copy hm h25 (by omega) (by omega)
      · exact mR_congr (hd (by omega)) (mCopy_o (by omega)) (mCopy_a (by omega) (by omega)) (mCopy_a (by omega) (by omega)) (fun _ _ => rfl) h25
theorem bk_mo {N : Nat} {S X : yS} {l m : List (Nat × Nat)} (hc : Cq 115 0 S X l m) (hl : ∀ e ∈ l, e.1 ≠ 120 ∧ e.1 ≠ 121) (hm : ∀ e ∈ m, e ≠ (119, 2)) (h01 : ∀ k, k < 12 → S.2.2.1 236 k = 0 ∨ S.2.2.1 236 k = 1) (hN : 2000000 ≤ N) : ∃ X', fX3_copy_234 N X = some X' ∧ Cq 115 0 S X' ((121, 12) :: (120, 12) :: l) ((119, 2) :: m) ∧ X'.2.2.2.2 = X.2.2.2.2 := by
  have key : ∀ (r n k : Nat), k + r = 12 → lX3_copy_234 N (n + r) (Int32.ofInt (k : Int)) (ySa (ySa X 120 (cpF (X.2.2.1 120) (X.2.2.1 235) 0 0 k)) 121 (cpF (X.2.2.1 121) (X.2.2.1 236) 0 0 k)) = lX3_copy_234 N n (Int32.ofInt 12) (ySa (ySa X 120 (cpF (X.2.2.1 120) (X.2.2.1 235) 0 0 12)) 121 (cpF (X.2.2.1 121) (X.2.2.1 236) 0 0 12)) := by
    intro r
    induction r with
    | zero => intro n k hk; rw [show k = 12 by omega]; rfl
    | succ r ih =>
      intro n k hk
      rw [show n + (r + 1) = (n + r) + 1 by omega, lX3_copy_234]
      refine h_neg (by first | omega | ((simp (disch := omega) only [i0, i1, i_lt, i_le, i_eq, i_add, i_sub, i_mul, i_neg, i_ofNat, i_rem, i_div, w_in, w_in2, w_cnt, w_cnt2, z01, z01', il, li, lc_ge, lc_le, lc_gt, lc_lt, lc_eq, l_ofNat, l0, l_eq, l_lt, l_le]) <;> omega)) (h_ainN (by omega) (by omega) (h_ainN (by omega) (by omega) (h_pst (h_ainN (by omega) (by omega) (h_ainN (by omega) (by omega) ?_)))))
      have e1 : (ySa (ySa X 120 (cpF (X.2.2.1 120) (X.2.2.1 235) 0 0 k)) 121 (cpF (X.2.2.1 121) (X.2.2.1 236) 0 0 k)).2.2.1 120 = cpF (X.2.2.1 120) (X.2.2.1 235) 0 0 k := by rw [ySa_ne _ _ (by omega), ySa_at]
      have e2 : (ySa (ySa X 120 (cpF (X.2.2.1 120) (X.2.2.1 235) 0 0 k)) 121 (cpF (X.2.2.1 121) (X.2.2.1 236) 0 0 k)).2.2.1 235 = X.2.2.1 235 := by rw [ySa_ne _ _ (by omega), ySa_ne _ _ (by omega)]
      have s1 := cpF_s (X.2.2.1 120) (X.2.2.1 235) 0 0 k
      have s2 := cpF_s (X.2.2.1 121) (X.2.2.1 236) 0 0 k
      rw [Nat.zero_add] at s1 s2
      rw [e1, e2, s1, ySa_ne _ _ (show 236 ≠ 120 by omega), ySa_ne _ _ (show 236 ≠ 121 by omega), ySa_ne _ _ (show 236 ≠ 120 by omega), ySa_ne _ _ (show 121 ≠ 120 by omega), ySa_at, s2]
      have b01 := h01 k (by omega)
      rw [← hc.2.1 236 (by omega)] at b01
      refine h_pos b01 (h_pst ?_)
      rw [i_add, show (k : Int) + 1 = ((k + 1 : Nat) : Int) by omega, ← ih n (k + 1) (by omega)]
      congr 1
      exact bk_sw _ _ _ _ _
  have c1 := Cq_a (i := 120) (n := 12) hc (by omega) (by omega) (fun e he => (hl e he).1) (f := cpF (X.2.2.1 120) (X.2.2.1 235) 0 0 12) (fun k hk => by unfold cpF; rw [if_pos (by omega), show 0 + (k - 0) = k by omega])
  have c2 := Cq_a (i := 121) (n := 12) c1 (by omega) (by omega) (fun e he => by
    rcases List.mem_cons.mp he with rfl | he
    · decide
    · exact (hl e he).2) (f := cpF (X.2.2.1 121) (X.2.2.1 236) 0 0 12) (fun k hk => by unfold cpF; rw [if_pos (by omega), show 0 + (k - 0) = k by omega, ySa_ne _ _ (by omega)])
  have c3 := Cq_i (o := 119) (k := 2) c2 (by omega) (by omega) hm rfl
  refine ⟨_, ?_, c3, rfl⟩
  unfold fX3_copy_234
  have k0 := key 12 (N - 13 + 1) 0 (by omega)
  rw [cpF_0, cpF_0, ySa_self X 120, ySa_self X 121, show N - 13 + 1 + 12 = N by omega] at k0
  refine Eq.trans k0 ?_
  rw [lX3_copy_234]
  exact h_pos (by decide) rfl
theorem bk_tx {N : Nat} {T : yK} {S : yS} (hT : ∀ t, t < 4 → oN T (S.2.2.2.2 233 t)) {l m : List (Nat × Nat)} : ∀ (r n t : Nat) (X : yS), t + r = 4 → Cq 115 0 S X l m → (∀ k, k < t → X.2.2.2.2 118 k = S.2.2.2.2 233 k) → ∃ X', lX0_copy_133 N T (n + r) (Int32.ofInt (t : Int)) X = lX0_copy_133 N T n (Int32.ofInt 4) X' ∧ Cq 115 0 S X' l m ∧ (∀ k, k < 4 → X'.2.2.2.2 118 k = S.2.2.2.2 233 k)
  | 0, n, t, X, ht, hc, hk => ⟨X, by rw [show t = 4 by omega]; rfl, hc, fun k h => hk k (by omega)⟩
  | r + 1, n, t, X, ht, hc, hk => by
    have e0 : X.2.2.2.2 233 t = S.2.2.2.2 233 t := by rw [hc.2.2.1 233 (by omega)]
    have up : ∀ (w : Option Nat), S.2.2.2.2 233 t = w → ∀ k, k < t + 1 → (ySq X 118 (va_up (X.2.2.2.2 118) t w)).2.2.2.2 118 k = S.2.2.2.2 233 k := by
      intro w hw k hk2
      rw [ySq_at]
      unfold va_up
      by_cases q : k = t
      · rw [if_pos q, q, hw]
      · rw [if_neg q]; exact hk k (by omega)
    rw [show n + (r + 1) = (n + r) + 1 by omega, lX0_copy_133]
    rcases hT t (by omega) with hn | ⟨o, ho, hy⟩
    · obtain ⟨X', a1, a2, a3⟩ := bk_tx hT r n (t + 1) (ySq X 118 (va_up (X.2.2.2.2 118) t none)) (by omega) (Cq_q hc) (up none hn)
      refine ⟨X', h_neg (by first | omega | ((simp (disch := omega) only [i0, i1, i_lt, i_le, i_eq, i_add, i_sub, i_mul, i_neg, i_ofNat, i_rem, i_div, w_in, w_in2, w_cnt, w_cnt2, z01, z01', il, li, lc_ge, lc_le, lc_gt, lc_lt, lc_eq, l_ofNat, l0, l_eq, l_lt, l_le]) <;> omega)) (h_ainN (by omega) (by omega) ?_), a2, a3⟩
      rw [e0, hn]
      refine h_ainN (by omega) (by omega) (h_pst ?_)
      rw [i_add, show (t : Int) + 1 = ((t + 1 : Nat) : Int) by omega]
      exact a1
    · obtain ⟨X', a1, a2, a3⟩ := bk_tx hT r n (t + 1) (ySq X 118 (va_up (X.2.2.2.2 118) t (some o))) (by omega) (Cq_q hc) (up (some o) ho)
      refine ⟨X', h_neg (by first | omega | ((simp (disch := omega) only [i0, i1, i_lt, i_le, i_eq, i_add, i_sub, i_mul, i_neg, i_ofNat, i_rem, i_div, w_in, w_in2, w_cnt, w_cnt2, z01, z01', il, li, lc_ge, lc_le, lc_gt, lc_lt, lc_eq, l_ofNat, l0, l_eq, l_lt, l_le]) <;> omega)) (h_ainN (by omega) (by omega) ?_), a2, a3⟩
      rw [e0, ho]
      refine h_pos hy (h_ainN (by omega) (by omega) (h_pst ?_))
      rw [i_add, show (t : Int) + 1 = ((t + 1 : Nat) : Int) by omega]
      exact a1
theorem bk_all {N : Nat} (hN : 2000000 ≤ N) {T : yK} {S : yS} {A : Nat → Int} (hs : cR 115 A S) (hr : rI A) (hd : ∀ t, t < 30 → S.2.2.2.2 23 t = some (24 + 0 + 3 * t)) (hT : ∀ t, t < 4 → oN T (S.2.2.2.2 233 t)) : ∃ S1, fX0_copy_133 N T S = some S1 ∧ cR 0 A S1 ∧ (∀ t, t < 4 → S1.2.2.2.2 118 t = S.2.2.2.2 233 t) ∧ Fc 0 S S1 := by
  have hm : nowF A 5 ≤ 25 := hr.2.2.2.1.2.2.2.2.2.1.2
  have i3 := I_i3 hr
  obtain ⟨c1, c2, c3, c4, c5, fi, c6, c7, c8⟩ := id hs
  obtain ⟨ms, hms⟩ := Int.eq_ofNat_of_zero_le i3.1
  have e2 : fX2_copy_134 S = some (mCopy S 19 134) := rfl
  have m2 : mR 19 (nowF A) (mCopy S 19 134) := mR_copy c3 hm (by omega) (by omega)
  -- the steps
  obtain ⟨S4, a1, a2, a3, a4⟩ := bk_st (N := N) c6 ms N 0 (ySi (ySi (mCopy S 19 134) 22 1 ((mCopy S 19 134).1 137 1)) 22 2 ((ySi (mCopy S 19 134) 22 1 ((mCopy S 19 134).1 137 1)).1 137 2)) (by
      rw [fld_ne (by omega), fld_at, mCopy_o (by omega)]; exact c7) (by
      rw [fld_at, fld_o (by omega), mCopy_o (by omega), Nat.zero_add, ← hms]; exact c5) (by omega) hd c4 (by omega)
  have f1 : ∀ j, ¬ (19 + 0 ≤ j ∧ j ≤ 113 + 0) → S4.1 j = S.1 j := fun j hj => by rw [(a2 j (by omega)).1, fld_o (by omega), fld_o (by omega), mCopy_o (by omega)]
  have f2 : ∀ j, ¬ (19 + 0 ≤ j ∧ j ≤ 113 + 0) → S4.2.2.1 j = S.2.2.1 j := fun j hj => by rw [(a2 j (by omega)).2, ySi_2, ySi_2, mCopy_a (by omega) (by omega)]
  have f3 : S4.2.2.2.2 = S.2.2.2.2 := a3
  have g19 : mR (19 + 0) (nowF A) S4 := mR_congr m2 (by rw [(a2 _ (by omega)).1, fld_o (by omega), fld_o (by omega)]) (by rw [(a2 _ (by omega)).2, ySi_2, ySi_2]) (by rw [(a2 _ (by omega)).2, ySi_2, ySi_2]) (fun _ _ => rfl) hm
  have gst : sR 0 A S4 := by
    refine ⟨by rw [f3]; exact hd, ?_, fi, c6, ?_, fun i hi => ?_⟩
    · rw [(a2 _ (by omega)).1]
      show (ySi (ySi (mCopy S 19 134) 22 1 ((mCopy S 19 134).1 137 1)) 22 2 ((ySi (mCopy S 19 134) 22 1 ((mCopy S 19 134).1 137 1)).1 137 2)).1 22 2 = _
      rw [fld_at, fld_o (by omega), mCopy_o (by omega)]; exact c5
    · rw [(a2 _ (by omega)).1]
      show (ySi (ySi (mCopy S 19 134) 22 1 ((mCopy S 19 134).1 137 1)) 22 2 ((ySi (mCopy S 19 134) 22 1 ((mCopy S 19 134).1 137 1)).1 137 2)).1 22 1 = _
      rw [fld_ne (by omega), fld_at, mCopy_o (by omega)]; exact c7
    · have hl := Nat.mod_lt (fi + i) (show 0 < 30 by omega)
      have h25 := (hr.2.2.2.2 i hi).2.2.2.2.2.1.2
      refine a4 i _ (by omega) h25 (mR_congr (c8 i hi) ?_ ?_ ?_ (fun _ _ => rfl) h25) (fun q => absurd q (by omega))
      · rw [fld_o (by omega), fld_o (by omega), mCopy_o (by omega)]
      · rw [ySi_2, ySi_2, mCopy_a (by omega) (by omega)]
      · rw [ySi_2, ySi_2, mCopy_a (by omega) (by omega)]
  have hs4 : cR 115 A S4 := cR_frame hs hr (fun i a b => f1 i (by omega)) (fun i a b _ => f2 i (by omega)) (by rw [f3])
  have hT4 : ∀ t, t < 4 → oN T (S4.2.2.2.2 233 t) := fun t ht => by rw [f3]; exact hT t ht
  have h01 : ∀ k, k < 12 → S4.2.2.1 236 k = 0 ∨ S4.2.2.1 236 k = 1 := by
    intro k hk
    have v := hs4.2.1 _ (show (121, 12, 55, 2, (0 : Int), (1 : Int)) ∈ cTab by decide) k hk
    have b := hr.2.1 _ (show (121, 12, 55, 2, (0 : Int), (1 : Int)) ∈ cTab by decide) k hk
    dsimp only at v b
    have v' : S4.2.2.1 236 k = Int32.ofInt (A (55 + 2 * k)) := v
    rw [v']
    have : A (55 + 2 * k) = 0 ∨ A (55 + 2 * k) = 1 := by omega
    rcases this with q | q <;> rw [q]
    · exact Or.inl rfl
    · exact Or.inr rfl
  have hb : (115 = 0 ∧ 0 = 115 ∨ 115 = 115 ∧ 0 = 0) := by omega
  have key : ∃ S1, (pSt (ySa S4 114 (va_cpy (S4.2.2.1 229) (S4.2.2.1 114) 0 0 8)) fun S5 => pSt (ySa S5 115 (va_cpy (S5.2.2.1 230) (S5.2.2.1 115) 0 0 8)) fun S6 => pSt (ySa S6 116 (va_cpy (S6.2.2.1 231) (S6.2.2.1 116) 0 0 8)) fun S7 => pSt (ySi S7 18 5 (S7.1 133 5)) fun S8 => pSt (ySa S8 117 (va_cpy (S8.2.2.1 232) (S8.2.2.1 117) 0 0 9)) fun S9 => lX0_copy_133 N T N (Int32.ofInt 0) S9) = some S1 ∧ (cR 0 A S1 ∧ (∀ t, t < 4 → S1.2.2.2.2 118 t = S4.2.2.2.2 233 t) ∧ Fc 0 S4 S1) := by
    refine ex_arr (bs := 115) (bd := 0) (Cq_0 S4) hb 114 8 (by omega) (by decide) (fun X1 q1 _ _ => ?_)
    refine ex_arr q1 hb 115 8 (by omega) (by decide) (fun X2 q2 _ _ => ?_)
    refine ex_arr q2 hb 116 8 (by omega) (by decide) (fun X3 q3 _ _ => ?_)
    refine ex_fld q3 hb 18 5 (by omega) (by decide) (fun X4 q4 _ => ?_)
    refine ex_arr q4 hb 117 9 (by omega) (by decide) (fun X5 q5 _ _ => ?_)
    obtain ⟨X6, t1, q6, t3⟩ := bk_tx (N := N) hT4 4 (N - 5 + 1) 0 X5 (by omega) q5 (fun k hk => absurd hk (by omega))
    rw [show N - 5 + 1 + 4 = N by omega] at t1
    rw [show Int32.ofInt 0 = Int32.ofInt ((0 : Nat) : Int) from rfl, t1, lX0_copy_133, if_pos (by decide)]
    refine ex_fld q6 hb 18 8 (by omega) (by decide) (fun X7 q7 u7 => ?_)
    refine ex_fld q7 hb 18 9 (by omega) (by decide) (fun X8 q8 u8 => ?_)
    obtain ⟨X9, n1, q9, n3⟩ := bk_mo q8 (by decide) (by decide) h01 hN
    refine ex_bind n1 ?_
    have n6 : ∃ X10, fX6_copy_237 X9 = some X10 ∧ Cq 115 0 S4 X10 [(123, 9), (121, 12), (120, 12), (117, 9), (116, 8), (115, 8), (114, 8)] [(119, 2), (18, 9), (18, 8), (18, 5)] ∧ X10.2.2.2.2 = X9.2.2.2.2 := by
      unfold fX6_copy_237
      exact ex_arr q9 hb 123 9 (by omega) (by decide) (fun X q _ r => ⟨X, rfl, q, r⟩)
    obtain ⟨X10, n1', q10, n4⟩ := n6
    refine ex_bind n1' ?_
    have n7 : ∃ X11, fX4_copy_239 X10 = some X11 ∧ Cq 115 0 S4 X11 [(126, 5), (125, 5), (123, 9), (121, 12), (120, 12), (117, 9), (116, 8), (115, 8), (114, 8)] [(119, 2), (18, 9), (18, 8), (18, 5)] ∧ X11.2.2.2.2 = X10.2.2.2.2 := by
      unfold fX4_copy_239
      exact ex_arr q10 hb 125 5 (by omega) (by decide) (fun X q _ r => ex_arr q hb 126 5 (by omega) (by decide) (fun Y q' _ r' => ⟨Y, rfl, q', r'.trans r⟩))
    obtain ⟨X11, n8, q11, n5⟩ := n7
    refine ex_bind n8 ?_
    refine ex_arr q11 hb 130 8 (by omega) (by decide) (fun X12 q12 _ u12 => ?_)
    refine ex_arr q12 hb 131 8 (by omega) (by decide) (fun X13 q13 _ u13 => ?_)
    refine ex_fld q13 hb 18 15 (by omega) (by decide) (fun X14 q14 u14 => ?_)
    have ur : X14.2.2.2.2 = X6.2.2.2.2 := by rw [u14, u13, u12, n5, n4, n3, u8, u7]
    refine ⟨X14, rfl, cR_cq q14 hs4 hr hb g19 gst, fun t ht => by rw [ur]; exact t3 t ht, fun i hi => q14.1 i (by omega) (by omega), fun i hi => q14.2.1 i (by omega), fun i hi => q14.2.2.1 i (by omega)⟩
  obtain ⟨S1, k1, k2, k3, k4⟩ := key
  refine ⟨S1, ?_, k2, fun t ht => by rw [k3 t ht, f3], fun i hi => (k4.1 i hi).trans (f1 i (by omega)), fun i hi => (k4.2.1 i hi).trans (f2 i (by omega)), fun i hi => (k4.2.2 i hi).trans (by rw [f3])⟩
  unfold fX0_copy_133
  refine h_bind e2 (h_bind (v := S4) ?_ k1)
  unfold fX8_copy_137
  exact h_pst (h_pst a1)
