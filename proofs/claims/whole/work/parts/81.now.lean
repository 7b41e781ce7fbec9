/-! ===== the moment now changes; draws ===== -/
def nowP (k : Nat) : Prop := (6 ≤ k ∧ k < 21) ∨ (1313 ≤ k ∧ k < 1338)
/-- what a step may change on the class's side -/
def Gn (S S' : yS) : Prop := (∀ i, kO i → i ≠ 19 → S'.1 i = S.1 i) ∧ (∀ i, kA i → i ≠ 20 → i ≠ 21 → S'.2.2.1 i = S.2.2.1 i) ∧ S'.2.2.2.2 = S.2.2.2.2
theorem Gn_refl (S : yS) : Gn S S := ⟨fun _ _ _ => rfl, fun _ _ _ _ => rfl, rfl⟩
theorem Gn_trans {S S1 S2 : yS} (h1 : Gn S S1) (h2 : Gn S1 S2) : Gn S S2 := ⟨fun i a b => (h2.1 i a b).trans (h1.1 i a b), fun i a b c => (h2.2.1 i a b c).trans (h1.2.1 i a b c), h2.2.2.trans h1.2.2⟩
theorem Gn_Fq {S S' : yS} (h : Fq S S') : Gn S S' := ⟨fun i a _ => h.1 i a, fun i a _ _ => h.2.1 i a, h.2.2⟩
theorem Gn_i {S : yS} {k : Nat} {v : Int32} : Gn S (ySi S 19 k v) := ⟨fun i _ b => fld_o b, fun _ _ _ _ => rfl, rfl⟩
theorem Gn_a {S : yS} {a : Nat} {f : Nat → Int32} (h : a = 20 ∨ a = 21) : Gn S (ySa S a f) := ⟨fun _ _ _ => rfl, fun i _ b c => yU_ne (by omega), rfl⟩
theorem Gn_rv {S S' : yS} (h : Gn S S') {r : Nat} (hr : kA r) (h2 : 22 ≤ r) : rv S' r = rv S r := rv_congr (h.2.1 r hr (by omega) (by omega))
/-- what a step may change on the reference's side -/
def Hn (S S' : yS) : Prop := (∀ i, kO i → i ≠ 265 → S'.1 i = S.1 i) ∧ (∀ k, k ≠ 24 → S'.1 265 k = S.1 265 k) ∧ (∀ i, kA i → i ≠ 266 → S'.2.2.1 i = S.2.2.1 i) ∧ S'.2.2.2.2 = S.2.2.2.2
theorem Hn_refl (S : yS) : Hn S S := ⟨fun _ _ _ => rfl, fun _ _ => rfl, fun _ _ _ => rfl, rfl⟩
theorem Hn_trans {S S1 S2 : yS} (h1 : Hn S S1) (h2 : Hn S1 S2) : Hn S S2 := ⟨fun i a b => (h2.1 i a b).trans (h1.1 i a b), fun k a => (h2.2.1 k a).trans (h1.2.1 k a), fun i a b => (h2.2.2.1 i a b).trans (h1.2.2.1 i a b), h2.2.2.2.trans h1.2.2.2⟩
theorem Hn_Fq {S S' : yS} (h : Fq S S') : Hn S S' := ⟨fun i a _ => h.1 i a, fun k _ => by rw [h.1 265 (by unfold kO; omega)], fun i a _ => h.2.1 i a, h.2.2⟩
theorem Hn_a {S : yS} {f : Nat → Int32} : Hn S (ySa S 266 f) := ⟨fun _ _ _ => rfl, fun _ _ => rfl, fun i _ b => yU_ne b, rfl⟩
theorem Hn_i {S : yS} {v : Int32} : Hn S (ySi S 265 24 v) := ⟨fun i _ b => fld_o b, fun k a => fld_ne a, fun _ _ _ => rfl, rfl⟩
/-- .. and 265 stays as it was -/
def Hz (S S' : yS) : Prop := Hn S S' ∧ S'.1 265 = S.1 265
theorem Hz_refl (S : yS) : Hz S S := ⟨Hn_refl S, rfl⟩
theorem Hz_trans {S S1 S2 : yS} (h1 : Hz S S1) (h2 : Hz S1 S2) : Hz S S2 := ⟨Hn_trans h1.1 h2.1, h2.2.trans h1.2⟩
theorem Hz_Fq {S S' : yS} (h : Fq S S') : Hz S S' := ⟨Hn_Fq h, h.1 265 (by unfold kO; omega)⟩
theorem Hz_a {S : yS} {f : Nat → Int32} : Hz S (ySa S 266 f) := ⟨Hn_a, rfl⟩
theorem rI_now {A A' : Nat → Int} (h : rI A) (hA : ∀ k, ¬ nowP k → A' k = A k) (m : mI (A 0) (nowF A')) : rI A' := by
  obtain ⟨a, b, c, d, e⟩ := h
  have q : ∀ k, (k < 6 ∨ 21 ≤ k) → k < 1313 → A' k = A k := fun k h1 h2 => hA k (by unfold nowP; omega)
  refine ⟨?_, rA_same b (fun k h1 h2 => q k (by omega) (by omega)), fun k hk => ?_, ?_, fun i hi => ?_⟩
  · rw [q 0 (by omega) (by omega), q 1 (by omega) (by omega), q 2 (by omega) (by omega), q 3 (by omega) (by omega), q 4 (by omega) (by omega), q 5 (by omega) (by omega)]
    exact a
  · rw [q 0 (by omega) (by omega)] at hk
    rw [q _ (by omega) (by omega), q _ (by omega) (by omega)]
    exact c k hk
  · rw [q 0 (by omega) (by omega)]; exact m
  · rw [q 3 (by omega) (by omega)] at hi
    rw [q 0 (by omega) (by omega)]
    exact mI_congr (e i hi) (Int.le_refl _) (stF_congr (fun k h1 h2 => q k (by omega) (by omega)) (by omega))
section PMS
variable {T : yK} {S S' : yS} {A A' : Nat → Int} {W : Nat → wP}
theorem ClR_now (h : ClR T A S W) (g : Gn S S') (hA : ∀ k, ¬ nowP k → A' k = A k) (m : mI (A 0) (nowF A')) (mr : mR 19 (nowF A') S') : ClR T A' S' W := by
  obtain ⟨⟨c1, c2, c3, c4, c5, fi, c6, c7, c8⟩, hr, x⟩ := h
  have q : ∀ k, (k < 6 ∨ 21 ≤ k) → k < 1313 → A' k = A k := fun k h1 h2 => hA k (by unfold nowP; omega)
  have h3 := I_i3 hr
  refine ⟨⟨?_, ?_, mr, ?_, ?_, fi, c6, ?_, ?_⟩, rI_now hr hA m, fun t ht => ?_⟩
  · unfold cI at c1 ⊢
    rw [q 0 (by omega) (by omega), q 1 (by omega) (by omega), q 2 (by omega) (by omega), q 5 (by omega) (by omega), q 4 (by omega) (by omega), g.1 _ (by unfold kO; omega) (by omega), g.1 _ (by unfold kO; omega) (by omega)]
    exact c1
  · intro e he k hk
    obtain ⟨r1, r2, r3, r4, r5, r6, r7, r8⟩ := cTab_rng e he
    have r7 := r7 k hk
    rw [q _ (by omega) (by omega), g.2.1 _ (by unfold kA; omega) (by omega) (by omega)]
    exact c2 e he k hk
  · rw [g.2.2]; exact c4
  · rw [g.1 _ (by unfold kO; omega) (by omega), q 3 (by omega) (by omega)]; exact c5
  · rw [g.1 _ (by unfold kO; omega) (by omega)]; exact c7
  · intro i hi
    rw [q 3 (by omega) (by omega)] at hi
    have := Nat.mod_lt (fi + i) (show 0 < 30 by omega)
    exact mR_congr (c8 i hi) (g.1 _ (by unfold kO; omega) (by omega)) (g.2.1 _ (by unfold kA; omega) (by omega) (by omega)) (g.2.1 _ (by unfold kA; omega) (by omega) (by omega)) (stF_congr (fun k h1 h2 => q k (by omega) (by omega)) (by omega)) (hr.2.2.2.2 i hi).2.2.2.2.2.1.2
  · rw [q 1 (by omega) (by omega)] at ht
    obtain ⟨o, o1, o2⟩ := x t ht
    have ho : 281 ≤ o := (yTx_K o2.1).2.2.2.2.2.2
    exact ⟨o, by rw [g.2.2]; exact o1, txC_congr o2 (g.1 o (by unfold kO; omega) (by omega)) (g.2.1 _ (by unfold kA; omega) (by omega) (by omega)) (g.2.1 _ (by unfold kA; omega) (by omega) (by omega))⟩
theorem RfR_now (h : RfR S W) (hA : ∀ k, ¬ nowP k → rv S' 266 k = rv S 266 k) (m : mI (rv S 266 0) (nowF (rv S' 266))) (h8 : S'.2.2.1 268 = S.2.2.1 268) : RfR S' W := by
  refine ⟨rI_now h.1 hA m, fun t ht => ?_⟩
  rw [hA 1 (by unfold nowP; omega)] at ht
  exact txF_congr (h.2 t ht) h8
theorem nowF_a {k : Nat} (h : k < 8) : nowF A (7 + k) = A (13 + k) := by
  unfold nowF
  rw [if_pos (by omega), show 6 + (7 + k) = 13 + k by omega]
theorem nowF_b {k : Nat} : nowF A (15 + k) = A (1313 + k) := by
  unfold nowF
  rw [if_neg (by omega), show 1298 + (15 + k) = 1313 + k by omega]
theorem now_mI {B : Int} (h0 : 0 ≤ A 6 ∧ A 6 ≤ 9999) (h1 : 0 ≤ A 7 ∧ A 7 < 30949) (h2 : -9999 ≤ A 8 ∧ A 8 ≤ 9999) (h3 : 0 ≤ A 9 ∧ A 9 ≤ 8) (h4 : 0 ≤ A 10 ∧ A 10 ≤ 9) (h5 : 0 ≤ A 11 ∧ A 11 ≤ 25) (h6 : 0 ≤ A 12 ∧ A 12 < 2 ^ B.toNat) (h7 : ∀ k : Nat, k < 8 → 0 ≤ A (13 + k) ∧ A (13 + k) ≤ 9999) (h8 : ∀ k : Nat, (k : Int) < A 11 → 0 ≤ A (1313 + k) ∧ A (1313 + k) < 180000000 ∧ 1 ≤ A (1313 + k) % 200) : mI B (nowF A) := by
  refine ⟨h0, h1, h2, h3, h4, h5, h6, fun k hk => ?_, fun k hk => ?_⟩
  · rw [nowF_a hk]; exact h7 k hk
  · rw [nowF_b]; exact h8 k hk
theorem now_mR (h0 : S.1 19 4 = Int32.ofInt (A 6)) (h1 : S.1 19 5 = Int32.ofInt (A 7)) (h2 : S.1 19 1 = Int32.ofInt (A 8)) (h3 : S.1 19 2 = Int32.ofInt (A 9)) (h4 : S.1 19 3 = Int32.ofInt (A 10)) (h5 : S.1 19 8 = Int32.ofInt (A 11)) (h6 : S.1 19 0 = Int32.ofInt (A 12)) (h7 : ∀ k : Nat, k < 8 → S.2.2.1 20 k = Int32.ofInt (A (13 + k))) (h8 : ∀ k : Nat, (k : Int) < A 11 → S.2.2.1 21 k = Int32.ofInt (pgC (A (1313 + k)))) : mR 19 (nowF A) S := by
  refine ⟨⟨h6, h2, h3, h4, h0, h1, h5⟩, fun k hk => ?_, fun k hk => ?_⟩
  · rw [nowF_a hk]; exact h7 k hk
  · rw [nowF_b]; exact h8 k hk
theorem K_page (h : cR 0 A S) {k : Nat} (hk : (k : Int) < A 11) : S.2.2.1 21 k = Int32.ofInt (pgC (A (1313 + k))) := by
  have := h.2.2.1.2.2 k hk
  rw [nowF_b] at this
  exact this
theorem I_page (h : rI A) {k : Nat} (hk : (k : Int) < A 11) : 0 ≤ A (1313 + k) ∧ A (1313 + k) < 180000000 ∧ 1 ≤ A (1313 + k) % 200 := by
  have := (I_m h).2.2.2.2.2.2.2.2 k hk
  rw [nowF_b] at this
  exact this
/-! one of the single numbers of now, or one count of comings, is written anew -/
theorem up_mI {j : Nat} {x : Int} (h : rI A) (hj : j ≠ 11) (hj2 : j < 21) (h0 : j = 6 → 0 ≤ x ∧ x ≤ 9999) (h1 : j = 7 → 0 ≤ x ∧ x < 30949) (h2 : j = 8 → -9999 ≤ x ∧ x ≤ 9999) (h3 : j = 9 → 0 ≤ x ∧ x ≤ 8) (h4 : j = 10 → 0 ≤ x ∧ x ≤ 9) (h6 : j = 12 → 0 ≤ x ∧ x < 2 ^ (A 0).toNat) (h7 : 13 ≤ j → 0 ≤ x ∧ x ≤ 9999) : mI (A 0) (nowF (rU A j x)) := by
  have k0 := I_day h
  have k1 := I_x h
  have k2 := I_fund h
  have k3 := I_cnt h
  have k4 := I_thg h
  have k5 := I_pgs h
  have k6 := I_gone h
  refine now_mI ?_ ?_ ?_ ?_ ?_ ?_ ?_ (fun k hk => ?_) (fun k hk => ?_)
  · unfold rU; split
    · exact h0 (by omega)
    · exact k0
  · unfold rU; split
    · exact h1 (by omega)
    · exact k1
  · unfold rU; split
    · exact h2 (by omega)
    · exact k2
  · unfold rU; split
    · exact h3 (by omega)
    · exact k3
  · unfold rU; split
    · exact h4 (by omega)
    · exact k4
  · rw [rU_ne (by omega)]; exact k5
  · unfold rU; split
    · exact h6 (by omega)
    · exact k6
  · have := I_came h hk
    unfold rU; split
    · exact h7 (by omega)
    · exact this
  · rw [rU_ne (by omega)] at hk
    rw [rU_ne (by omega)]
    exact I_page h hk
theorem rU_now {j : Nat} {x : Int} (hj : 6 ≤ j) (hj2 : j < 21) : ∀ k, ¬ nowP k → rU A j x k = A k := fun k hk => rU_ne (by unfold nowP at hk; omega)
/-- which field of the class holds which number of now -/
def nfC (j : Nat) : Nat := if j = 6 then 4 else if j = 7 then 5 else if j = 8 then 1 else if j = 9 then 2 else if j = 10 then 3 else if j = 11 then 8 else 0
theorem up_mR {j : Nat} {x : Int} (h : cR 0 A S) (hj : 6 ≤ j) (hj2 : j < 13) (hj3 : j ≠ 11) : mR 19 (nowF (rU A j x)) (ySi S 19 (nfC j) (Int32.ofInt x)) := by
  have hc : j = 6 ∨ j = 7 ∨ j = 8 ∨ j = 9 ∨ j = 10 ∨ j = 12 := by omega
  have key : ∀ i, 6 ≤ i → i < 13 → S.1 19 (nfC i) = Int32.ofInt (A i) → (ySi S 19 (nfC j) (Int32.ofInt x)).1 19 (nfC i) = Int32.ofInt (rU A j x i) := by
    intro i a b e
    by_cases hi : i = j
    · subst hi
      rw [fld_at, rU_eq]
    · rw [fld_ne, rU_ne hi]
      · exact e
      · intro q
        have : i = 6 ∨ i = 7 ∨ i = 8 ∨ i = 9 ∨ i = 10 ∨ i = 11 ∨ i = 12 := by omega
        rcases hc with rfl | rfl | rfl | rfl | rfl | rfl <;> rcases this with rfl | rfl | rfl | rfl | rfl | rfl | rfl <;> first | exact hi rfl | exact absurd q (by decide)
  refine now_mR (key 6 (by omega) (by omega) (K_day h)) (key 7 (by omega) (by omega) (K_x h)) (key 8 (by omega) (by omega) (K_fund h)) (key 9 (by omega) (by omega) (K_cnt h)) (key 10 (by omega) (by omega) (K_thg h)) (key 11 (by omega) (by omega) (K_pgs h)) (key 12 (by omega) (by omega) (K_gone h)) (fun k hk => ?_) (fun k hk => ?_)
  · rw [rU_ne (by omega)]; exact K_came h hk
  · rw [rU_ne (by omega)] at hk
    rw [rU_ne (by omega)]; exact K_page h hk
theorem up_ClR {j : Nat} {x : Int} (h : ClR T A S W) (hj : 6 ≤ j) (hj2 : j < 13) (hj3 : j ≠ 11) (m : mI (A 0) (nowF (rU A j x))) : ClR T (rU A j x) (ySi S 19 (nfC j) (Int32.ofInt x)) W := ClR_now h Gn_i (rU_now hj (by omega)) m (up_mR h.1 hj hj2 hj3)
theorem up_RfR {j : Nat} {x : Int} (h : RfR S W) (hA : rv S 266 = A) (hj : 6 ≤ j) (hj2 : j < 21) (hx : -2147483648 ≤ x ∧ x < 2147483648) (m : mI (A 0) (nowF (rU A j x))) : RfR (ySa S 266 (upd (S.2.2.1 266) j (Int32.ofInt x))) W ∧ rv (ySa S 266 (upd (S.2.2.1 266) j (Int32.ofInt x))) 266 = rU A j x := by
  have e : rv (ySa S 266 (upd (S.2.2.1 266) j (Int32.ofInt x))) 266 = rU A j x := by rw [rv_w hx.1 hx.2, hA]
  refine ⟨RfR_now h ?_ ?_ rfl, e⟩
  · rw [e, hA]; exact rU_now hj hj2
  · rw [e, hA]; exact m
/-! draws -/
def dwA (A : Nat → Int) : Nat → Int := rU A 7 ((A 7 * 661 + 541) % 30949)
theorem dw_mI (h : rI A) : mI (A 0) (nowF (dwA A)) := by
  have := I_x h
  exact up_mI h (by omega) (by omega) (by omega) (fun _ => by omega) (by omega) (by omega) (by omega) (by omega) (by omega)
theorem k_draw (h : ClR T A S W) : fX2_draw S = some (Int32.ofInt (A 7), ySi S 19 5 (Int32.ofInt ((A 7 * 661 + 541) % 30949))) ∧ ClR T (dwA A) (ySi S 19 5 (Int32.ofInt ((A 7 * 661 + 541) % 30949))) W := by
  have hx := I_x h.2.1
  refine ⟨?_, up_ClR (j := 7) h (by omega) (by omega) (by omega) (dw_mI h.2.1)⟩
  unfold fX2_draw
  rw [K_x h.1, i_mul, i_add, i_rem (by omega) (by omega) (by omega) (by omega)]
  rfl
theorem q_draw (h : RfR S W) (hA : rv S 266 = A) {v : Int} (hv : 0 < v ∧ v < 1000000) : ∃ S1, fX12_drawnBy (Int32.ofInt v) S = some (Int32.ofInt (A 7 % v), S1) ∧ RfR S1 W ∧ rv S1 266 = dwA A ∧ Hz S S1 := by
  have hr := h.1
  rw [hA] at hr
  have hx := I_x hr
  have u := up_RfR (j := 7) (x := (A 7 * 661 + 541) % 30949) h hA (by omega) (by omega) (by omega) (dw_mI hr)
  refine ⟨ySa S 266 (upd (S.2.2.1 266) 7 (Int32.ofInt ((A 7 * 661 + 541) % 30949))), ?_, u.1, u.2, Hz_a⟩
  unfold fX12_drawnBy fX12_anew
  rw [rv_eq S 266 7, hA, i_rem (by omega) (by omega) (by omega) (by omega), il (by omega) (by omega), l_mul, l_add, l_rem (by omega) (by omega) (by omega) (by omega), li]
  exact h_neg (by first | omega | ((simp (disch := omega) only [i0, i1, i_lt, i_le, i_eq, i_add, i_sub, i_mul, i_neg, i_ofNat, i_rem, i_div, w_in, w_in2, w_cnt, w_cnt2, z01, z01', il, li, lc_ge, lc_le, lc_gt, lc_lt, lc_eq, l_ofNat, l0, l_eq, l_lt, l_le]) <;> omega)) rfl
end PMS
