/-! ===== steps: a moment is kept ===== -/
theorem ySa_1 (S : yS) (a : Nat) (f : Nat → Int32) : (ySa S a f).1 = S.1 := rfl
theorem ySi_2 (S : yS) (i k : Nat) (v : Int32) : (ySi S i k v).2 = S.2 := rfl
theorem mCopy_o {S : yS} {q p i : Nat} (h : i ≠ q) : (mCopy S q p).1 i = S.1 i := by
  simp (disch := omega) only [mCopy, pSt, ySa_1, fld_o]
theorem mCopy_v {S : yS} {q p k : Nat} (h : p ≠ q) (hk : k = 0 ∨ k = 1 ∨ k = 2 ∨ k = 3 ∨ k = 4 ∨ k = 5 ∨ k = 8) : (mCopy S q p).1 q k = S.1 p k := by
  rcases hk with rfl | rfl | rfl | rfl | rfl | rfl | rfl <;> simp (disch := omega) only [mCopy, pSt, ySa_1, fld_at, fld_ne, fld_o]
theorem mCopy_a {S : yS} {q p i : Nat} (h : i ≠ q + 1) (h2 : i ≠ q + 2) : (mCopy S q p).2.2.1 i = S.2.2.1 i := by
  simp (disch := omega) only [mCopy, pSt, ySi_2, ySa_ne]
theorem mCopy_c {S : yS} {q p : Nat} : (mCopy S q p).2.2.1 (q + 1) = va_cpy (S.2.2.1 (p + 1)) (S.2.2.1 (q + 1)) 0 0 8 := by
  simp (disch := omega) only [mCopy, pSt, ySi_2, ySa_ne, ySa_at]
theorem mCopy_b {S : yS} {q p : Nat} (h : p ≠ q) (h2 : p + 2 ≠ q + 1) : (mCopy S q p).2.2.1 (q + 2) = va_cpy (S.2.2.1 (p + 2)) (S.2.2.1 (q + 2)) 0 0 25 := by
  simp (disch := omega) only [mCopy, pSt, ySi_2, ySa_ne, ySa_at]
theorem mCopy_r {S : yS} {q p : Nat} : (mCopy S q p).2.2.2.2 = S.2.2.2.2 := rfl
theorem mR_copy {S : yS} {q p : Nat} {f : Nat → Int} (h : mR p f S) (hp : f 5 ≤ 25) (h1 : p ≠ q) (h2 : p + 2 ≠ q + 1) : mR q f (mCopy S q p) := by
  obtain ⟨⟨a0, a1, a2, a3, a4, a5, a6⟩, hc, hb⟩ := h
  refine ⟨?_, fun k hk => ?_, fun k hk => ?_⟩
  · rw [mCopy_v h1 (by omega), mCopy_v h1 (by omega), mCopy_v h1 (by omega), mCopy_v h1 (by omega), mCopy_v h1 (by omega), mCopy_v h1 (by omega), mCopy_v h1 (by omega)]
    exact ⟨a0, a1, a2, a3, a4, a5, a6⟩
  · rw [mCopy_c]
    unfold va_cpy
    rw [if_pos (by omega), show 0 + (k - 0) = k by omega]
    exact hc k hk
  · rw [mCopy_b h1 h2]
    unfold va_cpy
    rw [if_pos (by omega), show 0 + (k - 0) = k by omega]
    exact hb k hk
/-- what a step may change on the class's side, the steps that are kept with it -/
def Gs (S S' : yS) : Prop := (∀ i, kO i → ¬ (19 ≤ i ∧ i ≤ 113) → i ≠ 247 → S'.1 i = S.1 i) ∧ (∀ i, kA i → ¬ (20 ≤ i ∧ i ≤ 113) → ¬ (248 ≤ i ∧ i ≤ 249) → S'.2.2.1 i = S.2.2.1 i) ∧ S'.2.2.2.2 = S.2.2.2.2
theorem Gs_refl (S : yS) : Gs S S := ⟨fun _ _ _ _ => rfl, fun _ _ _ _ => rfl, rfl⟩
theorem Gs_trans {S S1 S2 : yS} (h1 : Gs S S1) (h2 : Gs S1 S2) : Gs S S2 := ⟨fun i a b c => (h2.1 i a b c).trans (h1.1 i a b c), fun i a b c => (h2.2.1 i a b c).trans (h1.2.1 i a b c), h2.2.2.trans h1.2.2⟩
theorem Gs_Gn {S S' : yS} (h : Gn S S') : Gs S S' := ⟨fun i a b _ => h.1 i a (by omega), fun i a b _ => h.2.1 i a (by omega) (by omega), h.2.2⟩
theorem Gs_i {S : yS} {i k : Nat} {v : Int32} (h : 19 ≤ i ∧ i ≤ 113) : Gs S (ySi S i k v) := ⟨fun j _ b _ => fld_o (by omega), fun _ _ _ _ => rfl, rfl⟩
theorem Gs_c {S : yS} {q p : Nat} (h : 19 ≤ q ∧ q ≤ 111 ∨ q = 247) : Gs S (mCopy S q p) := ⟨fun j _ b _ => mCopy_o (by omega), fun j _ b _ => mCopy_a (by omega) (by omega), rfl⟩
/-- what playing may change on the class's side -/
def Gp (S S' : yS) : Prop := (∀ i, kO i → ¬ (18 ≤ i ∧ i ≤ 131) → i ≠ 247 → S'.1 i = S.1 i) ∧ (∀ i, kA i → ¬ (18 ≤ i ∧ i ≤ 131) → ¬ (248 ≤ i ∧ i ≤ 249) → S'.2.2.1 i = S.2.2.1 i) ∧ S'.2.2.2.2 = S.2.2.2.2 ∧ S'.1 18 8 = S.1 18 8
theorem Gp_refl (S : yS) : Gp S S := ⟨fun _ _ _ _ => rfl, fun _ _ _ _ => rfl, rfl, rfl⟩
theorem Gp_trans {S S1 S2 : yS} (h1 : Gp S S1) (h2 : Gp S1 S2) : Gp S S2 := ⟨fun i a b c => (h2.1 i a b c).trans (h1.1 i a b c), fun i a b c => (h2.2.1 i a b c).trans (h1.2.1 i a b c), h2.2.2.1.trans h1.2.2.1, h2.2.2.2.trans h1.2.2.2⟩
theorem Gp_Gs {S S' : yS} (h : Gs S S') : Gp S S' := ⟨fun i a b c => h.1 i a (by omega) c, fun i a b c => h.2.1 i a (by omega) c, h.2.2, by rw [h.1 18 (by unfold kO; omega) (by omega) (by omega)]⟩
section PMS
variable {T : yK} {S S' S1 S2 : yS} {A A' : Nat → Int} {W : Nat → wP}
theorem RfR_Gp (h : RfR S W) (g : Gp S S') : RfR S' W ∧ rv S' 266 = rv S 266 := by
  have e6 : rv S' 266 = rv S 266 := rv_congr (g.2.1 266 (by unfold kA; omega) (by omega) (by omega))
  refine ⟨?_, e6⟩
  unfold RfR
  rw [e6]
  exact ⟨h.1, fun t ht => txF_congr (h.2 t ht) (g.2.1 268 (by unfold kA; omega) (by omega) (by omega))⟩
theorem ClR_st (h : ClR T A S W) (g : Gs S S') (hA : ∀ k, (k < 6 ∨ 21 ≤ k) → k < 113 → k ≠ 3 → A' k = A k) (hr' : rI A') (mr : mR 19 (nowF A') S') (sr : sR 0 A' S') : ClR T A' S' W := by
  obtain ⟨⟨c1, c2, c3, c4⟩, hr, x⟩ := h
  refine ⟨⟨?_, ?_, mr, sr⟩, hr', fun t ht => ?_⟩
  · unfold cI at c1 ⊢
    rw [hA 0 (by omega) (by omega) (by omega), hA 1 (by omega) (by omega) (by omega), hA 2 (by omega) (by omega) (by omega), hA 5 (by omega) (by omega) (by omega), hA 4 (by omega) (by omega) (by omega), g.1 _ (by unfold kO; omega) (by omega) (by omega), g.1 _ (by unfold kO; omega) (by omega) (by omega)]
    exact c1
  · intro e he k hk
    obtain ⟨r1, r2, r3, r4, r5, r6, r7, r8⟩ := cTab_rng e he
    have r7 := r7 k hk
    rw [hA _ (by omega) (by omega) (by omega), g.2.1 _ (by unfold kA; omega) (by omega) (by omega)]
    exact c2 e he k hk
  · rw [hA 1 (by omega) (by omega) (by omega)] at ht
    obtain ⟨o, o1, o2⟩ := x t ht
    have ho : 281 ≤ o := (yTx_K o2.1).2.2.2.2.2.2
    exact ⟨o, by rw [g.2.2]; exact o1, txC_congr o2 (g.1 o (by unfold kO; omega) (by omega) (by omega)) (g.2.1 _ (by unfold kA; omega) (by omega) (by omega)) (g.2.1 _ (by unfold kA; omega) (by omega) (by omega))⟩
/-- .. of the reference, with what is laid aside -/
def Hw (S S' : yS) : Prop := (∀ i, kO i → i ≠ 265 → S'.1 i = S.1 i) ∧ (∀ k, k ≠ 24 → S'.1 265 k = S.1 265 k) ∧ (∀ i, kA i → i ≠ 266 → i ≠ 274 → S'.2.2.1 i = S.2.2.1 i) ∧ S'.2.2.2.2 = S.2.2.2.2
theorem Hw_Hn (h : Hn S S') : Hw S S' := ⟨h.1, h.2.1, fun i a b _ => h.2.2.1 i a b, h.2.2.2⟩
/-- both sides put together again -/
theorem Rel_join (h : Rel T S) (g : Gp S S1) (c : ClR T A S1 W) (k : Hw S1 S2) (r : RfR S2 W) (hA : rv S2 266 = A) : Rel T S2 := by
  have h1 : A 1 = rv S 266 1 := by
    have a1 := I_i1 c.2.1
    have a2 := R_i1 h
    have a3 := K_texts c.1
    rw [g.2.2.2, C_texts h] at a3
    have a4 := congrArg Int32.toInt a3
    rw [i_toInt (by omega) (by omega), i_toInt (by omega) (by omega)] at a4
    exact a4.symm
  obtain ⟨c0, c1, r0, r1, ht, hf, hx⟩ := h
  have e7 : rv S2 267 = rv S 267 := (rv_congr (k.2.2.1 267 (by unfold kA; omega) (by omega) (by omega))).trans (rv_congr (g.2.1 267 (by unfold kA; omega) (by omega) (by omega)))
  have f1 : ∀ i, kO i → ¬ (18 ≤ i ∧ i ≤ 131) → i ≠ 265 ∧ i ≠ 247 → S2.1 i = S.1 i := fun i a b d => (k.1 i a d.1).trans (g.1 i a b d.2)
  have f2 : ∀ i, kA i → ¬ (18 ≤ i ∧ i ≤ 131) → i ≠ 266 ∧ ¬ (248 ≤ i ∧ i ≤ 249) ∧ i ≠ 274 → S2.2.2.1 i = S.2.2.1 i := fun i a b d => (k.2.2.1 i a d.1 d.2.2).trans (g.2.1 i a b d.2.1)
  have f3 : S2.2.2.2.2 = S.2.2.2.2 := k.2.2.2.trans g.2.2.1
  have f4 : ∀ j, j ≠ 24 → S2.1 265 j = S.1 265 j := fun j hj => (k.2.1 j hj).trans (by rw [g.1 265 (by unfold kO; omega) (by omega) (by omega)])
  have r2 := r.1
  unfold Rel
  rw [hA] at r2 ⊢
  rw [e7]
  refine ⟨cR_frame c.1 c.2.1 (fun i a b => k.1 i (by unfold kO; omega) (by omega)) (fun i a b d => k.2.2.1 i (by unfold kA; omega) (by omega) (by omega)) (by rw [k.2.2.2]), cR_frame c1 r1 (fun i a b => f1 i (by unfold kO; omega) (by omega) (by omega)) (fun i a b d => f2 i (by unfold kA; omega) (by omega) (by omega)) (by rw [f3]), r2, r1, ?_, ?_, ?_⟩
  · obtain ⟨n, n1, n2, n3, n4⟩ := ht
    refine ⟨n, n1, ?_, ?_, fun k hk => ?_⟩
    · rw [f1 251 (by unfold kO; omega) (by omega) (by omega)]; exact n2
    · rw [f4 4 (by omega)]; exact n3
    · rw [rv_congr (f2 252 (by unfold kA; omega) (by omega) (by omega)), f2 252 (by unfold kA; omega) (by omega) (by omega), f2 269 (by unfold kA; omega) (by omega) (by omega)]; exact n4 k hk
  · unfold flR
    rw [f1 16 (by unfold kO; omega) (by omega) (by omega), f4 5 (by omega), f4 6 (by omega), f4 23 (by omega)]; exact hf
  · exact txR_congr hx (fun i hi => f1 i (by unfold kO; omega) (by omega) (by omega)) (fun i hi => f2 i (by unfold kA; omega) (by omega) (by omega)) (f2 268 (by unfold kA; omega) (by omega) (by omega)) f3 (by rw [hA, h1]) (by rw [e7])
end PMS
section PMS
variable {T : yK} {S : yS}
/-- a method by what each side does of itself -/
theorem PM_gw {f g : yS → Option (Int32 × yS)} (h : Rel T S) {W : Nat → wP} (hW : RfR S W) {S1 : yS} {A' : Nat → Int} {q : Int32} (h1 : f S = some (q, S1)) (h2 : ClR T A' S1 W) (h3 : Gp S S1) (h4 : RfR S1 W → rv S1 266 = rv S 266 → S1.1 265 23 = Int32.ofInt 1 → ∃ S2, g S1 = some (q, S2) ∧ RfR S2 W ∧ rv S2 266 = A' ∧ Hw S1 S2) : PM T S f g := by
  have r := RfR_Gp hW h3
  obtain ⟨S2, a, b, c, d⟩ := h4 r.1 r.2 (by rw [h3.1 265 (by unfold kO; omega) (by omega) (by omega)]; exact h.2.2.2.2.2.1.2.2)
  exact ⟨q, S1, S2, h1, a, Rel_join h h3 h2 d b c⟩
theorem PM_gp {f g : yS → Option (Int32 × yS)} (h : Rel T S) {W : Nat → wP} (hW : RfR S W) {S1 : yS} {A' : Nat → Int} {q : Int32} (h1 : f S = some (q, S1)) (h2 : ClR T A' S1 W) (h3 : Gp S S1) (h4 : RfR S1 W → rv S1 266 = rv S 266 → S1.1 265 23 = Int32.ofInt 1 → ∃ S2, g S1 = some (q, S2) ∧ RfR S2 W ∧ rv S2 266 = A' ∧ Hn S1 S2) : PM T S f g := by
  refine PM_gw h hW h1 h2 h3 (fun r e w => ?_)
  obtain ⟨S2, a, b, c, d⟩ := h4 r e w
  exact ⟨S2, a, b, c, Hw_Hn d⟩
end PMS
/-! the row behind a moment kept -/
def shA (A : Nat → Int) : Nat → Int := if A 3 = 30 then (fun k => if k = 3 then 29 else if 113 ≤ k ∧ k < 1273 then A (k + 40) else A k) else A
def kpA (A : Nat → Int) : Nat → Int := fun k => if k = 3 then shA A 3 + 1 else if 113 + 40 * (shA A 3).toNat ≤ k ∧ k < 153 + 40 * (shA A 3).toNat then nowF A (k - (113 + 40 * (shA A 3).toNat)) else shA A k
section KP
variable {A : Nat → Int}
theorem shA_3 (h : rI A) : shA A 3 = min (A 3) 29 := by
  have h3 := I_i3 h
  unfold shA
  by_cases q : A 3 = 30
  · rw [if_pos q, if_pos rfl]; omega
  · rw [if_neg q]; omega
theorem kpA_3 (h : rI A) : kpA A 3 = min (A 3 + 1) 30 := by
  have h3 := I_i3 h
  unfold kpA
  rw [if_pos rfl, shA_3 h]; omega
theorem kpA_o (h : rI A) {k : Nat} (hk : k < 113 ∨ 1313 ≤ k) (h2 : k ≠ 3) : kpA A k = A k := by
  have h3 := I_i3 h
  have e := shA_3 h
  unfold kpA
  rw [if_neg h2, if_neg (by omega)]
  unfold shA
  by_cases q : A 3 = 30
  · rw [if_pos q, if_neg h2, if_neg (by omega)]
  · rw [if_neg q]
theorem kpA_now (h : rI A) : ∀ k, k < 40 → nowF (kpA A) k = nowF A k := nowF_congr (fun k a b => kpA_o h (by omega) (by omega)) (fun k a b => kpA_o h (by omega) (by omega))
theorem kpA_new (h : rI A) {i : Nat} (hi : (i : Int) = min (A 3) 29) : ∀ k, k < 40 → stF (kpA A) i k = nowF A k := by
  intro k hk
  have h3 := I_i3 h
  have e := shA_3 h
  unfold stF kpA
  rw [if_neg (by omega), if_pos (by omega), show 113 + 40 * i + k - (113 + 40 * (shA A 3).toNat) = k by omega]
theorem kpA_old (h : rI A) {i : Nat} (hi : (i : Int) < A 3) (h30 : A 3 < 30) : ∀ k, k < 40 → stF (kpA A) i k = stF A i k := by
  intro k hk
  have h3 := I_i3 h
  have e := shA_3 h
  unfold stF kpA
  rw [if_neg (by omega), if_neg (by omega)]
  unfold shA
  rw [if_neg (by omega)]
theorem kpA_sh (h : rI A) {i : Nat} (hi : i < 29) (h30 : A 3 = 30) : ∀ k, k < 40 → stF (kpA A) i k = stF A (i + 1) k := by
  intro k hk
  have h3 := I_i3 h
  have e := shA_3 h
  unfold stF kpA
  rw [if_neg (by omega), if_neg (by omega)]
  unfold shA
  rw [if_pos h30, if_neg (by omega), if_pos (by omega), show 113 + 40 * i + k + 40 = 113 + 40 * (i + 1) + k by omega]
theorem kpA_rI (h : rI A) : rI (kpA A) := by
  have h3 := I_i3 h
  have k3 := kpA_3 h
  obtain ⟨a, b, c, d, e⟩ := id h
  refine ⟨?_, rA_same b (fun k h1 h2 => kpA_o h (by omega) (by omega)), fun k hk => ?_, ?_, fun i hi => ?_⟩
  · rw [kpA_o h (by omega) (show 0 ≠ 3 by omega), kpA_o h (by omega) (show 1 ≠ 3 by omega), kpA_o h (by omega) (show 2 ≠ 3 by omega), kpA_o h (by omega) (show 4 ≠ 3 by omega), kpA_o h (by omega) (show 5 ≠ 3 by omega), k3]
    exact ⟨a.1, a.2.1, a.2.2.1, by omega, a.2.2.2.2⟩
  · rw [kpA_o h (by omega) (show 0 ≠ 3 by omega)] at hk
    have := a.1
    rw [kpA_o h (by omega) (by omega), kpA_o h (by omega) (by omega)]
    exact c k hk
  · rw [kpA_o h (by omega) (show 0 ≠ 3 by omega)]
    exact mI_congr d (Int.le_refl _) (kpA_now h)
  · rw [k3] at hi
    rw [kpA_o h (by omega) (show 0 ≠ 3 by omega)]
    by_cases h30 : A 3 < 30
    · by_cases q : (i : Int) < A 3
      · exact mI_congr (e i q) (Int.le_refl _) (kpA_old h q h30)
      · exact mI_congr d (Int.le_refl _) (kpA_new h (by omega))
    · by_cases q : i < 29
      · exact mI_congr (e (i + 1) (by omega)) (Int.le_refl _) (kpA_sh h q (by omega))
      · exact mI_congr d (Int.le_refl _) (kpA_new h (by omega))
end KP
theorem yMo_st : ∀ t : Nat, t < 30 → yMo (24 + 0 + 3 * t) = true := by decide +kernel
section PMS
variable {T : yK} {S S' S1 S2 : yS} {A A' : Nat → Int} {W : Nat → wP}
theorem k_keep (h : ClR T A S W) : ∃ S1, fX8_keep_19 S = some S1 ∧ ClR T (kpA A) S1 W ∧ Gs S S1 := by
  have hr := h.2.1
  have h3 := I_i3 hr
  have k3 := kpA_3 hr
  have hm : nowF A 5 ≤ 25 := hr.2.2.2.1.2.2.2.2.2.1.2
  obtain ⟨c1, c2, c3, c4, c5, fi, c6, c7, c8⟩ := h.1
  obtain ⟨m, hm3⟩ := Int.eq_ofNat_of_zero_le h3.1
  have hlt := Nat.mod_lt (fi + m) (show 0 < 30 by omega)
  have eo := c4 ((fi + m) % 30) hlt
  have ey := yMo_st ((fi + m) % 30) hlt
  have c5' : S.1 22 2 = Int32.ofInt (m : Int) := by rw [← hm3]; exact c5
  have c7' : S.1 22 1 = Int32.ofInt (fi : Int) := c7
  generalize hq : 24 + 0 + 3 * ((fi + m) % 30) = q at eo ey
  have g3 : Gs S (mCopy S q 19) := Gs_c (by omega)
  have mq : mR q (nowF A) (mCopy S q 19) := mR_copy c3 hm (by omega) (by omega)
  have m19 : mR 19 (nowF A) (mCopy S q 19) := mR_congr c3 (mCopy_o (by omega)) (mCopy_a (by omega) (by omega)) (mCopy_a (by omega) (by omega)) (fun _ _ => rfl) hm
  have mo : ∀ i : Nat, (i : Int) < A 3 → (fi + i) % 30 ≠ (fi + m) % 30 → mR (24 + 0 + 3 * ((fi + i) % 30)) (stF A i) (mCopy S q 19) := fun i hi hne => by
    have := Nat.mod_lt (fi + i) (show 0 < 30 by omega)
    exact mR_congr (c8 i hi) (mCopy_o (by omega)) (mCopy_a (by omega) (by omega)) (mCopy_a (by omega) (by omega)) (fun _ _ => rfl) (hr.2.2.2.2 i hi).2.2.2.2.2.1.2
  have e1 : (mCopy S q 19).1 22 = S.1 22 := mCopy_o (by omega)
  have md : ∀ {q' : Nat} {f : Nat → Int} {j : Nat} {v : Int32}, q' ≠ 22 → mR q' f (mCopy S q 19) → mR q' f (ySi (mCopy S q 19) 22 j v) := fun {q'} {f} {j} {v} hq' hh => by
    unfold mR at hh ⊢
    rw [fld_o hq']
    exact hh
  have st : (ain 30 (((S.1 22 1) + (S.1 22 2)) - ((S.1 22 1) + (S.1 22 2)) / (Int32.ofInt 30) * (Int32.ofInt 30))) = some ((fi + m) % 30) := by
    rw [c5', c7', i_add, i_rem (by omega) (by omega) (by omega) (by omega), show ((fi : Int) + (m : Int)) % 30 = (((fi + m) % 30 : Nat) : Int) by omega, ain_n hlt (by omega)]
  unfold fX8_keep_19
  by_cases h30 : A 3 < 30
  · refine ⟨ySi (mCopy S q 19) 22 2 (Int32.ofInt ((m : Int) + 1)), h_bind st (h_bind eo (h_pos ey (h_pst ?_))), ?_, Gs_trans g3 (Gs_i (by omega))⟩
    · rw [e1, c5']
      refine h_neg (by first | omega | ((simp (disch := omega) only [i0, i1, i_lt, i_le, i_eq, i_add, i_sub, i_mul, i_neg, i_ofNat, i_rem, i_div, w_in, w_in2, w_cnt, w_cnt2, z01, z01', il, li, lc_ge, lc_le, lc_gt, lc_lt, lc_eq, l_ofNat, l0, l_eq, l_lt, l_le]) <;> omega)) (h_pst ?_)
      rw [i_add]
    · refine ClR_st h (Gs_trans g3 (Gs_i (by omega))) (fun k a b c => kpA_o hr (by omega) c) (kpA_rI hr) (md (by omega) (mR_congr m19 rfl rfl rfl (kpA_now hr) hm)) ⟨c4, ?_, fi, c6, ?_, fun i hi => ?_⟩
      · show (ySi (mCopy S q 19) 22 2 (Int32.ofInt ((m : Int) + 1))).1 22 2 = _
        rw [fld_at, k3]
        congr 1
        omega
      · show (ySi (mCopy S q 19) 22 2 (Int32.ofInt ((m : Int) + 1))).1 22 1 = _
        rw [fld_ne (by omega), e1]; exact c7
      · rw [k3] at hi
        have hl := Nat.mod_lt (fi + i) (show 0 < 30 by omega)
        refine md (by omega) ?_
        by_cases qi : (i : Int) < A 3
        · exact mR_congr (mo i qi (by omega)) rfl rfl rfl (kpA_old hr qi h30) (hr.2.2.2.2 i qi).2.2.2.2.2.1.2
        · rw [show 24 + 0 + 3 * ((fi + i) % 30) = q by rw [← hq, show i = m by omega]]
          exact mR_congr mq rfl rfl rfl (kpA_new hr (by omega)) hm
  · have hm30 : m = 30 := by omega
    refine ⟨ySi (mCopy S q 19) 22 1 (Int32.ofInt (((fi + 1) % 30 : Nat) : Int)), h_bind st (h_bind eo (h_pos ey (h_pst ?_))), ?_, Gs_trans g3 (Gs_i (by omega))⟩
    · rw [e1, c5', c7']
      refine h_pos (by first | omega | ((simp (disch := omega) only [i0, i1, i_lt, i_le, i_eq, i_add, i_sub, i_mul, i_neg, i_ofNat, i_rem, i_div, w_in, w_in2, w_cnt, w_cnt2, z01, z01', il, li, lc_ge, lc_le, lc_gt, lc_lt, lc_eq, l_ofNat, l0, l_eq, l_lt, l_le]) <;> omega)) (h_pst ?_)
      rw [i_add, i_rem (by omega) (by omega) (by omega) (by omega), show ((fi : Int) + 1) % 30 = (((fi + 1) % 30 : Nat) : Int) by omega]
    · refine ClR_st h (Gs_trans g3 (Gs_i (by omega))) (fun k a b c => kpA_o hr (by omega) c) (kpA_rI hr) (md (by omega) (mR_congr m19 rfl rfl rfl (kpA_now hr) hm)) ⟨c4, ?_, (fi + 1) % 30, Nat.mod_lt _ (by omega), ?_, fun i hi => ?_⟩
      · show (ySi (mCopy S q 19) 22 1 (Int32.ofInt (((fi + 1) % 30 : Nat) : Int))).1 22 2 = _
        rw [fld_ne (by omega), e1, c5', k3]
        congr 1
        omega
      · show (ySi (mCopy S q 19) 22 1 (Int32.ofInt (((fi + 1) % 30 : Nat) : Int))).1 22 1 = _
        rw [fld_at]
      · rw [k3] at hi
        have hl := Nat.mod_lt ((fi + 1) % 30 + i) (show 0 < 30 by omega)
        refine md (by omega) ?_
        by_cases qi : i < 29
        · have e : 24 + 0 + 3 * (((fi + 1) % 30 + i) % 30) = 24 + 0 + 3 * ((fi + (i + 1)) % 30) := by omega
          rw [e]
          exact mR_congr (mo (i + 1) (by omega) (by omega)) rfl rfl rfl (kpA_sh hr qi (by omega)) (hr.2.2.2.2 (i + 1) (by omega)).2.2.2.2.2.1.2
        · rw [show 24 + 0 + 3 * (((fi + 1) % 30 + i) % 30) = q by omega]
          exact mR_congr mq rfl rfl rfl (kpA_new hr (by omega)) hm
/-! the reference -/
theorem kp_s0 {N : Nat} (n k : Nat) (S : yS) (hk : k < 1160) : lX12_keep N (n + 1) 0 (Int32.ofInt ((0 + k : Nat) : Int)) 0 S = lX12_keep N n 0 (Int32.ofInt ((0 + k + 1 : Nat) : Int)) 0 (ySa S 266 (upd (S.2.2.1 266) (113 + k) (S.2.2.1 266 (153 + k)))) := by
  rw [lX12_keep]
  refine h_pos rfl (h_neg (by first | omega | ((simp (disch := omega) only [i0, i1, i_lt, i_le, i_eq, i_add, i_sub, i_mul, i_neg, i_ofNat, i_rem, i_div, w_in, w_in2, w_cnt, w_cnt2, z01, z01', il, li, lc_ge, lc_le, lc_gt, lc_lt, lc_eq, l_ofNat, l0, l_eq, l_lt, l_le]) <;> omega)) ?_)
  simp only [i_add]
  rw [show (153 : Int) + ((0 + k : Nat) : Int) = ((153 + k : Nat) : Int) by omega, show (113 : Int) + ((0 + k : Nat) : Int) = ((113 + k : Nat) : Int) by omega, show ((0 + k : Nat) : Int) + 1 = ((0 + k + 1 : Nat) : Int) by omega]
  exact h_ainN (by omega) (by omega) (h_ainN (by omega) (by omega) rfl)
theorem kp_s1 {N x : Nat} (hx : x + 40 ≤ 1313) (n k : Nat) (S : yS) (hk : k < 15) : lX12_keep N (n + 1) 1 (Int32.ofInt (x : Int)) (Int32.ofInt ((0 + k : Nat) : Int)) S = lX12_keep N n 1 (Int32.ofInt (x : Int)) (Int32.ofInt ((0 + k + 1 : Nat) : Int)) (ySa S 266 (upd (S.2.2.1 266) (x + k) (S.2.2.1 266 (6 + k)))) := by
  rw [lX12_keep]
  refine h_neg (by decide) (h_pos rfl (h_neg (by first | omega | ((simp (disch := omega) only [i0, i1, i_lt, i_le, i_eq, i_add, i_sub, i_mul, i_neg, i_ofNat, i_rem, i_div, w_in, w_in2, w_cnt, w_cnt2, z01, z01', il, li, lc_ge, lc_le, lc_gt, lc_lt, lc_eq, l_ofNat, l0, l_eq, l_lt, l_le]) <;> omega)) ?_))
  simp only [i_add]
  rw [show (6 : Int) + ((0 + k : Nat) : Int) = ((6 + k : Nat) : Int) by omega, show (x : Int) + ((0 + k : Nat) : Int) = ((x + k : Nat) : Int) by omega, show ((0 + k : Nat) : Int) + 1 = ((0 + k + 1 : Nat) : Int) by omega]
  exact h_ainN (by omega) (by omega) (h_ainN (by omega) (by omega) rfl)
theorem kp_s2 {N x : Nat} (hx : x + 40 ≤ 1313) (n k : Nat) (S : yS) (hk : k < 25) : lX12_keep N (n + 1) 2 (Int32.ofInt (x : Int)) (Int32.ofInt ((0 + k : Nat) : Int)) S = lX12_keep N n 2 (Int32.ofInt (x : Int)) (Int32.ofInt ((0 + k + 1 : Nat) : Int)) (ySa S 266 (upd (S.2.2.1 266) (x + 15 + k) (S.2.2.1 266 (1313 + k)))) := by
  rw [lX12_keep]
  refine h_neg (by decide) (h_neg (by decide) (h_neg (by first | omega | ((simp (disch := omega) only [i0, i1, i_lt, i_le, i_eq, i_add, i_sub, i_mul, i_neg, i_ofNat, i_rem, i_div, w_in, w_in2, w_cnt, w_cnt2, z01, z01', il, li, lc_ge, lc_le, lc_gt, lc_lt, lc_eq, l_ofNat, l0, l_eq, l_lt, l_le]) <;> omega)) ?_))
  simp only [i_add]
  rw [show (1313 : Int) + ((0 + k : Nat) : Int) = ((1313 + k : Nat) : Int) by omega, show (x : Int) + 15 + ((0 + k : Nat) : Int) = ((x + 15 + k : Nat) : Int) by omega, show ((0 + k : Nat) : Int) + 1 = ((0 + k + 1 : Nat) : Int) by omega]
  exact h_ainN (by omega) (by omega) (h_ainN (by omega) (by omega) rfl)
def kpG (f : Nat → Int32) (x : Nat) : Nat → Int32 := cpF (cpF f f 6 x 15) (cpF f f 6 x 15) 1313 (x + 15) 25
theorem kpG_v {f : Nat → Int32} {x j : Nat} (hx : x + 40 ≤ 1313) (h6 : 21 ≤ x) : kpG f x j = if x ≤ j ∧ j < x + 40 then (if j - x < 15 then f (6 + (j - x)) else f (1298 + (j - x))) else f j := by
  unfold kpG cpF
  by_cases h1 : x + 15 ≤ j ∧ j < x + 15 + 25
  · rw [if_pos h1, if_neg (by omega), if_pos (by omega), if_neg (by omega), show 1313 + (j - (x + 15)) = 1298 + (j - x) by omega]
  · rw [if_neg h1]
    by_cases h2 : x ≤ j ∧ j < x + 15
    · rw [if_pos h2, if_pos (by omega), if_pos (by omega)]
    · rw [if_neg h2, if_neg (by omega)]
theorem q_kp2 {N x n : Nat} (hx : x + 40 ≤ 1313) (h6 : 21 ≤ x) : lX12_keep N (n + 43) 1 (Int32.ofInt (x : Int)) (Int32.ofInt 0) S = some (ySa S 266 (upd (kpG (S.2.2.1 266) x) 3 (S.2.2.1 266 3 + Int32.ofInt 1))) := by
  have l1 := cpL0 (F := fun n l3 S => lX12_keep N n 1 (Int32.ofInt (x : Int)) l3 S) (r := 266) (q := 266) (src := 6) (dst := x) (K := 15) (c0 := 0) (n := n + 1 + 25 + 1 + 1) (fun n k S hk => kp_s1 hx n k S hk) S (by omega)
  rw [show n + 43 = n + 1 + 25 + 1 + 1 + 15 by omega]
  refine Eq.trans l1 ?_
  show lX12_keep N (n + 1 + 25 + 1 + 1) 1 _ _ _ = _
  rw [lX12_keep]
  refine h_neg (by decide) (h_pos rfl (h_pos (by decide) ?_))
  have l2 := cpL0 (F := fun n l3 S => lX12_keep N n 2 (Int32.ofInt (x : Int)) l3 S) (r := 266) (q := 266) (src := 1313) (dst := x + 15) (K := 25) (c0 := 0) (n := n + 1 + 1) (fun n k S hk => kp_s2 hx n k S hk) (ySa S 266 (cpF (S.2.2.1 266) (S.2.2.1 266) 6 x 15)) (by omega)
  rw [show n + 1 + 25 + 1 = n + 1 + 1 + 25 by omega]
  refine Eq.trans l2 ?_
  show lX12_keep N (n + 1 + 1) 2 _ _ _ = _
  rw [lX12_keep]
  refine h_neg (by decide) (h_neg (by decide) (h_pos (by decide) (h_pst ?_)))
  rw [ySa_at, ySa_ySa, ySa_at, ySa_ySa]
  have e : kpG (S.2.2.1 266) x 3 = S.2.2.1 266 3 := by rw [kpG_v hx h6, if_neg (by omega)]
  unfold kpG at e ⊢
  rw [e]
theorem q_keep (h : RfR S W) (hA : rv S 266 = A) {N : Nat} (hN : 2000000 ≤ N) : ∃ S1, fX12_keep N S = some S1 ∧ RfR S1 W ∧ rv S1 266 = kpA A ∧ Hz S S1 := by
  have hr := h.1
  rw [hA] at hr
  have h3 := I_i3 hr
  have s3 := shA_3 hr
  have e : ∀ k, S.2.2.1 266 k = Int32.ofInt (A k) := fun k => by rw [rv_eq, hA]
  have hE : rf (S.2.2.1 266) = A := hA
  have fin : ∀ g : Nat → Int32, rf g = kpA A → RfR (ySa S 266 g) W ∧ rv (ySa S 266 g) 266 = kpA A := fun g hg => by
    have e2 : rv (ySa S 266 g) 266 = kpA A := by rw [rv_ySa, hg]
    refine ⟨⟨by rw [e2]; exact kpA_rI hr, fun t ht => ?_⟩, e2⟩
    rw [e2, kpA_o hr (by omega) (by omega), ← hA] at ht
    exact txF_congr (h.2 t ht) rfl
  unfold fX12_keep
  rw [e 3]
  by_cases h30 : A 3 < 30
  · obtain ⟨m, hm⟩ := Int.eq_ofNat_of_zero_le h3.1
    have q := fin (upd (kpG (S.2.2.1 266) (113 + 40 * m)) 3 (Int32.ofInt ((m : Int) + 1))) (by
      rw [rf_upd (by omega) (by omega)]
      funext k
      unfold kpA rU
      rw [s3, show shA A k = A k by unfold shA; rw [if_neg (by omega)]]
      by_cases k3 : k = 3
      · rw [if_pos k3, if_pos k3]; omega
      · rw [if_neg k3, if_neg k3]
        unfold rf
        rw [kpG_v (by omega) (by omega), show (min (A 3) 29).toNat = m by omega]
        by_cases kk : 113 + 40 * m ≤ k ∧ k < 113 + 40 * m + 40
        · rw [if_pos kk, if_pos (show 113 + 40 * m ≤ k ∧ k < 153 + 40 * m by omega)]
          unfold nowF
          by_cases q : k - (113 + 40 * m) < 15
          · rw [if_pos q, if_pos q]; exact congrFun hE _
          · rw [if_neg q, if_neg q]; exact congrFun hE _
        · rw [if_neg kk, if_neg (by omega)]; exact congrFun hE _)
    refine ⟨_, ?_, q.1, q.2, Hz_a⟩
    rw [hm]
    refine h_pos (by first | omega | ((simp (disch := omega) only [i0, i1, i_lt, i_le, i_eq, i_add, i_sub, i_mul, i_neg, i_ofNat, i_rem, i_div, w_in, w_in2, w_cnt, w_cnt2, z01, z01', il, li, lc_ge, lc_le, lc_gt, lc_lt, lc_eq, l_ofNat, l0, l_eq, l_lt, l_le]) <;> omega)) (h_pst ?_)
    rw [i_mul, i_add, show (113 : Int) + 40 * (m : Int) = ((113 + 40 * m : Nat) : Int) by omega, show N = (N - 43) + 43 by omega, q_kp2 (by omega) (by omega), e 3, hm, i_add]
  · have h3' : A 3 = 30 := by omega
    have g0 : ∀ k, cpF (S.2.2.1 266) (S.2.2.1 266) 153 113 1160 k = Int32.ofInt (if 113 ≤ k ∧ k < 1273 then A (k + 40) else A k) := fun k => by
      unfold cpF
      by_cases kk : 113 ≤ k ∧ k < 1273
      · rw [if_pos (by omega), if_pos kk, e, show 153 + (k - 113) = k + 40 by omega]
      · rw [if_neg (by omega), if_neg kk, e]
    have q := fin (upd (kpG (upd (cpF (S.2.2.1 266) (S.2.2.1 266) 153 113 1160) 3 (Int32.ofInt 29)) 1273) 3 (Int32.ofInt 30)) (by
      rw [rf_upd (by omega) (by omega)]
      funext k
      unfold kpA rU
      rw [s3, h3']
      by_cases k3 : k = 3
      · rw [if_pos k3, if_pos k3]; rfl
      · have tA : ∀ j, (Int32.ofInt (A j)).toInt = A j := fun j => by rw [← e j]; exact congrFun hE j
        rw [if_neg k3, if_neg k3]
        unfold rf
        rw [kpG_v (by omega) (by omega), show (min (30 : Int) 29).toNat = 29 from rfl]
        by_cases kk : 1273 ≤ k ∧ k < 1273 + 40
        · rw [if_pos kk, if_pos (show 113 + 40 * 29 ≤ k ∧ k < 153 + 40 * 29 by omega)]
          unfold nowF
          rw [show k - (113 + 40 * 29) = k - 1273 by omega]
          by_cases q : k - 1273 < 15
          · rw [if_pos q, if_pos q, upd_ne (by omega), g0, if_neg (by omega), tA]
          · rw [if_neg q, if_neg q, upd_ne (by omega), g0, if_neg (by omega), tA]
        · rw [if_neg kk, if_neg (by omega), upd_ne k3, g0]
          unfold shA
          rw [if_pos h3', if_neg k3]
          split
          · rw [tA]
          · rw [tA])
    refine ⟨_, ?_, q.1, q.2, Hz_a⟩
    rw [h3']
    refine h_neg (fun z => z rfl) ?_
    have l := cpL0 (F := fun n l1 S => lX12_keep N n 0 l1 0 S) (r := 266) (q := 266) (src := 153) (dst := 113) (K := 1160) (c0 := 0) (n := N - 1204 + 43 + 1) (fun n k S hk => kp_s0 n k S hk) S (by omega)
    rw [show N - 1204 + 43 + 1 + 1160 = N by omega] at l
    refine Eq.trans l ?_
    show lX12_keep N (N - 1204 + 43 + 1) 0 _ _ _ = _
    rw [lX12_keep]
    refine h_pos rfl (h_pos (by decide) (h_pst (h_pst ?_)))
    rw [ySa_at, ySa_ySa, ySa_at, upd_at, g0, if_neg (by omega), h3', i_sub, i_mul, i_add]
    show lX12_keep N (N - 1204 + 43) 1 (Int32.ofInt ((1273 : Nat) : Int)) _ _ = _
    rw [q_kp2 (by omega) (by omega), ySa_at, ySa_ySa, upd_at]
    rfl
end PMS
