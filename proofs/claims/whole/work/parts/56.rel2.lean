/-! ===== texts; the whole relation; what it stands on ===== -/
def vbC (s : Int) : Int := if s = 0 then 18 else if s = 1 then 19 else if s = 2 then 20 else if s = 3 then 9 else if s = 4 then 21 else if s = 5 then 22 else if s = 6 then 23 else 0
def cdC (S : yS) (o k : Nat) : Int × Int := (rv S (o + 1) k, rv S (o + 2) k)
def cdR (S : yS) (t k : Nat) : Int × Int := (rv S 268 (681 * t + 73 + 2 * k), rv S 268 (681 * t + 73 + 2 * k + 1))
/-- the law of sort s of text t, whose object lies at o with L instructions and m clauses -/
def lwR (S : yS) (o t m L s cf ct : Nat) : Prop := (S.1 o cf = Int32.ofInt (-1) ∧ ∀ k, k < m → rv S 268 (681 * t + 1 + 3 * k) ≠ s) ∨ ∃ (k0 i j i' j' : Nat) (w : eV → Int), k0 < m ∧ rv S 268 (681 * t + 1 + 3 * k0) = s ∧ (∀ k, k < k0 → rv S 268 (681 * t + 1 + 3 * k) ≠ s) ∧ S.1 o cf = Int32.ofInt i ∧ S.1 o ct = Int32.ofInt j ∧ j ≤ L ∧ frC s (cdC S o) i j w ∧ rv S 268 (681 * t + 1 + 3 * k0 + 1) = i' ∧ rv S 268 (681 * t + 1 + 3 * k0 + 2) = j' ∧ j' ≤ 300 ∧ frV s (cdR S t) i' j' w
def clR (S : yS) (o t k : Nat) : Prop := ∃ sr v : Int, 0 ≤ sr ∧ sr ≤ 7 ∧ 0 ≤ v ∧ v ≤ 999 ∧ rv S 268 (681 * t + 1 + 3 * k) = sr ∧ rv S (o + 3) k = vbC sr ∧ (2 ≤ sr → rv S 268 (681 * t + 1 + 3 * k + 1) = v ∧ rv S (o + 4) k = v ∧ (sr = 7 → 1 ≤ v ∧ v ≤ 60)) ∧ (sr = 2 ∨ sr = 3 → rv S (o + 5) k = rv S 268 (681 * t + 1 + 3 * k + 2) ∧ 0 ≤ rv S (o + 5) k ∧ rv S (o + 5) k ≤ 10)
def tx (T : yK) (S : yS) (o t : Nat) : Prop := ∃ m L : Nat, m ≤ 24 ∧ L ≤ 300 ∧ (tLn T (o + 1) = L ∧ tLn T (o + 2) = L ∧ tLn T (o + 3) = m ∧ tLn T (o + 4) = m ∧ tLn T (o + 5) = m) ∧ rv S 268 (681 * t) = m ∧ (∀ k, k < m → clR S o t k) ∧ lwR S o t m L 0 2 3 ∧ lwR S o t m L 1 4 5
def oN (T : yK) (x : Option Nat) : Prop := x = none ∨ ∃ o, x = some o ∧ yTx T o = true
def txR (T : yK) (S : yS) : Prop := rv S 267 1 ≤ rv S 266 1 ∧ (∃ o : Nat → Nat, (∀ t : Nat, (t : Int) < rv S 266 1 → S.2.2.2.2 118 t = some (o t) ∧ yTx T (o t) = true ∧ tx T S (o t) t) ∧ (∀ t : Nat, (t : Int) < rv S 267 1 → S.2.2.2.2 233 t = some (o t))) ∧ (∀ t, t < 4 → oN T (S.2.2.2.2 118 t)) ∧ (∀ t, t < 4 → oN T (S.2.2.2.2 233 t))
def tpR (S : yS) : Prop := ∃ n : Nat, n ≤ 300 ∧ S.1 251 1 = Int32.ofInt n ∧ S.1 265 4 = Int32.ofInt n ∧ ∀ k, k < n → S.2.2.1 252 k = S.2.2.1 269 k ∧ 0 ≤ rv S 252 k ∧ rv S 252 k ≤ 255
def flR (S : yS) : Prop := S.1 16 9 = S.1 265 5 ∧ S.1 16 10 = S.1 265 6 ∧ S.1 265 23 = Int32.ofInt 1
def Rel (T : yK) (S : yS) : Prop := cR 0 (rv S 266) S ∧ cR 115 (rv S 267) S ∧ rI (rv S 266) ∧ rI (rv S 267) ∧ tpR S ∧ flR S ∧ txR T S
/-! ids of moments -/
theorem cR_frame {b : Nat} {A : Nat → Int} {S S' : yS} (h : cR b A S) (hr : rI A) (h1 : ∀ i, 18 + b ≤ i → i ≤ 119 + b → S'.1 i = S.1 i) (h2 : ∀ i, 20 + b ≤ i → i ≤ 131 + b → ¬ (127 + b ≤ i ∧ i ≤ 129 + b) → S'.2.2.1 i = S.2.2.1 i) (h3 : S'.2.2.2.2 (23 + b) = S.2.2.2.2 (23 + b)) : cR b A S' := by
  obtain ⟨c1, c2, c3, c4, c5, fi, c6, c7, c8⟩ := h
  have hm : nowF A 5 ≤ 25 := hr.2.2.2.1.2.2.2.2.2.1.2
  have hs : ∀ i : Nat, (i : Int) < A 3 → stF A i 5 ≤ 25 := fun i hi => (hr.2.2.2.2 i hi).2.2.2.2.2.1.2
  refine ⟨?_, ?_, ?_, ?_, ?_, fi, c6, ?_, ?_⟩
  · unfold cI at c1 ⊢
    rw [h1 _ (by omega) (by omega), h1 (119 + b) (by omega) (by omega)]
    exact c1
  · intro e he k hk
    obtain ⟨r1, r2, r3, r4, r5, r6, r7⟩ := cTab_rng e he
    rw [h2 _ (by omega) (by omega) (by omega)]
    exact c2 e he k hk
  · exact mR_congr c3 (h1 _ (by omega) (by omega)) (h2 _ (by omega) (by omega) (by omega)) (h2 _ (by omega) (by omega) (by omega)) (fun _ _ => rfl) hm
  · rw [h3]; exact c4
  · rw [h1 _ (by omega) (by omega)]; exact c5
  · rw [h1 _ (by omega) (by omega)]; exact c7
  · intro i hi
    have := Nat.mod_lt (fi + i) (show 0 < 30 by omega)
    exact mR_congr (c8 i hi) (h1 _ (by omega) (by omega)) (h2 _ (by omega) (by omega) (by omega)) (h2 _ (by omega) (by omega) (by omega)) (fun _ _ => rfl) (hs i hi)
theorem rv_congr {S S' : yS} {r : Nat} (h : S'.2.2.1 r = S.2.2.1 r) : rv S' r = rv S r := by
  funext k; unfold rv; rw [h]
theorem lwR_congr {S S' : yS} {o t m L s cf ct : Nat} (h : lwR S o t m L s cf ct) (hm : m ≤ 24) (h1 : S'.1 o = S.1 o) (h2 : S'.2.2.1 (o + 1) = S.2.2.1 (o + 1)) (h3 : S'.2.2.1 (o + 2) = S.2.2.1 (o + 2)) (h4 : ∀ k, 681 * t ≤ k → k < 681 * t + 681 → S'.2.2.1 268 k = S.2.2.1 268 k) : lwR S' o t m L s cf ct := by
  have r4 : ∀ k, 681 * t ≤ k → k < 681 * t + 681 → rv S' 268 k = rv S 268 k := fun k a b => by unfold rv; rw [h4 k a b]
  rcases h with ⟨a, b⟩ | ⟨k0, i, j, i', j', w, q0, q1, q2, q3, q4, q5, q6, q7, q8, q9, q10⟩
  · refine Or.inl ⟨by rw [h1]; exact a, fun k hk => ?_⟩
    rw [r4 _ (by omega) (by omega)]; exact b k hk
  · refine Or.inr ⟨k0, i, j, i', j', w, q0, ?_, fun k hk => ?_, ?_, ?_, q5, ?_, ?_, ?_, q9, ?_⟩
    · rw [r4 _ (by omega) (by omega)]; exact q1
    · rw [r4 _ (by omega) (by omega)]; exact q2 k hk
    · rw [h1]; exact q3
    · rw [h1]; exact q4
    · have e : cdC S' o = cdC S o := by funext k; unfold cdC; rw [rv_congr h2, rv_congr h3]
      rw [e]; exact q6
    · rw [r4 _ (by omega) (by omega)]; exact q7
    · rw [r4 _ (by omega) (by omega)]; exact q8
    · refine frV_congr q10 (fun k _ hk => ?_)
      unfold cdR
      rw [r4 _ (by omega) (by omega), r4 _ (by omega) (by omega)]
theorem tx_congr {T T' : yK} {S S' : yS} {o t : Nat} (h : tx T S o t) (hT : ∀ i, 1 ≤ i → i ≤ 5 → T' (o + i) = T (o + i)) (h1 : S'.1 o = S.1 o) (h2 : ∀ i, 1 ≤ i → i ≤ 5 → S'.2.2.1 (o + i) = S.2.2.1 (o + i)) (h4 : ∀ k, 681 * t ≤ k → k < 681 * t + 681 → S'.2.2.1 268 k = S.2.2.1 268 k) : tx T' S' o t := by
  have r4 : ∀ k, 681 * t ≤ k → k < 681 * t + 681 → rv S' 268 k = rv S 268 k := fun k a b => by unfold rv; rw [h4 k a b]
  obtain ⟨m, L, hm, hL, hl, hn, hc, l0, l1⟩ := h
  have ht : ∀ i, 1 ≤ i → i ≤ 5 → tLn T' (o + i) = tLn T (o + i) := fun i a b => by unfold tLn; rw [hT i a b]
  refine ⟨m, L, hm, hL, ?_, ?_, fun k hk => ?_, ?_, ?_⟩
  · rw [ht 1 (by omega) (by omega), ht 2 (by omega) (by omega), ht 3 (by omega) (by omega), ht 4 (by omega) (by omega), ht 5 (by omega) (by omega)]; exact hl
  · rw [r4 _ (by omega) (by omega)]; exact hn
  · have hq := hc k hk
    unfold clR at hq ⊢
    rw [r4 _ (by omega) (by omega), r4 _ (by omega) (by omega), r4 _ (by omega) (by omega), rv_congr (h2 3 (by omega) (by omega)), rv_congr (h2 4 (by omega) (by omega)), rv_congr (h2 5 (by omega) (by omega))]
    exact hq
  · exact lwR_congr l0 hm h1 (h2 1 (by omega) (by omega)) (h2 2 (by omega) (by omega)) h4
  · exact lwR_congr l1 hm h1 (h2 1 (by omega) (by omega)) (h2 2 (by omega) (by omega)) h4
/-- what a question may change -/
def kO (i : Nat) : Prop := i ≠ 17 ∧ i ≠ 250 ∧ i ≠ 261
def kA (i : Nat) : Prop := ¬ (127 ≤ i ∧ i ≤ 129) ∧ i ≠ 132 ∧ ¬ (253 ≤ i ∧ i ≤ 264) ∧ ¬ (270 ≤ i ∧ i ≤ 273) ∧ ¬ (275 ≤ i ∧ i ≤ 280)
def Fq (S S' : yS) : Prop := (∀ i, kO i → S'.1 i = S.1 i) ∧ (∀ i, kA i → S'.2.2.1 i = S.2.2.1 i) ∧ S'.2.2.2.2 = S.2.2.2.2
theorem Fq_refl (S : yS) : Fq S S := ⟨fun _ _ => rfl, fun _ _ => rfl, rfl⟩
theorem Fq_trans {S S1 S2 : yS} (h1 : Fq S S1) (h2 : Fq S1 S2) : Fq S S2 := ⟨fun i hi => (h2.1 i hi).trans (h1.1 i hi), fun i hi => (h2.2.1 i hi).trans (h1.2.1 i hi), h2.2.2.trans h1.2.2⟩
theorem Fq_i {S : yS} {i k : Nat} {v : Int32} (h : i = 17 ∨ i = 250 ∨ i = 261) : Fq S (ySi S i k v) := ⟨fun j hj => yU_ne (by unfold kO at hj; omega), fun _ _ => rfl, rfl⟩
theorem Fq_j {S : yS} {i k : Nat} {v : Int64} : Fq S (ySj S i k v) := ⟨fun _ _ => rfl, fun _ _ => rfl, rfl⟩
theorem Fq_l {S : yS} {a : Nat} {f : Nat → Int64} : Fq S (ySl S a f) := ⟨fun _ _ => rfl, fun _ _ => rfl, rfl⟩
theorem Fq_a {S : yS} {a : Nat} {f : Nat → Int32} (h : ¬ kA a) : Fq S (ySa S a f) := ⟨fun _ _ => rfl, fun j hj => yU_ne (fun e => h (e ▸ hj)), rfl⟩
theorem Fq_rv {S S' : yS} (h : Fq S S') {r : Nat} (hr : kA r) : rv S' r = rv S r := rv_congr (h.2.1 r hr)
theorem txR_congr {T : yK} {S S' : yS} (h : txR T S) (h1 : ∀ i, 281 ≤ i → S'.1 i = S.1 i) (h2 : ∀ i, 281 ≤ i → S'.2.2.1 i = S.2.2.1 i) (h3 : S'.2.2.1 268 = S.2.2.1 268) (h4 : S'.2.2.2.2 = S.2.2.2.2) (h5 : rv S' 266 1 = rv S 266 1) (h6 : rv S' 267 1 = rv S 267 1) : txR T S' := by
  obtain ⟨a, ⟨o, b, c⟩, d, e⟩ := h
  refine ⟨by rw [h5, h6]; exact a, ⟨o, fun t ht => ?_, fun t ht => ?_⟩, fun t ht => ?_, fun t ht => ?_⟩
  · rw [h5] at ht
    obtain ⟨b1, b2, b3⟩ := b t ht
    have ho : 281 ≤ o t := (yTx_K b2).2.2.2.2.2.2
    exact ⟨by rw [h4]; exact b1, b2, tx_congr b3 (fun _ _ _ => rfl) (h1 _ ho) (fun i _ _ => h2 _ (by omega)) (fun k _ _ => by rw [h3])⟩
  · rw [h6] at ht
    rw [h4]; exact c t ht
  · rw [h4]; exact d t ht
  · rw [h4]; exact e t ht
theorem Rel_Fq {T : yK} {S S' : yS} (h : Rel T S) (hF : Fq S S') : Rel T S' := by
  obtain ⟨c0, c1, r0, r1, ht, hf, hx⟩ := h
  have e6 : rv S' 266 = rv S 266 := Fq_rv hF (by unfold kA; omega)
  have e7 : rv S' 267 = rv S 267 := Fq_rv hF (by unfold kA; omega)
  unfold Rel
  rw [e6, e7]
  refine ⟨cR_frame c0 r0 (fun i a b => hF.1 i (by unfold kO; omega)) (fun i a b c => hF.2.1 i (by unfold kA; omega)) (by rw [hF.2.2]), cR_frame c1 r1 (fun i a b => hF.1 i (by unfold kO; omega)) (fun i a b c => hF.2.1 i (by unfold kA; omega)) (by rw [hF.2.2]), r0, r1, ?_, ?_, ?_⟩
  · obtain ⟨n, n1, n2, n3, n4⟩ := ht
    refine ⟨n, n1, ?_, ?_, fun k hk => ?_⟩
    · rw [hF.1 251 (by unfold kO; omega)]; exact n2
    · rw [hF.1 265 (by unfold kO; omega)]; exact n3
    · rw [Fq_rv hF (show kA 252 by unfold kA; omega), hF.2.1 252 (by unfold kA; omega), hF.2.1 269 (by unfold kA; omega)]; exact n4 k hk
  · unfold flR
    rw [hF.1 16 (by unfold kO; omega), hF.1 265 (by unfold kO; omega)]; exact hf
  · exact txR_congr hx (fun i hi => hF.1 i (by unfold kO; omega)) (fun i hi => hF.2.1 i (by unfold kA; omega)) (hF.2.1 268 (by unfold kA; omega)) hF.2.2 (by rw [e6]) (by rw [e7])
/-! what the relation says, one by one -/
section ACC
variable {T : yK} {S : yS}
theorem R_i0 (h : Rel T S) : 0 ≤ rv S 266 0 ∧ rv S 266 0 ≤ 8 := h.2.2.1.1.1
theorem R_i1 (h : Rel T S) : 0 ≤ rv S 266 1 ∧ rv S 266 1 ≤ 4 := h.2.2.1.1.2.1
theorem R_i2 (h : Rel T S) : -1 ≤ rv S 266 2 ∧ rv S 266 2 < rv S 266 1 := h.2.2.1.1.2.2.1
theorem R_i3 (h : Rel T S) : 0 ≤ rv S 266 3 ∧ rv S 266 3 ≤ 30 := h.2.2.1.1.2.2.2.1
theorem R_i4 (h : Rel T S) : 0 ≤ rv S 266 4 ∧ rv S 266 4 ≤ 12 := h.2.2.1.1.2.2.2.2.1
theorem R_i5 (h : Rel T S) : 0 ≤ rv S 266 5 ∧ rv S 266 5 ≤ 8 := h.2.2.1.1.2.2.2.2.2
theorem R_m (h : Rel T S) : mI (rv S 266 0) (nowF (rv S 266)) := h.2.2.1.2.2.2.1
theorem R_day (h : Rel T S) : 0 ≤ rv S 266 6 ∧ rv S 266 6 ≤ 9999 := (R_m h).1
theorem R_x (h : Rel T S) : 0 ≤ rv S 266 7 ∧ rv S 266 7 < 30949 := (R_m h).2.1
theorem R_fund (h : Rel T S) : -9999 ≤ rv S 266 8 ∧ rv S 266 8 ≤ 9999 := (R_m h).2.2.1
theorem R_cnt (h : Rel T S) : 0 ≤ rv S 266 9 ∧ rv S 266 9 ≤ 8 := (R_m h).2.2.2.1
theorem R_thg (h : Rel T S) : 0 ≤ rv S 266 10 ∧ rv S 266 10 ≤ 9 := (R_m h).2.2.2.2.1
theorem R_pgs (h : Rel T S) : 0 ≤ rv S 266 11 ∧ rv S 266 11 ≤ 25 := (R_m h).2.2.2.2.2.1
theorem R_gone (h : Rel T S) : 0 ≤ rv S 266 12 ∧ rv S 266 12 < 2 ^ (rv S 266 0).toNat := (R_m h).2.2.2.2.2.2.1
theorem R_came (h : Rel T S) {k : Nat} (hk : k < 8) : 0 ≤ rv S 266 (13 + k) ∧ rv S 266 (13 + k) ≤ 9999 := by
  have := (R_m h).2.2.2.2.2.2.2.1 k hk
  unfold nowF at this
  rw [if_pos (by omega), show 6 + (7 + k) = 13 + k by omega] at this
  exact this
theorem R_page (h : Rel T S) {k : Nat} (hk : (k : Int) < rv S 266 11) : 0 ≤ rv S 266 (1313 + k) ∧ rv S 266 (1313 + k) < 180000000 ∧ 1 ≤ rv S 266 (1313 + k) % 200 := by
  have := (R_m h).2.2.2.2.2.2.2.2 k hk
  unfold nowF at this
  rw [if_neg (by omega), show 1298 + (15 + k) = 1313 + k by omega] at this
  exact this
theorem C_birds (h : Rel T S) : S.1 18 5 = Int32.ofInt (rv S 266 0) := h.1.1.1
theorem C_texts (h : Rel T S) : S.1 18 8 = Int32.ofInt (rv S 266 1) := h.1.1.2.1
theorem C_ruling (h : Rel T S) : S.1 18 9 = Int32.ofInt (rv S 266 2) := h.1.1.2.2.1
theorem C_tolds (h : Rel T S) : S.1 18 15 = Int32.ofInt (rv S 266 5) := h.1.1.2.2.2.1
theorem C_morns (h : Rel T S) : S.1 119 2 = Int32.ofInt (rv S 266 4) := h.1.1.2.2.2.2
theorem C_steps (h : Rel T S) : S.1 22 2 = Int32.ofInt (rv S 266 3) := h.1.2.2.2.2.1
theorem C_gone (h : Rel T S) : S.1 19 0 = Int32.ofInt (rv S 266 12) := h.1.2.2.1.1.1
theorem C_fund (h : Rel T S) : S.1 19 1 = Int32.ofInt (rv S 266 8) := h.1.2.2.1.1.2.1
theorem C_cnt (h : Rel T S) : S.1 19 2 = Int32.ofInt (rv S 266 9) := h.1.2.2.1.1.2.2.1
theorem C_thg (h : Rel T S) : S.1 19 3 = Int32.ofInt (rv S 266 10) := h.1.2.2.1.1.2.2.2.1
theorem C_day (h : Rel T S) : S.1 19 4 = Int32.ofInt (rv S 266 6) := h.1.2.2.1.1.2.2.2.2.1
theorem C_x (h : Rel T S) : S.1 19 5 = Int32.ofInt (rv S 266 7) := h.1.2.2.1.1.2.2.2.2.2.1
theorem C_pgs (h : Rel T S) : S.1 19 8 = Int32.ofInt (rv S 266 11) := h.1.2.2.1.1.2.2.2.2.2.2
theorem C_came (h : Rel T S) {k : Nat} (hk : k < 8) : S.2.2.1 20 k = Int32.ofInt (rv S 266 (13 + k)) := by
  have := h.1.2.2.1.2.1 k hk
  unfold nowF at this
  rw [if_pos (by omega), show 6 + (7 + k) = 13 + k by omega] at this
  exact this
theorem C_page (h : Rel T S) {k : Nat} (hk : (k : Int) < rv S 266 11) : S.2.2.1 21 k = Int32.ofInt (pgC (rv S 266 (1313 + k))) := by
  have := h.1.2.2.1.2.2 k hk
  unfold nowF at this
  rw [if_neg (by omega), show 1298 + (15 + k) = 1313 + k by omega] at this
  exact this
theorem C_per (h : Rel T S) {k : Nat} (hk : k < 8) : S.2.2.1 114 k = Int32.ofInt (rv S 266 (21 + k)) := by
  have := h.1.2.1 _ (show (114, 8, 21, 1, (0 : Int), (12 : Int)) ∈ cTab by decide) k hk
  dsimp only at this
  rw [Nat.one_mul] at this
  exact this
theorem R_per (h : Rel T S) {k : Nat} (hk : k < 8) : 0 ≤ rv S 266 (21 + k) ∧ rv S 266 (21 + k) ≤ 12 := by
  have := h.2.2.1.2.1 _ (show (114, 8, 21, 1, (0 : Int), (12 : Int)) ∈ cTab by decide) k hk
  dsimp only at this
  rw [Nat.one_mul] at this
  exact this
theorem C_pha (h : Rel T S) {k : Nat} (hk : k < 8) : S.2.2.1 115 k = Int32.ofInt (rv S 266 (29 + k)) := by
  have := h.1.2.1 _ (show (115, 8, 29, 1, (0 : Int), (11 : Int)) ∈ cTab by decide) k hk
  dsimp only at this
  rw [Nat.one_mul] at this
  exact this
theorem R_pha (h : Rel T S) {k : Nat} (hk : k < 8) : 0 ≤ rv S 266 (29 + k) ∧ rv S 266 (29 + k) ≤ 11 := by
  have := h.2.2.1.2.1 _ (show (115, 8, 29, 1, (0 : Int), (11 : Int)) ∈ cTab by decide) k hk
  dsimp only at this
  rw [Nat.one_mul] at this
  exact this
theorem C_odd (h : Rel T S) {k : Nat} (hk : k < 8) : S.2.2.1 116 k = Int32.ofInt (rv S 266 (37 + k)) := by
  have := h.1.2.1 _ (show (116, 8, 37, 1, (0 : Int), (10 : Int)) ∈ cTab by decide) k hk
  dsimp only at this
  rw [Nat.one_mul] at this
  exact this
theorem R_odd (h : Rel T S) {k : Nat} (hk : k < 8) : 0 ≤ rv S 266 (37 + k) ∧ rv S 266 (37 + k) ≤ 10 := by
  have := h.2.2.1.2.1 _ (show (116, 8, 37, 1, (0 : Int), (10 : Int)) ∈ cTab by decide) k hk
  dsimp only at this
  rw [Nat.one_mul] at this
  exact this
theorem C_rhy (h : Rel T S) {k : Nat} (hk : k < 9) : S.2.2.1 117 k = Int32.ofInt (rv S 266 (45 + k)) := by
  have := h.1.2.1 _ (show (117, 9, 45, 1, (0 : Int), (9 : Int)) ∈ cTab by decide) k hk
  dsimp only at this
  rw [Nat.one_mul] at this
  exact this
theorem R_rhy (h : Rel T S) {k : Nat} (hk : k < 9) : 0 ≤ rv S 266 (45 + k) ∧ rv S 266 (45 + k) ≤ 9 := by
  have := h.2.2.1.2.1 _ (show (117, 9, 45, 1, (0 : Int), (9 : Int)) ∈ cTab by decide) k hk
  dsimp only at this
  rw [Nat.one_mul] at this
  exact this
theorem C_mday (h : Rel T S) {k : Nat} (hk : k < 12) : S.2.2.1 120 k = Int32.ofInt (rv S 266 (54 + 2 * k)) := by
  have := h.1.2.1 _ (show (120, 12, 54, 2, (0 : Int), (99 : Int)) ∈ cTab by decide) k hk
  dsimp only at this
  exact this
theorem R_mday (h : Rel T S) {k : Nat} (hk : k < 12) : 0 ≤ rv S 266 (54 + 2 * k) ∧ rv S 266 (54 + 2 * k) ≤ 99 := by
  have := h.2.2.1.2.1 _ (show (120, 12, 54, 2, (0 : Int), (99 : Int)) ∈ cTab by decide) k hk
  dsimp only at this
  exact this
theorem C_mcam (h : Rel T S) {k : Nat} (hk : k < 12) : S.2.2.1 121 k = Int32.ofInt (rv S 266 (55 + 2 * k)) := by
  have := h.1.2.1 _ (show (121, 12, 55, 2, (0 : Int), (1 : Int)) ∈ cTab by decide) k hk
  dsimp only at this
  exact this
theorem R_mcam (h : Rel T S) {k : Nat} (hk : k < 12) : 0 ≤ rv S 266 (55 + 2 * k) ∧ rv S 266 (55 + 2 * k) ≤ 1 := by
  have := h.2.2.1.2.1 _ (show (121, 12, 55, 2, (0 : Int), (1 : Int)) ∈ cTab by decide) k hk
  dsimp only at this
  exact this
theorem C_nxt (h : Rel T S) {k : Nat} (hk : k < 9) : S.2.2.1 123 k = Int32.ofInt (rv S 266 (78 + k)) := by
  have := h.1.2.1 _ (show (123, 9, 78, 1, (0 : Int), (8 : Int)) ∈ cTab by decide) k hk
  dsimp only at this
  rw [Nat.one_mul] at this
  exact this
theorem R_nxt (h : Rel T S) {k : Nat} (hk : k < 9) : 0 ≤ rv S 266 (78 + k) ∧ rv S 266 (78 + k) ≤ 8 := by
  have := h.2.2.1.2.1 _ (show (123, 9, 78, 1, (0 : Int), (8 : Int)) ∈ cTab by decide) k hk
  dsimp only at this
  rw [Nat.one_mul] at this
  exact this
theorem C_vot (h : Rel T S) {k : Nat} (hk : k < 5) : S.2.2.1 125 k = Int32.ofInt (rv S 266 (87 + k)) := by
  have := h.1.2.1 _ (show (125, 5, 87, 1, (0 : Int), (999 : Int)) ∈ cTab by decide) k hk
  dsimp only at this
  rw [Nat.one_mul] at this
  exact this
theorem R_vot (h : Rel T S) {k : Nat} (hk : k < 5) : 0 ≤ rv S 266 (87 + k) ∧ rv S 266 (87 + k) ≤ 999 := by
  have := h.2.2.1.2.1 _ (show (125, 5, 87, 1, (0 : Int), (999 : Int)) ∈ cTab by decide) k hk
  dsimp only at this
  rw [Nat.one_mul] at this
  exact this
theorem C_ord (h : Rel T S) {k : Nat} (hk : k < 5) : S.2.2.1 126 k = Int32.ofInt (rv S 266 (108 + k)) := by
  have := h.1.2.1 _ (show (126, 5, 108, 1, (0 : Int), (23 : Int)) ∈ cTab by decide) k hk
  dsimp only at this
  rw [Nat.one_mul] at this
  exact this
theorem R_ord (h : Rel T S) {k : Nat} (hk : k < 5) : 0 ≤ rv S 266 (108 + k) ∧ rv S 266 (108 + k) ≤ 23 := by
  have := h.2.2.1.2.1 _ (show (126, 5, 108, 1, (0 : Int), (23 : Int)) ∈ cTab by decide) k hk
  dsimp only at this
  rw [Nat.one_mul] at this
  exact this
theorem C_tcn (h : Rel T S) {k : Nat} (hk : k < 8) : S.2.2.1 130 k = Int32.ofInt (rv S 266 (92 + 2 * k)) := by
  have := h.1.2.1 _ (show (130, 8, 92, 2, (0 : Int), (8 : Int)) ∈ cTab by decide) k hk
  dsimp only at this
  exact this
theorem R_tcn (h : Rel T S) {k : Nat} (hk : k < 8) : 0 ≤ rv S 266 (92 + 2 * k) ∧ rv S 266 (92 + 2 * k) ≤ 8 := by
  have := h.2.2.1.2.1 _ (show (130, 8, 92, 2, (0 : Int), (8 : Int)) ∈ cTab by decide) k hk
  dsimp only at this
  exact this
theorem C_tbr (h : Rel T S) {k : Nat} (hk : k < 8) : S.2.2.1 131 k = Int32.ofInt (rv S 266 (93 + 2 * k)) := by
  have := h.1.2.1 _ (show (131, 8, 93, 2, (-99 : Int), (99 : Int)) ∈ cTab by decide) k hk
  dsimp only at this
  exact this
theorem R_tbr (h : Rel T S) {k : Nat} (hk : k < 8) : -99 ≤ rv S 266 (93 + 2 * k) ∧ rv S 266 (93 + 2 * k) ≤ 99 := by
  have := h.2.2.1.2.1 _ (show (131, 8, 93, 2, (-99 : Int), (99 : Int)) ∈ cTab by decide) k hk
  dsimp only at this
  exact this
theorem R_bird (h : Rel T S) {k : Nat} (hk : (k : Int) < rv S 266 0) : 1 ≤ rv S 266 (21 + k) ∧ rv S 266 (29 + k) < rv S 266 (21 + k) := h.2.2.1.2.2.1 k hk
end ACC
