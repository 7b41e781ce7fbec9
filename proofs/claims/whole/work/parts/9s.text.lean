/-! ===== text() ===== -/
section TXT
variable {f : Nat → Int} {n t N M : Nat} {S S' : yS} {T : yK}
theorem q_rtI (hN : 2000000 ≤ N) (ht4 : t < 4) {Sr : yS} (h1 : rtG Sr f n) (h2 : Sr.2.2.1 266 1 = Int32.ofInt (t : Int)) : ∃ S7, (∀ {Y : Option (Int32 × yS)}, lX12_readText N N S7 = Y → fX12_readText N Sr = Y) ∧ jR f n t S7 0 0 0 (fun _ => (0, 0, 0)) 0 (fun _ => (0, 0)) 0 ∧ Fw t Sr S7 := by
  obtain ⟨S5, hS5⟩ : ∃ X, X = ySi (ySi (ySi (ySa (ySi Sr 265 12 (Int32.ofInt ((681 * t : Nat) : Int))) 268 (upd (Sr.2.2.1 268) (681 * t) (Int32.ofInt 0))) 265 13 (Int32.ofInt 0)) 265 19 (Int32.ofInt 0)) 265 7 (Int32.ofInt 0) := ⟨_, rfl⟩
  have f7 : S5.1 265 7 = Int32.ofInt 0 := by rw [hS5]; exact fld_at
  have fo : ∀ j, j ≠ 7 → j ≠ 12 → j ≠ 13 → j ≠ 19 → S5.1 265 j = Sr.1 265 j := fun j a b c d => by
    rw [hS5, fld_ne a, fld_ne d, fld_ne c, ySa_1, fld_ne b]
  have g5 : rtG S5 f n := by
    refine ⟨h1.1, by rw [fo 4 (by omega) (by omega) (by omega) (by omega)]; exact h1.2.1, fun k hk => ?_, h1.2.2.2⟩
    rw [hS5, ySi_2, ySi_2, ySi_2, ySa_ne _ _ (by omega), ySi_2]; exact h1.2.2.1 k hk
  obtain ⟨S7, a1, a2, a3⟩ := q_first hN g5 f7
  have a268 : S5.2.2.1 268 = upd (Sr.2.2.1 268) (681 * t) (Int32.ofInt 0) := by rw [hS5, ySi_2, ySi_2, ySi_2, ySa_at]
  refine ⟨S7, fun {Y} hY => ?_, ⟨rtG_k g5 a2, a3, ?_, ?_, ?_, ?_, fun j hj => by omega, fun j hj => by omega⟩, ?_⟩
  · unfold fX12_readText
    rw [h2, i_mul, show 681 * (t : Int) = ((681 * t : Nat) : Int) by omega]
    refine h_pst ?_
    rw [fld_at]
    refine h_ainN (by omega) (by omega) (h_pst (h_pst (h_pst (h_pst ?_))))
    rw [ySi_2, ← hS5]
    exact h_bind a1 hY
  · rw [a2.2.1 12 (by omega), hS5, fld_ne (by omega), fld_ne (by omega), fld_ne (by omega), ySa_1, fld_at]
  · rw [a2.2.1 13 (by omega), hS5, fld_ne (by omega), fld_ne (by omega), fld_at]; rfl
  · rw [a2.2.1 19 (by omega), hS5, fld_ne (by omega), fld_at]
  · rw [a2.2.2, a268, upd_at]; rfl
  · refine Fw_trans ?_ (Fw_k a2)
    refine ⟨fun i hi => ?_, fun j q1 q2 => fo j (by omega) (by omega) (by omega) (by omega), fun i q1 q2 => ?_, fun k hk => ?_, ?_⟩
    · rw [hS5, fld_o hi, fld_o hi, fld_o hi, ySa_1, fld_o hi]
    · rw [hS5, ySi_2, ySi_2, ySi_2, ySa_ne _ _ q1, ySi_2]
    · rw [a268, upd_ne (by omega)]
    · rw [hS5]; rfl
/-- what text() may change, the texts' growth left out -/
def Ft (t : Nat) (S S' : yS) : Prop := (∀ i, i < 281 → i ≠ 16 → i ≠ 18 → i ≠ 250 → i ≠ 251 → i ≠ 265 → S'.1 i = S.1 i) ∧ (∀ i, i < 281 → ¬ (253 ≤ i ∧ i ≤ 260) → i ≠ 266 → i ≠ 268 → i ≠ 270 → S'.2.2.1 i = S.2.2.1 i) ∧ (∀ k, k < 681 * t ∨ 681 * t + 681 ≤ k → S'.2.2.1 268 k = S.2.2.1 268 k) ∧ (∀ i, i ≠ 118 → S'.2.2.2.2 i = S.2.2.2.2 i)
theorem tpR_0 (h1 : S.1 251 1 = Int32.ofInt 0) (h2 : S.1 265 4 = Int32.ofInt 0) : tpR S := ⟨0, by omega, h1, h2, fun k hk => by omega⟩
theorem cR_t {A A' : Nat → Int} (h : cR 0 A S) (hr : rI A) (h1 : ∀ i, 19 ≤ i → i ≤ 119 → S'.1 i = S.1 i) (h18 : ∀ j, j ≠ 8 → S'.1 18 j = S.1 18 j) (h188 : S'.1 18 8 = Int32.ofInt (A' 1)) (h2 : ∀ i, 20 ≤ i → i ≤ 131 → S'.2.2.1 i = S.2.2.1 i) (h3 : S'.2.2.2.2 23 = S.2.2.2.2 23) (hA : ∀ k, k ≠ 1 → A' k = A k) : cR 0 A' S' := by
  obtain ⟨c1, c2, c3, c4, c5, fi, c6, c7, c8⟩ := h
  have hm : nowF A 5 ≤ 25 := hr.2.2.2.1.2.2.2.2.2.1.2
  have hs : ∀ i : Nat, (i : Int) < A 3 → stF A i 5 ≤ 25 := fun i hi => (hr.2.2.2.2 i hi).2.2.2.2.2.1.2
  have en : nowF A' = nowF A := by
    funext k
    unfold nowF
    split
    · exact hA _ (by omega)
    · exact hA _ (by omega)
  have es : ∀ i, stF A' i = stF A i := fun i => by
    funext k
    exact hA _ (by omega)
  refine ⟨?_, ?_, ?_, ?_, ?_, fi, c6, ?_, ?_⟩
  · obtain ⟨d1, d2, d3, d4, d5⟩ := c1
    refine ⟨?_, h188, ?_, ?_, ?_⟩
    · rw [h18 5 (by omega), hA 0 (by omega)]; exact d1
    · rw [h18 9 (by omega), hA 2 (by omega)]; exact d3
    · rw [h18 15 (by omega), hA 5 (by omega)]; exact d4
    · rw [h1 119 (by omega) (by omega), hA 4 (by omega)]; exact d5
  · intro e he k hk
    obtain ⟨r1, r2, r3, r4, r5, r6, r7, r8⟩ := cTab_rng e he
    rw [h2 _ (by omega) (by omega), hA _ (by have := r7 k hk; omega)]
    exact c2 e he k hk
  · rw [en]
    exact mR_congr c3 (h1 _ (by omega) (by omega)) (h2 _ (by omega) (by omega)) (h2 _ (by omega) (by omega)) (fun _ _ => rfl) hm
  · rw [h3]; exact c4
  · rw [h1 _ (by omega) (by omega), hA 3 (by omega)]; exact c5
  · rw [h1 _ (by omega) (by omega)]; exact c7
  · intro i hi
    rw [hA 3 (by omega)] at hi
    have := Nat.mod_lt (fi + i) (show 0 < 30 by omega)
    rw [es]
    exact mR_congr (c8 i hi) (h1 _ (by omega) (by omega)) (h2 _ (by omega) (by omega)) (h2 _ (by omega) (by omega)) (fun _ _ => rfl) (hs i hi)
theorem rI_t {A A' : Nat → Int} (h : rI A) (hA : ∀ k, k ≠ 1 → A' k = A k) (h1 : A 1 ≤ A' 1 ∧ A' 1 ≤ 4) : rI A' := by
  obtain ⟨⟨a0, a1, a2, a3, a4, a5⟩, b, c, d, e⟩ := h
  have en : nowF A' = nowF A := by
    funext k
    unfold nowF
    split
    · exact hA _ (by omega)
    · exact hA _ (by omega)
  have es : ∀ i, stF A' i = stF A i := fun i => by
    funext k
    exact hA _ (by omega)
  refine ⟨⟨?_, ⟨by omega, h1.2⟩, ?_, ?_, ?_, ?_⟩, fun x hx k hk => ?_, fun k hk => ?_, ?_, fun i hi => ?_⟩
  · rw [hA 0 (by omega)]; exact a0
  · rw [hA 2 (by omega)]; omega
  · rw [hA 3 (by omega)]; exact a3
  · rw [hA 4 (by omega)]; exact a4
  · rw [hA 5 (by omega)]; exact a5
  · obtain ⟨r1, r2, r3, r4, r5, r6, r7, r8⟩ := cTab_rng x hx
    rw [hA _ (by have := r7 k hk; omega)]
    exact b x hx k hk
  · rw [hA 0 (by omega)] at hk
    rw [hA _ (by omega), hA _ (by omega)]; exact c k hk
  · rw [hA 0 (by omega), en]; exact d
  · rw [hA 3 (by omega)] at hi
    rw [hA 0 (by omega), es]; exact e i hi
theorem yTx_c {T T' : yK} {a : Nat} (h : yTx T a = true) (hT : ∀ i, i ≤ 5 → T' (a + i) = T (a + i)) : yTx T' a = true := by
  have e0 : T' a = T a := hT 0 (by omega)
  unfold yTx tLn at h ⊢
  rw [e0, hT 1 (by omega), hT 2 (by omega), hT 3 (by omega), hT 4 (by omega), hT 5 (by omega)]
  exact h
theorem yTx_lt {T : yK} {a o : Nat} (h : yTx T a = true) (hT : ∀ j, o ≤ j → T j = none) : a + 5 < o := by
  obtain ⟨-, -, -, -, -, k5, hl⟩ := yTx_K h
  rw [yKx_ge (by omega)] at k5
  by_cases q : a + 5 < o
  · exact q
  · rw [hT (a + 5) (by omega)] at k5; cases k5
theorem tT_lt {o nn mm a i : Nat} (h : a + 5 < o) (hi : i ≤ 5) : tT T o nn mm (a + i) = T (a + i) := by
  unfold tT
  rw [if_neg (by omega), if_neg (by omega), if_neg (by omega)]
/-- a text that did not come -/
theorem Rel_tf (h : Rel T S) (ht : rv S 266 1 = (t : Int)) (hF : Ft t S S') (h18 : S'.1 18 = S.1 18) (h266 : S'.2.2.1 266 = S.2.2.1 266) (h118 : S'.2.2.2.2 118 = S.2.2.2.2 118) (hb1 : ∀ i, 281 ≤ i → S'.1 i = S.1 i) (hb2 : ∀ i, 281 ≤ i → S'.2.2.1 i = S.2.2.1 i) (hp : tpR S') (hf : flR S') : Rel T S' := by
  obtain ⟨c0, c1, r0, r1, -, -, x1, ⟨o, x2, x3⟩, x4, x5⟩ := h
  obtain ⟨f1, f2, f3, f4⟩ := hF
  have e6 : rv S' 266 = rv S 266 := rv_congr h266
  have e7 : rv S' 267 = rv S 267 := rv_congr (f2 267 (by omega) (by omega) (by omega) (by omega) (by omega))
  unfold Rel
  rw [e6, e7]
  refine ⟨cR_frame c0 r0 (fun i a b => ?_) (fun i a b c => f2 i (by omega) (by omega) (by omega) (by omega) (by omega)) (f4 23 (by omega)), cR_frame c1 r1 (fun i a b => f1 i (by omega) (by omega) (by omega) (by omega) (by omega) (by omega)) (fun i a b c => f2 i (by omega) (by omega) (by omega) (by omega) (by omega)) (f4 138 (by omega)), r0, r1, hp, hf, ?_⟩
  · by_cases e : i = 18
    · rw [e]; exact h18
    · exact f1 i (by omega) (by omega) e (by omega) (by omega) (by omega)
  · have e4 : S'.2.2.2.2 = S.2.2.2.2 := by
      funext i
      by_cases e : i = 118
      · rw [e]; exact h118
      · exact f4 i e
    unfold txR
    rw [e6, e7, e4]
    refine ⟨x1, ⟨o, fun t' ht' => ?_, x3⟩, x4, x5⟩
    obtain ⟨b1, b2, b3⟩ := x2 t' ht'
    have ho : 281 ≤ o t' := (yTx_K b2).2.2.2.2.2.2
    exact ⟨b1, b2, tx_congr b3 (fun _ _ _ => rfl) (hb1 _ ho) (fun i _ _ => hb2 _ (by omega)) (fun k k1 k2 => f3 k (by omega))⟩
end TXT
