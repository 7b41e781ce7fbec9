/-! ===== image, back: both sides ===== -/
section PMS
variable {T : yK} {S S' S1 S2 : yS}
theorem cp67_s {N : Nat} (n k : Nat) (S : yS) (hk : k < 1338) : lX12_copy_266_267 N (n + 1) (Int32.ofInt ((0 + k : Nat) : Int)) S = lX12_copy_266_267 N n (Int32.ofInt ((0 + k + 1 : Nat) : Int)) (ySa S 267 (upd (S.2.2.1 267) (0 + k) (S.2.2.1 266 (0 + k)))) := by
  rw [lX12_copy_266_267]
  refine h_neg (by first | omega | ((simp (disch := omega) only [i0, i1, i_lt, i_le, i_eq, i_add, i_sub, i_mul, i_neg, i_ofNat, i_rem, i_div, w_in, w_in2, w_cnt, w_cnt2, z01, z01', il, li, lc_ge, lc_le, lc_gt, lc_lt, lc_eq, l_ofNat, l0, l_eq, l_lt, l_le]) <;> omega)) ?_
  simp only [i_add]
  rw [show ((0 + k : Nat) : Int) + 1 = ((0 + k + 1 : Nat) : Int) by omega]
  exact h_ainN (by omega) (by omega) (h_ainN (by omega) (by omega) rfl)
theorem cp76_s {N : Nat} (n k : Nat) (S : yS) (hk : k < 1338) : lX12_copy_267_266 N (n + 1) (Int32.ofInt ((0 + k : Nat) : Int)) S = lX12_copy_267_266 N n (Int32.ofInt ((0 + k + 1 : Nat) : Int)) (ySa S 266 (upd (S.2.2.1 266) (0 + k) (S.2.2.1 267 (0 + k)))) := by
  rw [lX12_copy_267_266]
  refine h_neg (by first | omega | ((simp (disch := omega) only [i0, i1, i_lt, i_le, i_eq, i_add, i_sub, i_mul, i_neg, i_ofNat, i_rem, i_div, w_in, w_in2, w_cnt, w_cnt2, z01, z01', il, li, lc_ge, lc_le, lc_gt, lc_lt, lc_eq, l_ofNat, l0, l_eq, l_lt, l_le]) <;> omega)) ?_
  simp only [i_add]
  rw [show ((0 + k : Nat) : Int) + 1 = ((0 + k + 1 : Nat) : Int) by omega]
  exact h_ainN (by omega) (by omega) (h_ainN (by omega) (by omega) rfl)
theorem q_cp67 {N : Nat} (hN : 2000000 ≤ N) (S : yS) : ∃ f, fX12_copy_266_267 N S = some (ySa S 267 f) ∧ ∀ k, k < 1338 → f k = S.2.2.1 266 k := by
  refine ⟨cpF (S.2.2.1 267) (S.2.2.1 266) 0 0 1338, ?_, fun k hk => by unfold cpF; rw [if_pos (by omega), show 0 + (k - 0) = k by omega]⟩
  have l := cpL0 (F := fun n l S => lX12_copy_266_267 N n l S) (r := 266) (q := 267) (src := 0) (dst := 0) (K := 1338) (c0 := 0) (n := N - 1339 + 1) (fun n k S hk => cp67_s n k S hk) S (by omega)
  rw [show N - 1339 + 1 + 1338 = N by omega] at l
  unfold fX12_copy_266_267
  refine Eq.trans l ?_
  show lX12_copy_266_267 N (N - 1339 + 1) _ _ = _
  rw [lX12_copy_266_267]
  exact h_pos (by decide) rfl
theorem q_cp76 {N : Nat} (hN : 2000000 ≤ N) (S : yS) : ∃ f, fX12_copy_267_266 N S = some (ySa S 266 f) ∧ ∀ k, k < 1338 → f k = S.2.2.1 267 k := by
  refine ⟨cpF (S.2.2.1 266) (S.2.2.1 267) 0 0 1338, ?_, fun k hk => by unfold cpF; rw [if_pos (by omega), show 0 + (k - 0) = k by omega]⟩
  have l := cpL0 (F := fun n l S => lX12_copy_267_266 N n l S) (r := 267) (q := 266) (src := 0) (dst := 0) (K := 1338) (c0 := 0) (n := N - 1339 + 1) (fun n k S hk => cp76_s n k S hk) S (by omega)
  rw [show N - 1339 + 1 + 1338 = N by omega] at l
  unfold fX12_copy_267_266
  refine Eq.trans l ?_
  show lX12_copy_267_266 N (N - 1339 + 1) _ _ = _
  rw [lX12_copy_267_266]
  exact h_pos (by decide) rfl
theorem tpR_fr (h : tpR S) (h1 : S'.1 251 = S.1 251) (h2 : S'.1 265 = S.1 265) (h3 : S'.2.2.1 252 = S.2.2.1 252) (h4 : S'.2.2.1 269 = S.2.2.1 269) : tpR S' := by
  obtain ⟨n, n1, n2, n3, n4⟩ := h
  refine ⟨n, n1, by rw [h1]; exact n2, by rw [h2]; exact n3, fun k hk => ?_⟩
  rw [rv_congr h3, h3, h4]; exact n4 k hk
theorem pm_image (h : Rel T S) {N : Nat} (hN : 2000000 ≤ N) : PM T S (fX11_image N T) (fX12_image N) := by
  obtain ⟨c0, c1, r0, r1, ht, hf, hx⟩ := id h
  obtain ⟨x1, ⟨o, x2, x3⟩, x4, x5⟩ := id hx
  have i1 := R_i1 h
  obtain ⟨S1, a1, a2, a3, a4⟩ := im_all hN c0 r0 c1.2.2.2.1 x4
  obtain ⟨f, b1, b2⟩ := q_cp67 hN S1
  have e6 : rv S1 266 = rv S 266 := rv_congr (a4.2.1 266 (by omega))
  have e62 : rv (ySa S1 267 f) 266 = rv S 266 := by rw [rv_congr (ySa_ne S1 f (show 266 ≠ 267 by omega)), e6]
  have e72 : ∀ k, k < 1338 → rv (ySa S1 267 f) 267 k = rv S 266 k := fun k hk => by
    rw [rv_ySa]
    unfold rf
    rw [b2 k hk]
    exact congrFun e6 k
  refine ⟨Int32.ofInt (rv S 266 6), S1, ySa S1 267 f, ?_, ?_, ?_⟩
  · unfold fX11_image
    refine h_bind a1 ?_
    rw [a4.1 19 (by omega), C_day h]
  · unfold fX12_image
    refine h_bind b1 ?_
    rw [rv_eq, e62]
  · unfold Rel
    rw [e62]
    have cc0 : cR 0 (rv S 266) (ySa S1 267 f) := cR_frame c0 r0 (fun i a b => a4.1 i (by omega)) (fun i a b _ => by rw [ySa_ne _ _ (by omega), a4.2.1 i (by omega)]) (by rw [← a4.2.2 (23 + 0) (by omega)]; rfl)
    have cc1 : cR 115 (rv S 266) (ySa S1 267 f) := cR_frame a2 r0 (fun i a b => rfl) (fun i a b _ => ySa_ne _ _ (by omega)) rfl
    refine ⟨cc0, cR_lt cc1 r0 e72, r0, rI_lt r0 e72, tpR_fr ht (a4.1 251 (by omega)) (a4.1 265 (by omega)) (by rw [ySa_ne _ _ (by omega), a4.2.1 _ (by omega)]) (by rw [ySa_ne _ _ (by omega), a4.2.1 _ (by omega)]), ?_, ?_⟩
    · unfold flR
      rw [ySa_1, a4.1 16 (by omega), a4.1 265 (by omega)]; exact hf
    · refine ⟨by rw [e72 1 (by omega), e62]; exact Int.le_refl _, ⟨o, fun t ht => ?_, fun t ht => ?_⟩, fun t ht => ?_, fun t ht => ?_⟩
      · rw [e62] at ht
        obtain ⟨y1, y2, y3⟩ := x2 t ht
        have ho : 281 ≤ o t := (yTx_K y2).2.2.2.2.2.2
        refine ⟨?_, y2, tx_congr y3 (fun _ _ _ => rfl) (a4.1 _ (by omega)) (fun i _ _ => by rw [ySa_ne _ _ (by omega), a4.2.1 _ (by omega)]) (fun k _ _ => by rw [ySa_ne _ _ (by omega), a4.2.1 _ (by omega)])⟩
        show S1.2.2.2.2 118 t = _
        rw [a4.2.2 118 (by omega)]; exact y1
      · rw [e72 1 (by omega)] at ht
        obtain ⟨y1, y2, y3⟩ := x2 t ht
        show S1.2.2.2.2 233 t = _
        rw [a3 t (by omega)]; exact y1
      · show oN T (S1.2.2.2.2 118 t)
        rw [a4.2.2 118 (by omega)]; exact x4 t ht
      · show oN T (S1.2.2.2.2 233 t)
        rw [a3 t ht]; exact x4 t ht
theorem pm_back (h : Rel T S) {N : Nat} (hN : 2000000 ≤ N) : PM T S (fX11_back N T) (fX12_back N) := by
  obtain ⟨c0, c1, r0, r1, ht, hf, hx⟩ := id h
  obtain ⟨x1, ⟨o, x2, x3⟩, x4, x5⟩ := id hx
  have i1 := r1.1.2.1
  obtain ⟨S1, a1, a2, a3, a4⟩ := bk_all hN c1 r1 c0.2.2.2.1 x5
  obtain ⟨f, b1, b2⟩ := q_cp76 hN S1
  have e7 : rv S1 267 = rv S 267 := rv_congr (a4.2.1 267 (by omega))
  have e72 : rv (ySa S1 266 f) 267 = rv S 267 := by rw [rv_congr (ySa_ne S1 f (show 267 ≠ 266 by omega)), e7]
  have e62 : ∀ k, k < 1338 → rv (ySa S1 266 f) 266 k = rv S 267 k := fun k hk => by
    rw [rv_ySa]
    unfold rf
    rw [b2 k hk]
    exact congrFun e7 k
  refine ⟨Int32.ofInt (rv S 267 6), S1, ySa S1 266 f, ?_, ?_, ?_⟩
  · unfold fX11_back
    refine h_bind a1 ?_
    rw [K_day a2]
  · unfold fX12_back
    refine h_bind b1 ?_
    rw [rv_eq, e62 6 (by omega)]
  · unfold Rel
    rw [e72]
    have cc1 : cR 115 (rv S 267) (ySa S1 266 f) := cR_frame c1 r1 (fun i a b => a4.1 i (by omega)) (fun i a b _ => by rw [ySa_ne _ _ (by omega), a4.2.1 i (by omega)]) (by rw [← a4.2.2 (23 + 115) (by omega)]; rfl)
    have cc0 : cR 0 (rv S 267) (ySa S1 266 f) := cR_frame a2 r1 (fun i a b => rfl) (fun i a b _ => ySa_ne _ _ (by omega)) rfl
    refine ⟨cR_lt cc0 r1 e62, cc1, rI_lt r1 e62, r1, tpR_fr ht (a4.1 251 (by omega)) (a4.1 265 (by omega)) (by rw [ySa_ne _ _ (by omega), a4.2.1 _ (by omega)]) (by rw [ySa_ne _ _ (by omega), a4.2.1 _ (by omega)]), ?_, ?_⟩
    · unfold flR
      rw [ySa_1, a4.1 16 (by omega), a4.1 265 (by omega)]; exact hf
    · refine ⟨by rw [e62 1 (by omega), e72]; exact Int.le_refl _, ⟨o, fun t ht => ?_, fun t ht => ?_⟩, fun t ht => ?_, fun t ht => ?_⟩
      · rw [e62 1 (by omega)] at ht
        have y0 := x3 t ht
        obtain ⟨y1, y2, y3⟩ := x2 t (by omega)
        have ho : 281 ≤ o t := (yTx_K y2).2.2.2.2.2.2
        refine ⟨?_, y2, tx_congr y3 (fun _ _ _ => rfl) (a4.1 _ (by omega)) (fun i _ _ => by rw [ySa_ne _ _ (by omega), a4.2.1 _ (by omega)]) (fun k _ _ => by rw [ySa_ne _ _ (by omega), a4.2.1 _ (by omega)])⟩
        show S1.2.2.2.2 118 t = _
        rw [a3 t (by omega)]; exact y0
      · rw [e72] at ht
        show S1.2.2.2.2 233 t = _
        rw [a4.2.2 233 (by omega)]; exact x3 t ht
      · show oN T (S1.2.2.2.2 118 t)
        rw [a3 t ht]; exact x5 t ht
      · show oN T (S1.2.2.2.2 233 t)
        rw [a4.2.2 233 (by omega)]; exact x5 t ht
end PMS
