/-! ===== the run of the law, the claim ===== -/
set_option maxRecDepth 100000 in
theorem zChk_ok : zChk = true := by decide +kernel
theorem yK0_lo : ∀ i, i < 16 → yK0 i = none := by
  intro i hi
  have : (List.range 16).all (fun i => (yK0 i).isNone) = true := by decide +kernel
  have h := List.all_eq_true.mp this i (List.mem_range.mpr hi)
  cases hk : yK0 i with
  | none => rfl
  | some a => rw [hk] at h; cases h
theorem lH_0 : lH 0 [] = (16, 0, fun _ => none) := by
  show (16 + 0, 0, fun j => if j < 16 then none else ([] : List va_E)[j - 16]?) = _
  congr 2
  funext j
  split <;> rfl
theorem zS_get : ∃ (w1 w : Nat) (ls : xL) (L1 L2 : List va_E), zEw 12 110 [.ref 16] 11 [.inr (11, xNew 11 11)] = some (none, w1, L1) ∧ L1.length = 249 ∧ zGo mX12_init 203 1000 0 (lv_args 0 [.ref 265]) [] (w1 + 32) (L1 ++ [.inr (12, xNew 12 32)]) = some (ls, [.ref 267, .ref 266], w, L2) ∧ w ≤ 1000000 ∧ L2.length = 265 ∧ shL 16 L2 = true ∧ dAll (ext L2) = true := by
  have h := zChk_ok
  unfold zChk at h
  cases hz : zS0 with
  | none => rw [hz] at h; cases h
  | some a =>
    obtain ⟨ls, st, w, L2⟩ := a
    rw [hz] at h
    dsimp only at h
    obtain ⟨h1, h⟩ := Bool.and_eq_true_iff.mp h
    obtain ⟨h2, h⟩ := Bool.and_eq_true_iff.mp h
    obtain ⟨h3, h⟩ := Bool.and_eq_true_iff.mp h
    obtain ⟨h4, h5⟩ := Bool.and_eq_true_iff.mp h
    unfold zS0 at hz
    obtain ⟨b, hb, hz⟩ := Option.bind_eq_some_iff.mp hz
    obtain ⟨v1, w1, L1⟩ := b
    dsimp only at hz
    cases hc : (Nat.beq L1.length 249 && v1.isNone) with
    | false => rw [hc] at hz; cases hz
    | true =>
      rw [hc] at hz
      have hc := Bool.and_eq_true_iff.mp hc
      rw [zTop_e h1] at hz
      cases v1 with
      | some x => cases hc.2
      | none => exact ⟨w1, w, ls, L1, L2, hb, xbeq hc.1, hz, Nat.le_of_ble_eq_true h2, xbeq h3, h4, h5⟩
set_option maxRecDepth 4000 in
theorem xlaw : xLawRuns := by
  intro L xs F hL
  obtain ⟨w1, w, ls, L1, L2, e1, l1, e2, hw, l2, hs, hd⟩ := zS_get
  have eH := ext_H (w := w) l2 hs yK0_lo
  obtain ⟨f, hf1, hf2⟩ := q_cp67 (N := 2000000) (Nat.le_refl _) (ext L2)
  obtain ⟨r, ⟨h', rfl, b1, b2⟩, n, kn⟩ := law_loop (xs := xs) (F := F) hL 513 0 (fun _ => none) (281, w) (ySa (ext L2) 267 f) (by omega) (by omega) (dAll_Rel hd hf2) (Nat.le_refl _) (fun _ _ => rfl)
  have ce : xEv (xRoL L xs F) xP xNo 2 195 [.ref 265] (lH (w1 + 32) (L1 ++ [.inr (12, xNew 12 32)])) (none, yH (yKx (fun _ => none)) (281, w) (ySa (ext L2) 267 f)) := by
    refine rx_meth (d := 1) (M := mX12_init) rfl rfl (zGo_x ?_ 1000 0 _ _ _ _ e2)
    rw [eH]
    refine rx_call rfl rfl rfl rfl rfl ((tX12_copy_266_267 hf1) (281, w)) ?_
    exact rx_ret rfl rfl
  have go : Rx (xRoL L xs F) xNo 690 mL_law 0 [(0, .ref 0)] [] (lH 0 []) (some (.int 1), h') := by
    refine rx_step (pc' := 3) (ls' := [(0, .ref 0)]) (st' := [.ref 16]) (h' := lH 11 [.inr (11, xNew 11 11)]) rfl ?_ ?_
    · show some (3, [(0, Value.ref 0)], [Value.ref (16 + 0)], xNw (lH 0 []) 11 (.inr (11, xNew 11 11))) = _
      rw [lH_nw]
      rfl
    refine rx_step rfl rfl ?_
    refine rx_call rfl rfl rfl rfl rfl (xEv_le (by decide) (zEw_x 12 110 [.ref 16] 11 _ none w1 L1 e1)) ?_
    refine rx_step rfl rfl ?_
    refine rx_step (pc' := 11) (ls' := [(1, .ref 16), (0, .ref 0)]) (st' := [.ref 265]) (h' := lH (w1 + 32) (L1 ++ [.inr (12, xNew 12 32)])) rfl ?_ ?_
    · show some (11, [(1, Value.ref 16), (0, Value.ref 0)], [Value.ref (16 + L1.length)], xNw (lH w1 L1) 32 (.inr (12, xNew 12 32))) = _
      rw [lH_nw, l1]
    refine rx_step rfl rfl ?_
    refine rx_call rfl rfl rfl rfl rfl (xEv_le (show 2 ≤ 690 by decide) ce) ?_
    refine rx_step rfl rfl ?_
    refine rx_step rfl rfl ?_
    refine rx_step rfl rfl ?_
    exact ⟨n, kn⟩
  obtain ⟨n2, kn2⟩ := go
  rw [lH_0] at kn2
  have b1 : h'.1 ≤ 281 + 6 * 513 := b1
  have b2 : h'.2.1 ≤ w + 681 * 513 := b2
  exact ⟨n2, h', kn2, by omega, by omega⟩
