/-! ===== text() ===== -/
def txE1 (S : yS) : yS := ySi S 251 1 (Int32.ofInt 0)
def txE2 (S : yS) : yS := ySi (txE1 S) 16 9 ((txE1 S).1 250 3)
def txE (S : yS) : yS := ySi (txE2 S) 16 10 ((txE2 S).1 250 4)
def txA (S : yS) (o : Nat) : yS := ySi (ySq S 118 (va_up (S.2.2.2.2 118) (S.1 18 8).toNatClampNeg (some o))) 18 8 (S.1 18 8 + Int32.ofInt 1)
theorem yTx_tT {T : yK} {o n m : Nat} (ho : 281 ≤ o) : yTx (tT T o n m) o = true := by
  have k0 : tT T o n m o = some (.inl (10, [o + 1 + 2, o + 2 + 2, 0, 0, 0, 0, o + 3 + 2, o + 4 + 2, o + 5 + 2])) := if_pos rfl
  have k1 : tT T o n m (o + 1) = some (.inr (0, n)) := by unfold tT; rw [if_neg (by omega), if_pos (Or.inl rfl)]
  have k2 : tT T o n m (o + 2) = some (.inr (0, n)) := by unfold tT; rw [if_neg (by omega), if_pos (Or.inr rfl)]
  have k3 : tT T o n m (o + 3) = some (.inr (0, m)) := by unfold tT; rw [if_neg (by omega), if_neg (by omega), if_pos (Or.inl rfl)]
  have k4 : tT T o n m (o + 4) = some (.inr (0, m)) := by unfold tT; rw [if_neg (by omega), if_neg (by omega), if_pos (Or.inr (Or.inl rfl))]
  have k5 : tT T o n m (o + 5) = some (.inr (0, m)) := by unfold tT; rw [if_neg (by omega), if_neg (by omega), if_pos (Or.inr (Or.inr rfl))]
  have hl : Nat.ble 281 o = true := Nat.ble_eq_true_of_le ho
  unfold yTx tLn
  rw [hl, k0, k1, k2, k3, k4, k5]
  simp [yIsO, yIsA]
theorem tX11_text0 {ro : xRo} {T : yK} {S : yS} {d : Nat} (h : ¬ S.1 18 8 < Int32.ofInt 4) : yEv ro xNo (yKx T) (d + 1) jX11_text [.ref 16] S (some (.int (Int32.ofInt (-1)))) S := by
  refine ry_meth pX11_text rfl (fun z => ?_)
  iterate 5 (refine ry_step rfl rfl ?_)
  rw [if_neg h]
  refine ry_step rfl rfl ?_
  exact ry_ret rfl rfl
theorem tX11_textN {ro : xRo} {T : yK} {S S1 : yS} {d N : Nat} (h : S.1 18 8 < Int32.ofInt 4) (hf : fX5_readTape N S = some S1) (hft : ¬ S1.1 250 3 = 0) : yEv ro xNo (yKx T) (d + 214) jX11_text [.ref 16] S (some (.int (Int32.ofInt (-1)))) (txE S1) := by
  refine ry_meth pX11_text rfl (fun z => ?_)
  iterate 5 (refine ry_step rfl rfl ?_)
  rw [if_pos h]
  iterate 2 (refine ry_step rfl rfl ?_)
  refine ry_callx rfl rfl rfl rfl rfl (tX5_readTape hf (tTapeN hft)) ?_
  iterate 19 (refine ry_step rfl rfl ?_)
  exact ry_ret rfl rfl
theorem tX0_addText {ro : xRo} {T : yK} {S : yS} {d o : Nat} (ho : yTx T o = true) (h0 : ¬ S.1 18 8 < 0) (h : S.1 18 8 < Int32.ofInt 4) : yEv ro xNo (yKx T) (d + 1) jX0_addText [.ref 18, .ref o] S (some (.int (S.1 18 8 + Int32.ofInt 1 - Int32.ofInt 1))) (txA S o) := by
  refine ry_meth pX0_addText rfl (fun z => ?_)
  iterate 4 (refine ry_step rfl rfl ?_)
  rw [if_pos h]
  iterate 5 (refine ry_step rfl rfl ?_)
  have hin : ain 4 (S.1 18 8) = some (S.1 18 8).toNatClampNeg := by
    unfold ain
    have e1 := i32_nat h0
    have e2 := Int32.lt_iff_toInt_lt.mp h
    have e3 : (Int32.ofInt 4).toInt = 4 := rfl
    rw [if_neg]
    rintro (q | q)
    · exact h0 q
    · omega
  refine ry_aasT (E := fun j S1 => some S1) (q := ySq S 118 (va_up (S.2.2.2.2 118) (S.1 18 8).toNatClampNeg (some o))) ho (by rw [hin]; rfl) rfl rfl (fun j S1 hS => ?_)
  cases hS
  iterate 10 (refine ry_step rfl rfl ?_)
  exact ry_ret rfl rfl
theorem tX11_textT {ro : xRo} {T : yK} {z : Nat × Nat} {S S1 : yS} {d N sz cl : Nat} (h : S.1 18 8 < Int32.ofInt 4) (hf : fX5_readTape N S = some S1) (hft : S1.1 250 3 = 0) (hz : 281 ≤ z.1) (hT : ∀ j, z.1 ≤ j → T j = none) (hsz : (S1.1 250 7).toInt = sz) (h1 : sz ≤ 300) (hcl : (S1.1 250 15).toInt = cl) (h2 : cl ≤ 24) (hs0 : ¬ S1.1 18 8 < 0) (hs : S1.1 18 8 < Int32.ofInt 4) : ∃ g1 g2 g3 g4 g5 : Nat → Int32, (∀ j, j < sz → g1 j = S1.2.2.1 256 j) ∧ (∀ j, j < sz → g2 j = S1.2.2.1 257 j) ∧ (∀ j, j < cl → g3 j = S1.2.2.1 258 j) ∧ (∀ j, j < cl → g4 j = S1.2.2.1 259 j) ∧ (∀ j, j < cl → g5 j = S1.2.2.1 260 j) ∧ xEv ro xP xNo (d + 216) jX11_text [.ref 16] (yH (yKx T) z S) (some (.int (S1.1 18 8 + Int32.ofInt 1 - Int32.ofInt 1)), yH (yKx (tT T z.1 sz cl)) (tZ z sz cl) (txA (txE (tS S1 z.1 g1 g2 g3 g4 g5)) z.1)) := by
  obtain ⟨g1, g2, g3, g4, g5, e1, e2, e3, e4, e5, c⟩ := tTapeT (ro := ro) (d := d + 212) hft hz hT hsz h1 hcl h2
  refine ⟨g1, g2, g3, g4, g5, e1, e2, e3, e4, e5, ?_⟩
  refine ry_methx (d := d + 215) pX11_text rfl ?_
  iterate 5 (refine ry_step rfl rfl ?_)
  rw [if_pos h]
  iterate 2 (refine ry_step rfl rfl ?_)
  refine ry_callx rfl rfl rfl rfl rfl (tX5_readTape (d := d + 2) hf c) ?_
  iterate 20 (refine ry_step rfl rfl ?_)
  have q8 : (txE (tS S1 z.1 g1 g2 g3 g4 g5)).1 18 8 = S1.1 18 8 := by
    have a1 : (txE (tS S1 z.1 g1 g2 g3 g4 g5)).1 18 = (txE2 (tS S1 z.1 g1 g2 g3 g4 g5)).1 18 := rfl
    have a2 : (txE2 (tS S1 z.1 g1 g2 g3 g4 g5)).1 18 = (txE1 (tS S1 z.1 g1 g2 g3 g4 g5)).1 18 := rfl
    have a3 : (txE1 (tS S1 z.1 g1 g2 g3 g4 g5)).1 18 = (tS S1 z.1 g1 g2 g3 g4 g5).1 18 := rfl
    have a4 : (tS S1 z.1 g1 g2 g3 g4 g5).1 18 = S1.1 18 := yU_ne (by omega)
    rw [a1, a2, a3, a4]
  have ca := tX0_addText (ro := ro) (T := tT T z.1 sz cl) (S := txE (tS S1 z.1 g1 g2 g3 g4 g5)) (d := d + 214) (o := z.1) (yTx_tT hz) (by rw [q8]; exact hs0) (by rw [q8]; exact hs)
  rw [q8] at ca
  refine ry_call (v := some (.int (S1.1 18 8 + Int32.ofInt 1 - Int32.ofInt 1))) rfl rfl rfl rfl rfl ca ?_
  exact ry_ret rfl rfl
