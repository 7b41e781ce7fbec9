/-! ===== the three texts of the class: charAt, length, indexOf ===== -/
theorem ry_bst {ro : xRo} {B : Nat → List Value → xH → xR → Prop} {K : yK} {z : Nat × Nat} {d : Nat} {M : xMeth} {pc : Nat} {ls : xL} {st : List Value} {S : yS} {r : xR} {len A0 B0 : Nat} {k0 : Int} {ps : List Nat} {a n : Nat} {f : Nat → Int32} {i : Int32} (h1 : xAt M.2.2.2.2 pc = some (.baload, len, A0, B0, k0, ps)) (hq : xStB a = some (n, f)) (ha : Nat.blt a 16 = true) (hin : vp_in i n) (kk : Ry ro B K z d M (pc + 1) ls (.int (f i.toNatClampNeg) :: st) S r) : Ry ro B K z d M pc ls (.int i :: .ref a :: st) S r := by
  refine ry_step h1 ?_ kk
  show (bif Nat.blt a 16 then (xStB a).bind _ else _) = _
  rw [ha, hq]
  show xin i n (fun j => some (pc + 1, ls, Value.int (f j) :: st, S)) = _
  rw [xin_of hin]
theorem tJ3_ci {ro : xRo} {T : yK} {S : yS} {d : Nat} {v n : Int32} {w : Value} (hw : w = .null ∨ w = .ref 8) (h0 : ¬ v < 0) (h1 : v < n) : yEv ro xNo (yKx T) (d + 1) jJ3_checkIndex_8e157 [.int v, .int n, w] S (some (.int v)) S := by
  rcases hw with rfl | rfl
  all_goals
    refine ry_meth pJ3_checkIndex_8e157 rfl (fun z => ?_)
    refine ry_step rfl rfl ?_
    refine ry_step rfl rfl ?_
    rw [if_neg h0]
    refine ry_step rfl rfl ?_
    refine ry_step rfl rfl ?_
    refine ry_step rfl rfl ?_
    rw [if_pos h1]
    refine ry_step rfl rfl ?_
    exact ry_ret rfl rfl
theorem tJ0_ci {ro : xRo} {T : yK} {S : yS} {d : Nat} {v n : Int32} (h0 : ¬ v < 0) (h1 : v < n) : yEv ro xNo (yKx T) (d + 2) jJ0_checkIndex_df160 [.int v, .int n] S none S := by
  refine ry_meth pJ0_checkIndex_df160 rfl (fun z => ?_)
  refine ry_step rfl rfl ?_
  refine ry_step rfl rfl ?_
  cases h8 : ro 8 with
  | none =>
    refine ry_step (pc' := 5) (ls' := lv_args 0 [.int v, .int n]) (st' := [.null, .int n, .int v]) (S' := S) rfl (by show (match ro 8 with | some _ => some _ | none => some _) = _; rw [h8]) ?_
    refine ry_call rfl rfl rfl rfl rfl (tJ3_ci (Or.inl rfl) h0 h1) ?_
    refine ry_step rfl rfl ?_
    exact ry_ret rfl rfl
  | some q =>
    refine ry_step (pc' := 5) (ls' := lv_args 0 [.int v, .int n]) (st' := [.ref 8, .int n, .int v]) (S' := S) rfl (by show (match ro 8 with | some _ => some _ | none => some _) = _; rw [h8]) ?_
    refine ry_call rfl rfl rfl rfl rfl (tJ3_ci (Or.inr rfl) h0 h1) ?_
    refine ry_step rfl rfl ?_
    exact ry_ret rfl rfl
theorem xBy0_chr : ∀ j, j < 150 → ((xBy0.getD j 0 &&& 255).toUInt32 % 65536).toInt32 = xBy0.getD j 0 ∧ narrow .char (.int (xBy0.getD j 0)) = .int (xBy0.getD j 0) := by decide +kernel
theorem tJ0_isLatin1_2 {ro : xRo} {T : yK} {S : yS} {d : Nat} : yEv ro xNo (yKx T) (d + 1) jJ0_isLatin1_aae02 [.ref 2] S (some (.int 1)) S := by
  refine ry_meth pJ0_isLatin1_aae02 rfl (fun z => ?_)
  repeat (refine ry_step rfl rfl ?_)
  exact ry_ret rfl rfl
theorem tJ0_coder_2 {ro : xRo} {T : yK} {S : yS} {d : Nat} : yEv ro xNo (yKx T) (d + 1) jJ0_coder_7d493 [.ref 2] S (some (.int 0)) S := by
  refine ry_meth pJ0_coder_7d493 rfl (fun z => ?_)
  repeat (refine ry_step rfl rfl ?_)
  exact ry_ret rfl rfl
theorem tJ0_length_2 {ro : xRo} {T : yK} {S : yS} {d : Nat} : yEv ro xNo (yKx T) (d + 2) jJ0_length_8abf5 [.ref 2] S (some (.int 150)) S := by
  refine ry_meth pJ0_length_8abf5 rfl (fun z => ?_)
  iterate 4 (refine ry_step rfl rfl ?_)
  refine ry_call rfl rfl rfl rfl rfl tJ0_coder_2 ?_
  refine ry_step rfl rfl ?_
  exact ry_ret rfl (by rfl)
theorem tJ1_charAt_5 {ro : xRo} {T : yK} {S : yS} {d : Nat} {v q : Int32} (hf : (ain 150 v).bind (fun j => some (xBy0.getD j 0)) = some q) : yEv ro xNo (yKx T) (d + 3) jJ1_charAt_3b067 [.ref 5, .int v] S (some (.int q)) S := by
  obtain ⟨hin, hE⟩ := ain_inv hf
  have hin' := hin
  unfold vp_in at hin'
  have h0 : ¬ v < 0 := fun h => hin' (Or.inl h)
  have h1 : v.toNatClampNeg < 150 := Nat.lt_of_not_le (fun h => hin' (Or.inr h))
  have h2 : v < Int32.ofNat 150 := by
    have e1 : (0 : Int) ≤ v.toInt := by
      have := mt Int32.lt_iff_toInt_lt.mpr h0
      simpa using this
    have e2 : v.toNatClampNeg = v.toInt.toNat := rfl
    refine Int32.lt_iff_toInt_lt.mpr ?_
    show v.toInt < 150
    omega
  refine ry_meth pJ1_charAt_3b067 rfl (fun z => ?_)
  iterate 3 (refine ry_step rfl rfl ?_)
  refine ry_call rfl rfl rfl rfl rfl (tJ0_ci h0 h2) ?_
  iterate 2 (refine ry_step rfl rfl ?_)
  refine ry_bst rfl rfl rfl hin ?_
  iterate 3 (refine ry_step rfl rfl ?_)
  have hc := xBy0_chr _ h1
  cases hE
  have e : (xBy0.getD v.toNatClampNeg 0 &&& Int32.ofInt 255).toUInt32 % 65536 = (xBy0.getD v.toNatClampNeg 0 &&& 255).toUInt32 % 65536 := rfl
  rw [e, hc.1]
  exact ry_ret rfl (by show (if narrow .char (.int (xBy0.getD v.toNatClampNeg 0)) = _ then _ else none) = _; rw [if_pos hc.2])
theorem tJ0_charAt_2 {ro : xRo} {T : yK} {S : yS} {d : Nat} {v q : Int32} (hf : (ain 150 v).bind (fun j => some (xBy0.getD j 0)) = some q) : yEv ro xNo (yKx T) (d + 4) jJ0_charAt_5068e [.ref 2, .int v] S (some (.int q)) S := by
  have hq : narrow .char (.int q) = .int q := by
    obtain ⟨hin, hE⟩ := ain_inv hf
    have hin' := hin
    unfold vp_in at hin'
    have h1 : v.toNatClampNeg < 150 := Nat.lt_of_not_le (fun h => hin' (Or.inr h))
    cases hE
    exact (xBy0_chr _ h1).2
  refine ry_meth pJ0_charAt_5068e rfl (fun z => ?_)
  refine ry_step rfl rfl ?_
  refine ry_call rfl rfl rfl rfl rfl tJ0_isLatin1_2 ?_
  refine ry_step rfl rfl ?_
  rw [if_neg (by decide)]
  iterate 3 (refine ry_step rfl rfl ?_)
  refine ry_call rfl rfl rfl rfl rfl (tJ1_charAt_5 hf) ?_
  exact ry_ret rfl (by show (if narrow .char (.int q) = _ then _ else none) = _; rw [if_pos hq])
theorem xBy1_chr : ∀ j, j < 11 → ((xBy1.getD j 0 &&& 255).toUInt32 % 65536).toInt32 = xBy1.getD j 0 ∧ narrow .char (.int (xBy1.getD j 0)) = .int (xBy1.getD j 0) := by decide +kernel
theorem tJ0_isLatin1_3 {ro : xRo} {T : yK} {S : yS} {d : Nat} : yEv ro xNo (yKx T) (d + 1) jJ0_isLatin1_aae02 [.ref 3] S (some (.int 1)) S := by
  refine ry_meth pJ0_isLatin1_aae02 rfl (fun z => ?_)
  repeat (refine ry_step rfl rfl ?_)
  exact ry_ret rfl rfl
theorem tJ0_coder_3 {ro : xRo} {T : yK} {S : yS} {d : Nat} : yEv ro xNo (yKx T) (d + 1) jJ0_coder_7d493 [.ref 3] S (some (.int 0)) S := by
  refine ry_meth pJ0_coder_7d493 rfl (fun z => ?_)
  repeat (refine ry_step rfl rfl ?_)
  exact ry_ret rfl rfl
theorem tJ0_length_3 {ro : xRo} {T : yK} {S : yS} {d : Nat} : yEv ro xNo (yKx T) (d + 2) jJ0_length_8abf5 [.ref 3] S (some (.int 11)) S := by
  refine ry_meth pJ0_length_8abf5 rfl (fun z => ?_)
  iterate 4 (refine ry_step rfl rfl ?_)
  refine ry_call rfl rfl rfl rfl rfl tJ0_coder_3 ?_
  refine ry_step rfl rfl ?_
  exact ry_ret rfl (by rfl)
theorem tJ1_charAt_6 {ro : xRo} {T : yK} {S : yS} {d : Nat} {v q : Int32} (hf : (ain 11 v).bind (fun j => some (xBy1.getD j 0)) = some q) : yEv ro xNo (yKx T) (d + 3) jJ1_charAt_3b067 [.ref 6, .int v] S (some (.int q)) S := by
  obtain ⟨hin, hE⟩ := ain_inv hf
  have hin' := hin
  unfold vp_in at hin'
  have h0 : ¬ v < 0 := fun h => hin' (Or.inl h)
  have h1 : v.toNatClampNeg < 11 := Nat.lt_of_not_le (fun h => hin' (Or.inr h))
  have h2 : v < Int32.ofNat 11 := by
    have e1 : (0 : Int) ≤ v.toInt := by
      have := mt Int32.lt_iff_toInt_lt.mpr h0
      simpa using this
    have e2 : v.toNatClampNeg = v.toInt.toNat := rfl
    refine Int32.lt_iff_toInt_lt.mpr ?_
    show v.toInt < 11
    omega
  refine ry_meth pJ1_charAt_3b067 rfl (fun z => ?_)
  iterate 3 (refine ry_step rfl rfl ?_)
  refine ry_call rfl rfl rfl rfl rfl (tJ0_ci h0 h2) ?_
  iterate 2 (refine ry_step rfl rfl ?_)
  refine ry_bst rfl rfl rfl hin ?_
  iterate 3 (refine ry_step rfl rfl ?_)
  have hc := xBy1_chr _ h1
  cases hE
  have e : (xBy1.getD v.toNatClampNeg 0 &&& Int32.ofInt 255).toUInt32 % 65536 = (xBy1.getD v.toNatClampNeg 0 &&& 255).toUInt32 % 65536 := rfl
  rw [e, hc.1]
  exact ry_ret rfl (by show (if narrow .char (.int (xBy1.getD v.toNatClampNeg 0)) = _ then _ else none) = _; rw [if_pos hc.2])
theorem tJ0_charAt_3 {ro : xRo} {T : yK} {S : yS} {d : Nat} {v q : Int32} (hf : (ain 11 v).bind (fun j => some (xBy1.getD j 0)) = some q) : yEv ro xNo (yKx T) (d + 4) jJ0_charAt_5068e [.ref 3, .int v] S (some (.int q)) S := by
  have hq : narrow .char (.int q) = .int q := by
    obtain ⟨hin, hE⟩ := ain_inv hf
    have hin' := hin
    unfold vp_in at hin'
    have h1 : v.toNatClampNeg < 11 := Nat.lt_of_not_le (fun h => hin' (Or.inr h))
    cases hE
    exact (xBy1_chr _ h1).2
  refine ry_meth pJ0_charAt_5068e rfl (fun z => ?_)
  refine ry_step rfl rfl ?_
  refine ry_call rfl rfl rfl rfl rfl tJ0_isLatin1_3 ?_
  refine ry_step rfl rfl ?_
  rw [if_neg (by decide)]
  iterate 3 (refine ry_step rfl rfl ?_)
  refine ry_call rfl rfl rfl rfl rfl (tJ1_charAt_6 hf) ?_
  exact ry_ret rfl (by show (if narrow .char (.int q) = _ then _ else none) = _; rw [if_pos hq])
theorem xBy2_chr : ∀ j, j < 96 → ((xBy2.getD j 0 &&& 255).toUInt32 % 65536).toInt32 = xBy2.getD j 0 ∧ narrow .char (.int (xBy2.getD j 0)) = .int (xBy2.getD j 0) := by decide +kernel
theorem tJ0_isLatin1_4 {ro : xRo} {T : yK} {S : yS} {d : Nat} : yEv ro xNo (yKx T) (d + 1) jJ0_isLatin1_aae02 [.ref 4] S (some (.int 1)) S := by
  refine ry_meth pJ0_isLatin1_aae02 rfl (fun z => ?_)
  repeat (refine ry_step rfl rfl ?_)
  exact ry_ret rfl rfl
theorem tJ0_coder_4 {ro : xRo} {T : yK} {S : yS} {d : Nat} : yEv ro xNo (yKx T) (d + 1) jJ0_coder_7d493 [.ref 4] S (some (.int 0)) S := by
  refine ry_meth pJ0_coder_7d493 rfl (fun z => ?_)
  repeat (refine ry_step rfl rfl ?_)
  exact ry_ret rfl rfl
theorem tJ0_length_4 {ro : xRo} {T : yK} {S : yS} {d : Nat} : yEv ro xNo (yKx T) (d + 2) jJ0_length_8abf5 [.ref 4] S (some (.int 96)) S := by
  refine ry_meth pJ0_length_8abf5 rfl (fun z => ?_)
  iterate 4 (refine ry_step rfl rfl ?_)
  refine ry_call rfl rfl rfl rfl rfl tJ0_coder_4 ?_
  refine ry_step rfl rfl ?_
  exact ry_ret rfl (by rfl)
theorem tJ1_charAt_7 {ro : xRo} {T : yK} {S : yS} {d : Nat} {v q : Int32} (hf : (ain 96 v).bind (fun j => some (xBy2.getD j 0)) = some q) : yEv ro xNo (yKx T) (d + 3) jJ1_charAt_3b067 [.ref 7, .int v] S (some (.int q)) S := by
  obtain ⟨hin, hE⟩ := ain_inv hf
  have hin' := hin
  unfold vp_in at hin'
  have h0 : ¬ v < 0 := fun h => hin' (Or.inl h)
  have h1 : v.toNatClampNeg < 96 := Nat.lt_of_not_le (fun h => hin' (Or.inr h))
  have h2 : v < Int32.ofNat 96 := by
    have e1 : (0 : Int) ≤ v.toInt := by
      have := mt Int32.lt_iff_toInt_lt.mpr h0
      simpa using this
    have e2 : v.toNatClampNeg = v.toInt.toNat := rfl
    refine Int32.lt_iff_toInt_lt.mpr ?_
    show v.toInt < 96
    omega
  refine ry_meth pJ1_charAt_3b067 rfl (fun z => ?_)
  iterate 3 (refine ry_step rfl rfl ?_)
  refine ry_call rfl rfl rfl rfl rfl (tJ0_ci h0 h2) ?_
  iterate 2 (refine ry_step rfl rfl ?_)
  refine ry_bst rfl rfl rfl hin ?_
  iterate 3 (refine ry_step rfl rfl ?_)
  have hc := xBy2_chr _ h1
  cases hE
  have e : (xBy2.getD v.toNatClampNeg 0 &&& Int32.ofInt 255).toUInt32 % 65536 = (xBy2.getD v.toNatClampNeg 0 &&& 255).toUInt32 % 65536 := rfl
  rw [e, hc.1]
  exact ry_ret rfl (by show (if narrow .char (.int (xBy2.getD v.toNatClampNeg 0)) = _ then _ else none) = _; rw [if_pos hc.2])
theorem tJ0_charAt_4 {ro : xRo} {T : yK} {S : yS} {d : Nat} {v q : Int32} (hf : (ain 96 v).bind (fun j => some (xBy2.getD j 0)) = some q) : yEv ro xNo (yKx T) (d + 4) jJ0_charAt_5068e [.ref 4, .int v] S (some (.int q)) S := by
  have hq : narrow .char (.int q) = .int q := by
    obtain ⟨hin, hE⟩ := ain_inv hf
    have hin' := hin
    unfold vp_in at hin'
    have h1 : v.toNatClampNeg < 96 := Nat.lt_of_not_le (fun h => hin' (Or.inr h))
    cases hE
    exact (xBy2_chr _ h1).2
  refine ry_meth pJ0_charAt_5068e rfl (fun z => ?_)
  refine ry_step rfl rfl ?_
  refine ry_call rfl rfl rfl rfl rfl tJ0_isLatin1_4 ?_
  refine ry_step rfl rfl ?_
  rw [if_neg (by decide)]
  iterate 3 (refine ry_step rfl rfl ?_)
  refine ry_call rfl rfl rfl rfl rfl (tJ1_charAt_7 hf) ?_
  exact ry_ret rfl (by show (if narrow .char (.int q) = _ then _ else none) = _; rw [if_pos hq])
def lSgn : Nat → Int32 → Int32 → Option Int32
  | 0, _, _ => none
  | n + 1, c, i => if (11 : Int32) ≤ i then some (Int32.ofInt (-1)) else (ain 11 i).bind fun j => if xBy1.getD j 0 = c then some i else lSgn n c (i + Int32.ofInt 1)
theorem uSgn {ro : xRo} {T : yK} {S : yS} {d : Nat} {v : Int32} : ∀ (n : Nat) (c i q : Int32), lSgn n c i = some q → ∀ z, Ry ro xNo (yKx T) z d mJ1_indexOfChar_4cfef 7 [(5, .int i), (4, .int c), (0, .ref 6), (1, .int v), (2, .int 0), (3, .int 11)] [] S (some (.int q), yH (yKx T) z S) := by
  intro n
  induction n with
  | zero => intro c i q hf; cases hf
  | succ n ih =>
    intro c i q hf z
    unfold lSgn at hf
    iterate 3 (refine ry_step rfl rfl ?_)
    refine ry_br hf (fun hc hf => ?_) (fun hc hf => ?_)
    · refine ry_step rfl rfl ?_
      cases hf
      exact ry_ret rfl rfl
    · obtain ⟨hin, hf⟩ := ain_inv hf
      iterate 2 (refine ry_step rfl rfl ?_)
      refine ry_bst rfl rfl rfl hin ?_
      refine ry_step rfl rfl ?_
      refine ry_step rfl rfl ?_
      by_cases hh : xBy1.getD i.toNatClampNeg 0 = c
      · rw [if_pos hh] at hf
        rw [if_neg (not_not_intro hh)]
        refine ry_step rfl rfl ?_
        cases hf
        exact ry_ret rfl rfl
      · rw [if_neg hh] at hf
        rw [if_pos hh]
        iterate 2 (refine ry_step rfl rfl ?_)
        exact ih c _ q hf z
def fSgn (v : Int32) : Option Int32 := if fJ1_canEncode_9a6ad v = 0 then some (Int32.ofInt (-1)) else lSgn 12 v.toInt8.toInt32 0
theorem tJ1_indexOfChar {ro : xRo} {T : yK} {S : yS} {d : Nat} {v q : Int32} (hf : lSgn 12 v.toInt8.toInt32 0 = some q) : yEv ro xNo (yKx T) (d + 1) jJ1_indexOfChar_4cfef [.ref 6, .int v, .int 0, .int 11] S (some (.int q)) S := by
  refine ry_meth pJ1_indexOfChar_4cfef rfl (fun z => ?_)
  iterate 5 (refine ry_step rfl rfl ?_)
  refine ry_sub [0, 1, 2, 3, 4, 5] rfl rfl ?_
  exact uSgn 12 _ _ q hf z
theorem tJ1_indexOf {ro : xRo} {T : yK} {S : yS} {d : Nat} {v q : Int32} (hf : fSgn v = some q) : yEv ro xNo (yKx T) (d + 2) jJ1_indexOf_4cfef [.ref 6, .int v, .int 0, .int 11] S (some (.int q)) S := by
  refine ry_meth pJ1_indexOf_4cfef rfl (fun z => ?_)
  unfold fSgn at hf
  refine ry_step rfl rfl ?_
  refine ry_call rfl rfl rfl rfl rfl tJ1_canEncode_9a6ad ?_
  refine ry_step rfl rfl ?_
  by_cases hh : fJ1_canEncode_9a6ad v = 0
  · rw [if_pos hh] at hf
    rw [if_neg (not_not_intro hh)]
    refine ry_step rfl rfl ?_
    cases hf
    exact ry_ret rfl rfl
  · rw [if_neg hh] at hf
    rw [if_pos hh]
    iterate 2 (refine ry_step rfl rfl ?_)
    refine ry_step (pc' := 14) (ls' := _) (st' := [.int 0]) (S' := S) rfl rfl ?_
    iterate 3 (refine ry_step rfl rfl ?_)
    iterate 1 (refine ry_step rfl rfl ?_)
    refine ry_step (pc' := 21) (ls' := _) (st' := [.int 11]) (S' := S) rfl rfl ?_
    iterate 4 (refine ry_step rfl rfl ?_)
    rw [if_pos (by decide)]
    iterate 4 (refine ry_step rfl rfl ?_)
    refine ry_call rfl rfl rfl rfl rfl (tJ1_indexOfChar hf) ?_
    exact ry_ret rfl rfl
theorem tJ0_indexOf2 {ro : xRo} {T : yK} {S : yS} {d : Nat} {v q : Int32} (hf : fSgn v = some q) : yEv ro xNo (yKx T) (d + 3) jJ0_indexOf_7cf53 [.ref 3, .int v, .int 0] S (some (.int q)) S := by
  refine ry_meth pJ0_indexOf_7cf53 rfl (fun z => ?_)
  refine ry_step rfl rfl ?_
  refine ry_call rfl rfl rfl rfl rfl tJ0_isLatin1_3 ?_
  refine ry_step rfl rfl ?_
  rw [if_neg (by decide)]
  iterate 5 (refine ry_step rfl rfl ?_)
  refine ry_call rfl rfl rfl rfl rfl tJ0_length_3 ?_
  refine ry_call rfl rfl rfl rfl rfl (tJ1_indexOf hf) ?_
  refine ry_step rfl rfl ?_
  exact ry_ret rfl rfl
theorem tJ0_indexOf {ro : xRo} {T : yK} {S : yS} {d : Nat} {v q : Int32} (hf : fSgn v = some q) : yEv ro xNo (yKx T) (d + 4) jJ0_indexOf_0f7a4 [.ref 3, .int v] S (some (.int q)) S := by
  refine ry_meth pJ0_indexOf_0f7a4 rfl (fun z => ?_)
  iterate 3 (refine ry_step rfl rfl ?_)
  refine ry_call rfl rfl rfl rfl rfl (tJ0_indexOf2 hf) ?_
  exact ry_ret rfl rfl
