/-! ===== methods as functions, and their walks, by program ===== -/
def fX12_openNow (N : Nat) (S : yS) : Option Int32 := (fX12_openAt N  S).bind fun u2 => (if 0 ≤ u2 then (fX12_openAt N  S).bind fun u4 => (ain 160 u4).bind fun j5 => some (S.2.2.1 270 j5) else some (Int32.ofInt (-1)))
set_option maxRecDepth 4000 in
theorem tX12_openNow {ro : xRo} {T : yK} {S : yS} {d N : Nat} {q : Int32} (hf : fX12_openNow N  S = some q) : yEv ro xNo (yKx T) (d + 2) jX12_openNow [.ref 265] S (some (.int q)) S := by
  refine ry_meth pX12_openNow rfl (fun z => ?_)
  unfold fX12_openNow at hf
  refine ry_step rfl rfl ?_
  obtain ⟨u2, hv1, hf⟩ := Option.bind_eq_some_iff.mp hf
  refine ry_call rfl rfl rfl rfl rfl (tX12_openAt hv1) ?_
  refine ry_step rfl rfl ?_
  refine ry_br hf (fun hc hf => ?_) (fun hc hf => ?_)
  · iterate 3 (refine ry_step rfl rfl ?_)
    obtain ⟨u4, hv3, hf⟩ := Option.bind_eq_some_iff.mp hf
    refine ry_call rfl rfl rfl rfl rfl (tX12_openAt hv3) ?_
    refine ry_iald hf rfl rfl rfl (fun j5 hf => ?_)
    cases hf
    exact ry_ret rfl rfl
  · iterate 2 (refine ry_step rfl rfl ?_)
    cases hf
    exact ry_ret rfl rfl
def lX12_isCompared (N : Nat) : Nat → Int32 → yS → Option Int32
  | 0, _, _ => none
  | n + 1, l1, S => (if l1 < 0 then (if l1 < 0 then some (Int32.ofInt 0) else (ain 160 l1).bind fun j2 => (if ¬ (fX12_rank (S.2.2.1 270 j2)) = (Int32.ofInt 4) then some (Int32.ofInt 0) else some (Int32.ofInt 1))) else (ain 160 l1).bind fun j3 => (if (fX12_rank (S.2.2.1 270 j3)) ≤ (Int32.ofInt 4) then (if l1 < 0 then some (Int32.ofInt 0) else (ain 160 l1).bind fun j4 => (if ¬ (fX12_rank (S.2.2.1 270 j4)) = (Int32.ofInt 4) then some (Int32.ofInt 0) else some (Int32.ofInt 1))) else lX12_isCompared N n (l1 + (Int32.ofInt (-1))) S))
set_option maxRecDepth 4000 in
theorem uX12_isCompared {ro : xRo} {T : yK} {d N : Nat} : ∀ n : Nat, (∀ (l1 : Int32) (S : yS) {q : Int32}, lX12_isCompared N n l1 S = some q → ∀ z, Ry ro xNo (yKx T) z (d + 1) mX12_isCompared 7 [(0, .ref 265), (1, .int l1)] [] S (some (.int q), yH (yKx T) z S)) := by
  intro n
  induction n with
  | zero => exact (by intro _ _ _ hf; cases hf)
  | succ n ih =>
    intro l1 S q hf z
    unfold lX12_isCompared at hf
    iterate 2 (refine ry_step rfl rfl ?_)
    refine ry_br hf (fun hc hf => ?_) (fun hc hf => ?_)
    · iterate 2 (refine ry_step rfl rfl ?_)
      refine ry_br hf (fun hc hf => ?_) (fun hc hf => ?_)
      · refine ry_step rfl rfl ?_
        cases hf
        exact ry_ret rfl rfl
      · iterate 3 (refine ry_step rfl rfl ?_)
        refine ry_iald hf rfl rfl rfl (fun j2 hf => ?_)
        refine ry_call rfl rfl rfl rfl rfl tX12_rank ?_
        iterate 2 (refine ry_step rfl rfl ?_)
        refine ry_br hf (fun hc hf => ?_) (fun hc hf => ?_)
        · refine ry_step rfl rfl ?_
          cases hf
          exact ry_ret rfl rfl
        · iterate 2 (refine ry_step rfl rfl ?_)
          cases hf
          exact ry_ret rfl rfl
    · iterate 3 (refine ry_step rfl rfl ?_)
      refine ry_iald hf rfl rfl rfl (fun j3 hf => ?_)
      refine ry_call rfl rfl rfl rfl rfl tX12_rank ?_
      iterate 2 (refine ry_step rfl rfl ?_)
      refine ry_br hf (fun hc hf => ?_) (fun hc hf => ?_)
      · iterate 2 (refine ry_step rfl rfl ?_)
        refine ry_br hf (fun hc hf => ?_) (fun hc hf => ?_)
        · refine ry_step rfl rfl ?_
          cases hf
          exact ry_ret rfl rfl
        · iterate 3 (refine ry_step rfl rfl ?_)
          refine ry_iald hf rfl rfl rfl (fun j4 hf => ?_)
          refine ry_call rfl rfl rfl rfl rfl tX12_rank ?_
          iterate 2 (refine ry_step rfl rfl ?_)
          refine ry_br hf (fun hc hf => ?_) (fun hc hf => ?_)
          · refine ry_step rfl rfl ?_
            cases hf
            exact ry_ret rfl rfl
          · iterate 2 (refine ry_step rfl rfl ?_)
            cases hf
            exact ry_ret rfl rfl
      · iterate 2 (refine ry_step rfl rfl ?_)
        refine ry_sub [1, 0] rfl rfl ?_
        exact ih (l1 + (Int32.ofInt (-1))) S hf _
def fX12_isCompared (N : Nat) (S : yS) : Option Int32 := pSt ((S.1 265 16) - (Int32.ofInt 1)) fun w1 => lX12_isCompared N N w1 S
set_option maxRecDepth 4000 in
theorem tX12_isCompared {ro : xRo} {T : yK} {S : yS} {d N : Nat} {q : Int32} (hf : fX12_isCompared N  S = some q) : yEv ro xNo (yKx T) (d + 2) jX12_isCompared [.ref 265] S (some (.int q)) S := by
  refine ry_meth pX12_isCompared rfl (fun z => ?_)
  unfold fX12_isCompared at hf
  iterate 4 (refine ry_step rfl rfl ?_)
  refine ry_nmi hf (fun w1 hf => ?_)
  refine ry_step rfl rfl ?_
  refine ry_sub [1, 0] rfl rfl ?_
  exact uX12_isCompared (ro := ro) _ w1 S hf _
def fX12_isAskAhead (N : Nat) (S : yS) : Option Int32 := (fX12_openNow N  S).bind fun u2 => (if ¬ u2 = (Int32.ofInt 41) then some (Int32.ofInt 0) else (ain 160 ((S.1 265 16) - (Int32.ofInt 1))).bind fun j3 => (if (Int32.ofInt 40) ≤ (S.2.2.1 270 j3) then some (Int32.ofInt 1) else (ain 160 ((S.1 265 16) - (Int32.ofInt 1))).bind fun j4 => (if (fX12_isIn (fX12_rank (S.2.2.1 270 j4)) (Int32.ofInt 1) (Int32.ofInt 3)) = 0 then some (Int32.ofInt 0) else some (Int32.ofInt 1))))
set_option maxRecDepth 4000 in
theorem tX12_isAskAhead {ro : xRo} {T : yK} {S : yS} {d N : Nat} {q : Int32} (hf : fX12_isAskAhead N  S = some q) : yEv ro xNo (yKx T) (d + 3) jX12_isAskAhead [.ref 265] S (some (.int q)) S := by
  refine ry_meth pX12_isAskAhead rfl (fun z => ?_)
  unfold fX12_isAskAhead at hf
  refine ry_step rfl rfl ?_
  obtain ⟨u2, hv1, hf⟩ := Option.bind_eq_some_iff.mp hf
  refine ry_call rfl rfl rfl rfl rfl (tX12_openNow hv1) ?_
  iterate 2 (refine ry_step rfl rfl ?_)
  refine ry_br hf (fun hc hf => ?_) (fun hc hf => ?_)
  · refine ry_step rfl rfl ?_
    cases hf
    exact ry_ret rfl rfl
  · iterate 6 (refine ry_step rfl rfl ?_)
    refine ry_iald hf rfl rfl rfl (fun j3 hf => ?_)
    iterate 2 (refine ry_step rfl rfl ?_)
    refine ry_br hf (fun hc hf => ?_) (fun hc hf => ?_)
    · iterate 2 (refine ry_step rfl rfl ?_)
      cases hf
      exact ry_ret rfl rfl
    · iterate 6 (refine ry_step rfl rfl ?_)
      refine ry_iald hf rfl rfl rfl (fun j4 hf => ?_)
      refine ry_call rfl rfl rfl rfl rfl tX12_rank ?_
      iterate 2 (refine ry_step rfl rfl ?_)
      refine ry_call rfl rfl rfl rfl rfl tX12_isIn ?_
      refine ry_step rfl rfl ?_
      refine ry_br hf (fun hc hf => ?_) (fun hc hf => ?_)
      · refine ry_step rfl rfl ?_
        cases hf
        exact ry_ret rfl rfl
      · iterate 2 (refine ry_step rfl rfl ?_)
        cases hf
        exact ry_ret rfl rfl
def fX12_opened (N : Nat) (v0 : Int32) (S : yS) : Option (Int32 × yS) := (if ¬ (S.1 265 17) = (Int32.ofInt 8) then pSt (ySi S 265 17 ((S.1 265 17) + (Int32.ofInt 1))) fun S1 => (ain 160 (S1.1 265 16)).bind fun j6 => pSt (ySa S1 270 (upd (S1.2.2.1 270) j6 v0)) fun S2 => pSt (ySi S2 265 16 ((S2.1 265 16) + (Int32.ofInt 1))) fun S3 => (fX12_nextToken N  S3).bind fun S5 => some ((Int32.ofInt 0), S5) else some ((Int32.ofInt 3), S))
set_option maxRecDepth 4000 in
theorem tX12_opened {ro : xRo} {T : yK} {S : yS} {d N : Nat} {v0 : Int32} {q : Int32} {S' : yS} (hf : fX12_opened N v0 S = some (q, S')) : yEv ro xNo (yKx T) (d + 3) jX12_opened [.ref 265, .int v0] S (some (.int q)) S' := by
  refine ry_meth pX12_opened rfl (fun z => ?_)
  unfold fX12_opened at hf
  iterate 4 (refine ry_step rfl rfl ?_)
  refine ry_br hf (fun hc hf => ?_) (fun hc hf => ?_)
  · iterate 5 (refine ry_step rfl rfl ?_)
    refine ry_stepS hf rfl rfl (fun S1 hf => ?_)
    iterate 5 (refine ry_step rfl rfl ?_)
    refine ry_iast hf rfl rfl (fun j6 S2 hf => ?_)
    iterate 5 (refine ry_step rfl rfl ?_)
    refine ry_stepS hf rfl rfl (fun S3 hf => ?_)
    refine ry_step rfl rfl ?_
    obtain ⟨S5, hv4, hf⟩ := Option.bind_eq_some_iff.mp hf
    refine ry_call rfl rfl rfl rfl rfl (tX12_nextToken hv4) ?_
    refine ry_step rfl rfl ?_
    cases hf
    exact ry_ret rfl rfl
  · refine ry_step rfl rfl ?_
    cases hf
    exact ry_ret rfl rfl
def fX12_beginOne (N : Nat) (S : yS) : Option (Int32 × yS) := (if ¬ (S.1 265 9) = (Int32.ofInt 1) then (fX12_nameOf  S).bind fun u2 => (if u2 < 0 then (if (S.1 265 9) = (Int32.ofInt 1) then (if ¬ (S.1 265 9) = (Int32.ofInt 1) then (if ¬ (S.1 265 9) = (Int32.ofInt 1) then (fX12_emit (Int32.ofInt 1) u2 S).bind fun S4 => (fX12_nextToken N  S4).bind fun S6 => pSt (ySi S6 265 18 (Int32.ofInt 1)) fun S7 => (fX12_settle N (Int32.ofInt 7) S7).bind fun S9 => some ((Int32.ofInt 0), S9) else (fX12_emit (Int32.ofInt 1) (S.1 265 10) S).bind fun S11 => (fX12_nextToken N  S11).bind fun S13 => pSt (ySi S13 265 18 (Int32.ofInt 1)) fun S14 => (fX12_settle N (Int32.ofInt 7) S14).bind fun S16 => some ((Int32.ofInt 0), S16)) else (if ¬ (S.1 265 9) = (Int32.ofInt 1) then (fX12_emit (Int32.ofInt 0) u2 S).bind fun S18 => (fX12_nextToken N  S18).bind fun S20 => pSt (ySi S20 265 18 (Int32.ofInt 1)) fun S21 => (fX12_settle N (Int32.ofInt 7) S21).bind fun S23 => some ((Int32.ofInt 0), S23) else (fX12_emit (Int32.ofInt 0) (S.1 265 10) S).bind fun S25 => (fX12_nextToken N  S25).bind fun S27 => pSt (ySi S27 265 18 (Int32.ofInt 1)) fun S28 => (fX12_settle N (Int32.ofInt 7) S28).bind fun S30 => some ((Int32.ofInt 0), S30))) else (if u2 < 0 then (if ¬ (S.1 265 9) = (Int32.ofInt 40) then (if ¬ (S.1 265 9) = (Int32.ofInt 45) then (fX12_isWord (fX12_w5 (Int32.ofInt 114) (Int32.ofInt 104) (Int32.ofInt 121) (Int32.ofInt 109) (Int32.ofInt 101)) S).bind fun u32 => (if u32 = 0 then (fX12_isWord (fX12_w4 (Int32.ofInt 99) (Int32.ofInt 97) (Int32.ofInt 109) (Int32.ofInt 101)) S).bind fun u34 => (if u34 = 0 then (fX12_isWord (fX12_w2 (Int32.ofInt 105) (Int32.ofInt 102)) S).bind fun u36 => (if u36 = 0 then (fX12_isWord (fX12_w3 (Int32.ofInt 110) (Int32.ofInt 111) (Int32.ofInt 116)) S).bind fun u38 => (if u38 = 0 then some ((Int32.ofInt 1), S) else (fX12_isAskAhead N  S).bind fun u40 => (if u40 = 0 then some ((Int32.ofInt 1), S) else (fX12_opened N (Int32.ofInt 20) S).bind fun (u43, S42) => some (u43, S42))) else (fX12_opened N (Int32.ofInt 41) S).bind fun (u46, S45) => some (u46, S45)) else (fX12_opened N (Int32.ofInt 4) S).bind fun (u49, S48) => some (u49, S48)) else (fX12_opened N (Int32.ofInt 2) S).bind fun (u52, S51) => some (u52, S51)) else (fX12_opened N (Int32.ofInt 5) S).bind fun (u55, S54) => some (u55, S54)) else (fX12_opened N (Int32.ofInt 40) S).bind fun (u58, S57) => some (u58, S57)) else (if ¬ (S.1 265 9) = (Int32.ofInt 1) then (if ¬ (S.1 265 9) = (Int32.ofInt 1) then (fX12_emit (Int32.ofInt 1) u2 S).bind fun S60 => (fX12_nextToken N  S60).bind fun S62 => pSt (ySi S62 265 18 (Int32.ofInt 1)) fun S63 => (fX12_settle N (Int32.ofInt 7) S63).bind fun S65 => some ((Int32.ofInt 0), S65) else (fX12_emit (Int32.ofInt 1) (S.1 265 10) S).bind fun S67 => (fX12_nextToken N  S67).bind fun S69 => pSt (ySi S69 265 18 (Int32.ofInt 1)) fun S70 => (fX12_settle N (Int32.ofInt 7) S70).bind fun S72 => some ((Int32.ofInt 0), S72)) else (if ¬ (S.1 265 9) = (Int32.ofInt 1) then (fX12_emit (Int32.ofInt 0) u2 S).bind fun S74 => (fX12_nextToken N  S74).bind fun S76 => pSt (ySi S76 265 18 (Int32.ofInt 1)) fun S77 => (fX12_settle N (Int32.ofInt 7) S77).bind fun S79 => some ((Int32.ofInt 0), S79) else (fX12_emit (Int32.ofInt 0) (S.1 265 10) S).bind fun S81 => (fX12_nextToken N  S81).bind fun S83 => pSt (ySi S83 265 18 (Int32.ofInt 1)) fun S84 => (fX12_settle N (Int32.ofInt 7) S84).bind fun S86 => some ((Int32.ofInt 0), S86))))) else (fX12_isOf u2 S).bind fun u88 => (if ¬ u88 = 0 then (if (S.1 265 9) = (Int32.ofInt 1) then (if ¬ (S.1 265 9) = (Int32.ofInt 1) then (if ¬ (S.1 265 9) = (Int32.ofInt 1) then (fX12_emit (Int32.ofInt 1) u2 S).bind fun S90 => (fX12_nextToken N  S90).bind fun S92 => pSt (ySi S92 265 18 (Int32.ofInt 1)) fun S93 => (fX12_settle N (Int32.ofInt 7) S93).bind fun S95 => some ((Int32.ofInt 0), S95) else (fX12_emit (Int32.ofInt 1) (S.1 265 10) S).bind fun S97 => (fX12_nextToken N  S97).bind fun S99 => pSt (ySi S99 265 18 (Int32.ofInt 1)) fun S100 => (fX12_settle N (Int32.ofInt 7) S100).bind fun S102 => some ((Int32.ofInt 0), S102)) else (if ¬ (S.1 265 9) = (Int32.ofInt 1) then (fX12_emit (Int32.ofInt 0) u2 S).bind fun S104 => (fX12_nextToken N  S104).bind fun S106 => pSt (ySi S106 265 18 (Int32.ofInt 1)) fun S107 => (fX12_settle N (Int32.ofInt 7) S107).bind fun S109 => some ((Int32.ofInt 0), S109) else (fX12_emit (Int32.ofInt 0) (S.1 265 10) S).bind fun S111 => (fX12_nextToken N  S111).bind fun S113 => pSt (ySi S113 265 18 (Int32.ofInt 1)) fun S114 => (fX12_settle N (Int32.ofInt 7) S114).bind fun S116 => some ((Int32.ofInt 0), S116))) else (if u2 < 0 then (if ¬ (S.1 265 9) = (Int32.ofInt 40) then (if ¬ (S.1 265 9) = (Int32.ofInt 45) then (fX12_isWord (fX12_w5 (Int32.ofInt 114) (Int32.ofInt 104) (Int32.ofInt 121) (Int32.ofInt 109) (Int32.ofInt 101)) S).bind fun u118 => (if u118 = 0 then (fX12_isWord (fX12_w4 (Int32.ofInt 99) (Int32.ofInt 97) (Int32.ofInt 109) (Int32.ofInt 101)) S).bind fun u120 => (if u120 = 0 then (fX12_isWord (fX12_w2 (Int32.ofInt 105) (Int32.ofInt 102)) S).bind fun u122 => (if u122 = 0 then (fX12_isWord (fX12_w3 (Int32.ofInt 110) (Int32.ofInt 111) (Int32.ofInt 116)) S).bind fun u124 => (if u124 = 0 then some ((Int32.ofInt 1), S) else (fX12_isAskAhead N  S).bind fun u126 => (if u126 = 0 then some ((Int32.ofInt 1), S) else (fX12_opened N (Int32.ofInt 20) S).bind fun (u129, S128) => some (u129, S128))) else (fX12_opened N (Int32.ofInt 41) S).bind fun (u132, S131) => some (u132, S131)) else (fX12_opened N (Int32.ofInt 4) S).bind fun (u135, S134) => some (u135, S134)) else (fX12_opened N (Int32.ofInt 2) S).bind fun (u138, S137) => some (u138, S137)) else (fX12_opened N (Int32.ofInt 5) S).bind fun (u141, S140) => some (u141, S140)) else (fX12_opened N (Int32.ofInt 40) S).bind fun (u144, S143) => some (u144, S143)) else (if ¬ (S.1 265 9) = (Int32.ofInt 1) then (if ¬ (S.1 265 9) = (Int32.ofInt 1) then (fX12_emit (Int32.ofInt 1) u2 S).bind fun S146 => (fX12_nextToken N  S146).bind fun S148 => pSt (ySi S148 265 18 (Int32.ofInt 1)) fun S149 => (fX12_settle N (Int32.ofInt 7) S149).bind fun S151 => some ((Int32.ofInt 0), S151) else (fX12_emit (Int32.ofInt 1) (S.1 265 10) S).bind fun S153 => (fX12_nextToken N  S153).bind fun S155 => pSt (ySi S155 265 18 (Int32.ofInt 1)) fun S156 => (fX12_settle N (Int32.ofInt 7) S156).bind fun S158 => some ((Int32.ofInt 0), S158)) else (if ¬ (S.1 265 9) = (Int32.ofInt 1) then (fX12_emit (Int32.ofInt 0) u2 S).bind fun S160 => (fX12_nextToken N  S160).bind fun S162 => pSt (ySi S162 265 18 (Int32.ofInt 1)) fun S163 => (fX12_settle N (Int32.ofInt 7) S163).bind fun S165 => some ((Int32.ofInt 0), S165) else (fX12_emit (Int32.ofInt 0) (S.1 265 10) S).bind fun S167 => (fX12_nextToken N  S167).bind fun S169 => pSt (ySi S169 265 18 (Int32.ofInt 1)) fun S170 => (fX12_settle N (Int32.ofInt 7) S170).bind fun S172 => some ((Int32.ofInt 0), S172))))) else some ((Int32.ofInt 5), S))) else (if (S.1 265 10) ≤ (Int32.ofInt 9999) then (fX12_nameOf  S).bind fun u174 => (if u174 < 0 then (if (S.1 265 9) = (Int32.ofInt 1) then (if ¬ (S.1 265 9) = (Int32.ofInt 1) then (if ¬ (S.1 265 9) = (Int32.ofInt 1) then (fX12_emit (Int32.ofInt 1) u174 S).bind fun S176 => (fX12_nextToken N  S176).bind fun S178 => pSt (ySi S178 265 18 (Int32.ofInt 1)) fun S179 => (fX12_settle N (Int32.ofInt 7) S179).bind fun S181 => some ((Int32.ofInt 0), S181) else (fX12_emit (Int32.ofInt 1) (S.1 265 10) S).bind fun S183 => (fX12_nextToken N  S183).bind fun S185 => pSt (ySi S185 265 18 (Int32.ofInt 1)) fun S186 => (fX12_settle N (Int32.ofInt 7) S186).bind fun S188 => some ((Int32.ofInt 0), S188)) else (if ¬ (S.1 265 9) = (Int32.ofInt 1) then (fX12_emit (Int32.ofInt 0) u174 S).bind fun S190 => (fX12_nextToken N  S190).bind fun S192 => pSt (ySi S192 265 18 (Int32.ofInt 1)) fun S193 => (fX12_settle N (Int32.ofInt 7) S193).bind fun S195 => some ((Int32.ofInt 0), S195) else (fX12_emit (Int32.ofInt 0) (S.1 265 10) S).bind fun S197 => (fX12_nextToken N  S197).bind fun S199 => pSt (ySi S199 265 18 (Int32.ofInt 1)) fun S200 => (fX12_settle N (Int32.ofInt 7) S200).bind fun S202 => some ((Int32.ofInt 0), S202))) else (if u174 < 0 then (if ¬ (S.1 265 9) = (Int32.ofInt 40) then (if ¬ (S.1 265 9) = (Int32.ofInt 45) then (fX12_isWord (fX12_w5 (Int32.ofInt 114) (Int32.ofInt 104) (Int32.ofInt 121) (Int32.ofInt 109) (Int32.ofInt 101)) S).bind fun u204 => (if u204 = 0 then (fX12_isWord (fX12_w4 (Int32.ofInt 99) (Int32.ofInt 97) (Int32.ofInt 109) (Int32.ofInt 101)) S).bind fun u206 => (if u206 = 0 then (fX12_isWord (fX12_w2 (Int32.ofInt 105) (Int32.ofInt 102)) S).bind fun u208 => (if u208 = 0 then (fX12_isWord (fX12_w3 (Int32.ofInt 110) (Int32.ofInt 111) (Int32.ofInt 116)) S).bind fun u210 => (if u210 = 0 then some ((Int32.ofInt 1), S) else (fX12_isAskAhead N  S).bind fun u212 => (if u212 = 0 then some ((Int32.ofInt 1), S) else (fX12_opened N (Int32.ofInt 20) S).bind fun (u215, S214) => some (u215, S214))) else (fX12_opened N (Int32.ofInt 41) S).bind fun (u218, S217) => some (u218, S217)) else (fX12_opened N (Int32.ofInt 4) S).bind fun (u221, S220) => some (u221, S220)) else (fX12_opened N (Int32.ofInt 2) S).bind fun (u224, S223) => some (u224, S223)) else (fX12_opened N (Int32.ofInt 5) S).bind fun (u227, S226) => some (u227, S226)) else (fX12_opened N (Int32.ofInt 40) S).bind fun (u230, S229) => some (u230, S229)) else (if ¬ (S.1 265 9) = (Int32.ofInt 1) then (if ¬ (S.1 265 9) = (Int32.ofInt 1) then (fX12_emit (Int32.ofInt 1) u174 S).bind fun S232 => (fX12_nextToken N  S232).bind fun S234 => pSt (ySi S234 265 18 (Int32.ofInt 1)) fun S235 => (fX12_settle N (Int32.ofInt 7) S235).bind fun S237 => some ((Int32.ofInt 0), S237) else (fX12_emit (Int32.ofInt 1) (S.1 265 10) S).bind fun S239 => (fX12_nextToken N  S239).bind fun S241 => pSt (ySi S241 265 18 (Int32.ofInt 1)) fun S242 => (fX12_settle N (Int32.ofInt 7) S242).bind fun S244 => some ((Int32.ofInt 0), S244)) else (if ¬ (S.1 265 9) = (Int32.ofInt 1) then (fX12_emit (Int32.ofInt 0) u174 S).bind fun S246 => (fX12_nextToken N  S246).bind fun S248 => pSt (ySi S248 265 18 (Int32.ofInt 1)) fun S249 => (fX12_settle N (Int32.ofInt 7) S249).bind fun S251 => some ((Int32.ofInt 0), S251) else (fX12_emit (Int32.ofInt 0) (S.1 265 10) S).bind fun S253 => (fX12_nextToken N  S253).bind fun S255 => pSt (ySi S255 265 18 (Int32.ofInt 1)) fun S256 => (fX12_settle N (Int32.ofInt 7) S256).bind fun S258 => some ((Int32.ofInt 0), S258))))) else (fX12_isOf u174 S).bind fun u260 => (if ¬ u260 = 0 then (if (S.1 265 9) = (Int32.ofInt 1) then (if ¬ (S.1 265 9) = (Int32.ofInt 1) then (if ¬ (S.1 265 9) = (Int32.ofInt 1) then (fX12_emit (Int32.ofInt 1) u174 S).bind fun S262 => (fX12_nextToken N  S262).bind fun S264 => pSt (ySi S264 265 18 (Int32.ofInt 1)) fun S265 => (fX12_settle N (Int32.ofInt 7) S265).bind fun S267 => some ((Int32.ofInt 0), S267) else (fX12_emit (Int32.ofInt 1) (S.1 265 10) S).bind fun S269 => (fX12_nextToken N  S269).bind fun S271 => pSt (ySi S271 265 18 (Int32.ofInt 1)) fun S272 => (fX12_settle N (Int32.ofInt 7) S272).bind fun S274 => some ((Int32.ofInt 0), S274)) else (if ¬ (S.1 265 9) = (Int32.ofInt 1) then (fX12_emit (Int32.ofInt 0) u174 S).bind fun S276 => (fX12_nextToken N  S276).bind fun S278 => pSt (ySi S278 265 18 (Int32.ofInt 1)) fun S279 => (fX12_settle N (Int32.ofInt 7) S279).bind fun S281 => some ((Int32.ofInt 0), S281) else (fX12_emit (Int32.ofInt 0) (S.1 265 10) S).bind fun S283 => (fX12_nextToken N  S283).bind fun S285 => pSt (ySi S285 265 18 (Int32.ofInt 1)) fun S286 => (fX12_settle N (Int32.ofInt 7) S286).bind fun S288 => some ((Int32.ofInt 0), S288))) else (if u174 < 0 then (if ¬ (S.1 265 9) = (Int32.ofInt 40) then (if ¬ (S.1 265 9) = (Int32.ofInt 45) then (fX12_isWord (fX12_w5 (Int32.ofInt 114) (Int32.ofInt 104) (Int32.ofInt 121) (Int32.ofInt 109) (Int32.ofInt 101)) S).bind fun u290 => (if u290 = 0 then (fX12_isWord (fX12_w4 (Int32.ofInt 99) (Int32.ofInt 97) (Int32.ofInt 109) (Int32.ofInt 101)) S).bind fun u292 => (if u292 = 0 then (fX12_isWord (fX12_w2 (Int32.ofInt 105) (Int32.ofInt 102)) S).bind fun u294 => (if u294 = 0 then (fX12_isWord (fX12_w3 (Int32.ofInt 110) (Int32.ofInt 111) (Int32.ofInt 116)) S).bind fun u296 => (if u296 = 0 then some ((Int32.ofInt 1), S) else (fX12_isAskAhead N  S).bind fun u298 => (if u298 = 0 then some ((Int32.ofInt 1), S) else (fX12_opened N (Int32.ofInt 20) S).bind fun (u301, S300) => some (u301, S300))) else (fX12_opened N (Int32.ofInt 41) S).bind fun (u304, S303) => some (u304, S303)) else (fX12_opened N (Int32.ofInt 4) S).bind fun (u307, S306) => some (u307, S306)) else (fX12_opened N (Int32.ofInt 2) S).bind fun (u310, S309) => some (u310, S309)) else (fX12_opened N (Int32.ofInt 5) S).bind fun (u313, S312) => some (u313, S312)) else (fX12_opened N (Int32.ofInt 40) S).bind fun (u316, S315) => some (u316, S315)) else (if ¬ (S.1 265 9) = (Int32.ofInt 1) then (if ¬ (S.1 265 9) = (Int32.ofInt 1) then (fX12_emit (Int32.ofInt 1) u174 S).bind fun S318 => (fX12_nextToken N  S318).bind fun S320 => pSt (ySi S320 265 18 (Int32.ofInt 1)) fun S321 => (fX12_settle N (Int32.ofInt 7) S321).bind fun S323 => some ((Int32.ofInt 0), S323) else (fX12_emit (Int32.ofInt 1) (S.1 265 10) S).bind fun S325 => (fX12_nextToken N  S325).bind fun S327 => pSt (ySi S327 265 18 (Int32.ofInt 1)) fun S328 => (fX12_settle N (Int32.ofInt 7) S328).bind fun S330 => some ((Int32.ofInt 0), S330)) else (if ¬ (S.1 265 9) = (Int32.ofInt 1) then (fX12_emit (Int32.ofInt 0) u174 S).bind fun S332 => (fX12_nextToken N  S332).bind fun S334 => pSt (ySi S334 265 18 (Int32.ofInt 1)) fun S335 => (fX12_settle N (Int32.ofInt 7) S335).bind fun S337 => some ((Int32.ofInt 0), S337) else (fX12_emit (Int32.ofInt 0) (S.1 265 10) S).bind fun S339 => (fX12_nextToken N  S339).bind fun S341 => pSt (ySi S341 265 18 (Int32.ofInt 1)) fun S342 => (fX12_settle N (Int32.ofInt 7) S342).bind fun S344 => some ((Int32.ofInt 0), S344))))) else some ((Int32.ofInt 5), S))) else some ((Int32.ofInt 2), S)))
set_option maxRecDepth 4000 in
theorem tX12_beginOne {ro : xRo} {T : yK} {S : yS} {d N : Nat} {q : Int32} {S' : yS} (hf : fX12_beginOne N  S = some (q, S')) : yEv ro xNo (yKx T) (d + 7) jX12_beginOne [.ref 265] S (some (.int q)) S' := by
  refine ry_meth pX12_beginOne rfl (fun z => ?_)
  unfold fX12_beginOne at hf
  iterate 4 (refine ry_step rfl rfl ?_)
  refine ry_br hf (fun hc hf => ?_) (fun hc hf => ?_)
  · refine ry_step rfl rfl ?_
    obtain ⟨u2, hv1, hf⟩ := Option.bind_eq_some_iff.mp hf
    refine ry_call rfl rfl rfl rfl rfl (tX12_nameOf hv1) ?_
    iterate 3 (refine ry_step rfl rfl ?_)
    refine ry_br hf (fun hc hf => ?_) (fun hc hf => ?_)
    · iterate 4 (refine ry_step rfl rfl ?_)
      refine ry_br hf (fun hc hf => ?_) (fun hc hf => ?_)
      · iterate 5 (refine ry_step rfl rfl ?_)
        refine ry_br hf (fun hc hf => ?_) (fun hc hf => ?_)
        · iterate 5 (refine ry_step rfl rfl ?_)
          refine ry_br hf (fun hc hf => ?_) (fun hc hf => ?_)
          · refine ry_step rfl rfl ?_
            obtain ⟨S4, hv3, hf⟩ := Option.bind_eq_some_iff.mp hf
            refine ry_call rfl rfl rfl rfl rfl (tX12_emit hv3) ?_
            refine ry_step rfl rfl ?_
            obtain ⟨S6, hv5, hf⟩ := Option.bind_eq_some_iff.mp hf
            refine ry_call rfl rfl rfl rfl rfl (tX12_nextToken hv5) ?_
            iterate 2 (refine ry_step rfl rfl ?_)
            refine ry_stepS hf rfl rfl (fun S7 hf => ?_)
            iterate 2 (refine ry_step rfl rfl ?_)
            obtain ⟨S9, hv8, hf⟩ := Option.bind_eq_some_iff.mp hf
            refine ry_call rfl rfl rfl rfl rfl (tX12_settle hv8) ?_
            refine ry_step rfl rfl ?_
            cases hf
            exact ry_ret rfl rfl
          · iterate 3 (refine ry_step rfl rfl ?_)
            obtain ⟨S11, hv10, hf⟩ := Option.bind_eq_some_iff.mp hf
            refine ry_call rfl rfl rfl rfl rfl (tX12_emit hv10) ?_
            refine ry_step rfl rfl ?_
            obtain ⟨S13, hv12, hf⟩ := Option.bind_eq_some_iff.mp hf
            refine ry_call rfl rfl rfl rfl rfl (tX12_nextToken hv12) ?_
            iterate 2 (refine ry_step rfl rfl ?_)
            refine ry_stepS hf rfl rfl (fun S14 hf => ?_)
            iterate 2 (refine ry_step rfl rfl ?_)
            obtain ⟨S16, hv15, hf⟩ := Option.bind_eq_some_iff.mp hf
            refine ry_call rfl rfl rfl rfl rfl (tX12_settle hv15) ?_
            refine ry_step rfl rfl ?_
            cases hf
            exact ry_ret rfl rfl
        · iterate 6 (refine ry_step rfl rfl ?_)
          refine ry_br hf (fun hc hf => ?_) (fun hc hf => ?_)
          · refine ry_step rfl rfl ?_
            obtain ⟨S18, hv17, hf⟩ := Option.bind_eq_some_iff.mp hf
            refine ry_call rfl rfl rfl rfl rfl (tX12_emit hv17) ?_
            refine ry_step rfl rfl ?_
            obtain ⟨S20, hv19, hf⟩ := Option.bind_eq_some_iff.mp hf
            refine ry_call rfl rfl rfl rfl rfl (tX12_nextToken hv19) ?_
            iterate 2 (refine ry_step rfl rfl ?_)
            refine ry_stepS hf rfl rfl (fun S21 hf => ?_)
            iterate 2 (refine ry_step rfl rfl ?_)
            obtain ⟨S23, hv22, hf⟩ := Option.bind_eq_some_iff.mp hf
            refine ry_call rfl rfl rfl rfl rfl (tX12_settle hv22) ?_
            refine ry_step rfl rfl ?_
            cases hf
            exact ry_ret rfl rfl
          · iterate 3 (refine ry_step rfl rfl ?_)
            obtain ⟨S25, hv24, hf⟩ := Option.bind_eq_some_iff.mp hf
            refine ry_call rfl rfl rfl rfl rfl (tX12_emit hv24) ?_
            refine ry_step rfl rfl ?_
            obtain ⟨S27, hv26, hf⟩ := Option.bind_eq_some_iff.mp hf
            refine ry_call rfl rfl rfl rfl rfl (tX12_nextToken hv26) ?_
            iterate 2 (refine ry_step rfl rfl ?_)
            refine ry_stepS hf rfl rfl (fun S28 hf => ?_)
            iterate 2 (refine ry_step rfl rfl ?_)
            obtain ⟨S30, hv29, hf⟩ := Option.bind_eq_some_iff.mp hf
            refine ry_call rfl rfl rfl rfl rfl (tX12_settle hv29) ?_
            refine ry_step rfl rfl ?_
            cases hf
            exact ry_ret rfl rfl
      · iterate 2 (refine ry_step rfl rfl ?_)
        refine ry_br hf (fun hc hf => ?_) (fun hc hf => ?_)
        · iterate 4 (refine ry_step rfl rfl ?_)
          refine ry_br hf (fun hc hf => ?_) (fun hc hf => ?_)
          · iterate 4 (refine ry_step rfl rfl ?_)
            refine ry_br hf (fun hc hf => ?_) (fun hc hf => ?_)
            · iterate 6 (refine ry_step rfl rfl ?_)
              refine ry_call rfl rfl rfl rfl rfl tX12_w5 ?_
              obtain ⟨u32, hv31, hf⟩ := Option.bind_eq_some_iff.mp hf
              refine ry_call rfl rfl rfl rfl rfl (tX12_isWord hv31) ?_
              refine ry_step rfl rfl ?_
              refine ry_br hf (fun hc hf => ?_) (fun hc hf => ?_)
              · iterate 5 (refine ry_step rfl rfl ?_)
                refine ry_call rfl rfl rfl rfl rfl tX12_w4 ?_
                obtain ⟨u34, hv33, hf⟩ := Option.bind_eq_some_iff.mp hf
                refine ry_call rfl rfl rfl rfl rfl (tX12_isWord hv33) ?_
                refine ry_step rfl rfl ?_
                refine ry_br hf (fun hc hf => ?_) (fun hc hf => ?_)
                · iterate 3 (refine ry_step rfl rfl ?_)
                  refine ry_call rfl rfl rfl rfl rfl tX12_w2 ?_
                  obtain ⟨u36, hv35, hf⟩ := Option.bind_eq_some_iff.mp hf
                  refine ry_call rfl rfl rfl rfl rfl (tX12_isWord hv35) ?_
                  refine ry_step rfl rfl ?_
                  refine ry_br hf (fun hc hf => ?_) (fun hc hf => ?_)
                  · iterate 4 (refine ry_step rfl rfl ?_)
                    refine ry_call rfl rfl rfl rfl rfl tX12_w3 ?_
                    obtain ⟨u38, hv37, hf⟩ := Option.bind_eq_some_iff.mp hf
                    refine ry_call rfl rfl rfl rfl rfl (tX12_isWord hv37) ?_
                    refine ry_step rfl rfl ?_
                    refine ry_br hf (fun hc hf => ?_) (fun hc hf => ?_)
                    · refine ry_step rfl rfl ?_
                      cases hf
                      exact ry_ret rfl rfl
                    · refine ry_step rfl rfl ?_
                      obtain ⟨u40, hv39, hf⟩ := Option.bind_eq_some_iff.mp hf
                      refine ry_call rfl rfl rfl rfl rfl (tX12_isAskAhead hv39) ?_
                      refine ry_step rfl rfl ?_
                      refine ry_br hf (fun hc hf => ?_) (fun hc hf => ?_)
                      · refine ry_step rfl rfl ?_
                        cases hf
                        exact ry_ret rfl rfl
                      · iterate 2 (refine ry_step rfl rfl ?_)
                        obtain ⟨⟨u43, S42⟩, hv41, hf⟩ := Option.bind_eq_some_iff.mp hf
                        dsimp only at hf
                        refine ry_call rfl rfl rfl rfl rfl (tX12_opened hv41) ?_
                        refine ry_step rfl rfl ?_
                        cases hf
                        exact ry_ret rfl rfl
                  · iterate 2 (refine ry_step rfl rfl ?_)
                    obtain ⟨⟨u46, S45⟩, hv44, hf⟩ := Option.bind_eq_some_iff.mp hf
                    dsimp only at hf
                    refine ry_call rfl rfl rfl rfl rfl (tX12_opened hv44) ?_
                    cases hf
                    exact ry_ret rfl rfl
                · iterate 2 (refine ry_step rfl rfl ?_)
                  obtain ⟨⟨u49, S48⟩, hv47, hf⟩ := Option.bind_eq_some_iff.mp hf
                  dsimp only at hf
                  refine ry_call rfl rfl rfl rfl rfl (tX12_opened hv47) ?_
                  cases hf
                  exact ry_ret rfl rfl
              · iterate 2 (refine ry_step rfl rfl ?_)
                obtain ⟨⟨u52, S51⟩, hv50, hf⟩ := Option.bind_eq_some_iff.mp hf
                dsimp only at hf
                refine ry_call rfl rfl rfl rfl rfl (tX12_opened hv50) ?_
                cases hf
                exact ry_ret rfl rfl
            · iterate 2 (refine ry_step rfl rfl ?_)
              obtain ⟨⟨u55, S54⟩, hv53, hf⟩ := Option.bind_eq_some_iff.mp hf
              dsimp only at hf
              refine ry_call rfl rfl rfl rfl rfl (tX12_opened hv53) ?_
              cases hf
              exact ry_ret rfl rfl
          · iterate 2 (refine ry_step rfl rfl ?_)
            obtain ⟨⟨u58, S57⟩, hv56, hf⟩ := Option.bind_eq_some_iff.mp hf
            dsimp only at hf
            refine ry_call rfl rfl rfl rfl rfl (tX12_opened hv56) ?_
            cases hf
            exact ry_ret rfl rfl
        · iterate 5 (refine ry_step rfl rfl ?_)
          refine ry_br hf (fun hc hf => ?_) (fun hc hf => ?_)
          · iterate 5 (refine ry_step rfl rfl ?_)
            refine ry_br hf (fun hc hf => ?_) (fun hc hf => ?_)
            · refine ry_step rfl rfl ?_
              obtain ⟨S60, hv59, hf⟩ := Option.bind_eq_some_iff.mp hf
              refine ry_call rfl rfl rfl rfl rfl (tX12_emit hv59) ?_
              refine ry_step rfl rfl ?_
              obtain ⟨S62, hv61, hf⟩ := Option.bind_eq_some_iff.mp hf
              refine ry_call rfl rfl rfl rfl rfl (tX12_nextToken hv61) ?_
              iterate 2 (refine ry_step rfl rfl ?_)
              refine ry_stepS hf rfl rfl (fun S63 hf => ?_)
              iterate 2 (refine ry_step rfl rfl ?_)
              obtain ⟨S65, hv64, hf⟩ := Option.bind_eq_some_iff.mp hf
              refine ry_call rfl rfl rfl rfl rfl (tX12_settle hv64) ?_
              refine ry_step rfl rfl ?_
              cases hf
              exact ry_ret rfl rfl
            · iterate 3 (refine ry_step rfl rfl ?_)
              obtain ⟨S67, hv66, hf⟩ := Option.bind_eq_some_iff.mp hf
              refine ry_call rfl rfl rfl rfl rfl (tX12_emit hv66) ?_
              refine ry_step rfl rfl ?_
              obtain ⟨S69, hv68, hf⟩ := Option.bind_eq_some_iff.mp hf
              refine ry_call rfl rfl rfl rfl rfl (tX12_nextToken hv68) ?_
              iterate 2 (refine ry_step rfl rfl ?_)
              refine ry_stepS hf rfl rfl (fun S70 hf => ?_)
              iterate 2 (refine ry_step rfl rfl ?_)
              obtain ⟨S72, hv71, hf⟩ := Option.bind_eq_some_iff.mp hf
              refine ry_call rfl rfl rfl rfl rfl (tX12_settle hv71) ?_
              refine ry_step rfl rfl ?_
              cases hf
              exact ry_ret rfl rfl
          · iterate 6 (refine ry_step rfl rfl ?_)
            refine ry_br hf (fun hc hf => ?_) (fun hc hf => ?_)
            · refine ry_step rfl rfl ?_
              obtain ⟨S74, hv73, hf⟩ := Option.bind_eq_some_iff.mp hf
              refine ry_call rfl rfl rfl rfl rfl (tX12_emit hv73) ?_
              refine ry_step rfl rfl ?_
              obtain ⟨S76, hv75, hf⟩ := Option.bind_eq_some_iff.mp hf
              refine ry_call rfl rfl rfl rfl rfl (tX12_nextToken hv75) ?_
              iterate 2 (refine ry_step rfl rfl ?_)
              refine ry_stepS hf rfl rfl (fun S77 hf => ?_)
              iterate 2 (refine ry_step rfl rfl ?_)
              obtain ⟨S79, hv78, hf⟩ := Option.bind_eq_some_iff.mp hf
              refine ry_call rfl rfl rfl rfl rfl (tX12_settle hv78) ?_
              refine ry_step rfl rfl ?_
              cases hf
              exact ry_ret rfl rfl
            · iterate 3 (refine ry_step rfl rfl ?_)
              obtain ⟨S81, hv80, hf⟩ := Option.bind_eq_some_iff.mp hf
              refine ry_call rfl rfl rfl rfl rfl (tX12_emit hv80) ?_
              refine ry_step rfl rfl ?_
              obtain ⟨S83, hv82, hf⟩ := Option.bind_eq_some_iff.mp hf
              refine ry_call rfl rfl rfl rfl rfl (tX12_nextToken hv82) ?_
              iterate 2 (refine ry_step rfl rfl ?_)
              refine ry_stepS hf rfl rfl (fun S84 hf => ?_)
              iterate 2 (refine ry_step rfl rfl ?_)
              obtain ⟨S86, hv85, hf⟩ := Option.bind_eq_some_iff.mp hf
              refine ry_call rfl rfl rfl rfl rfl (tX12_settle hv85) ?_
              refine ry_step rfl rfl ?_
              cases hf
              exact ry_ret rfl rfl
    · iterate 2 (refine ry_step rfl rfl ?_)
      obtain ⟨u88, hv87, hf⟩ := Option.bind_eq_some_iff.mp hf
      refine ry_call rfl rfl rfl rfl rfl (tX12_isOf hv87) ?_
      refine ry_step rfl rfl ?_
      refine ry_br hf (fun hc hf => ?_) (fun hc hf => ?_)
      · iterate 4 (refine ry_step rfl rfl ?_)
        refine ry_br hf (fun hc hf => ?_) (fun hc hf => ?_)
        · iterate 5 (refine ry_step rfl rfl ?_)
          refine ry_br hf (fun hc hf => ?_) (fun hc hf => ?_)
          · iterate 5 (refine ry_step rfl rfl ?_)
            refine ry_br hf (fun hc hf => ?_) (fun hc hf => ?_)
            · refine ry_step rfl rfl ?_
              obtain ⟨S90, hv89, hf⟩ := Option.bind_eq_some_iff.mp hf
              refine ry_call rfl rfl rfl rfl rfl (tX12_emit hv89) ?_
              refine ry_step rfl rfl ?_
              obtain ⟨S92, hv91, hf⟩ := Option.bind_eq_some_iff.mp hf
              refine ry_call rfl rfl rfl rfl rfl (tX12_nextToken hv91) ?_
              iterate 2 (refine ry_step rfl rfl ?_)
              refine ry_stepS hf rfl rfl (fun S93 hf => ?_)
              iterate 2 (refine ry_step rfl rfl ?_)
              obtain ⟨S95, hv94, hf⟩ := Option.bind_eq_some_iff.mp hf
              refine ry_call rfl rfl rfl rfl rfl (tX12_settle hv94) ?_
              refine ry_step rfl rfl ?_
              cases hf
              exact ry_ret rfl rfl
            · iterate 3 (refine ry_step rfl rfl ?_)
              obtain ⟨S97, hv96, hf⟩ := Option.bind_eq_some_iff.mp hf
              refine ry_call rfl rfl rfl rfl rfl (tX12_emit hv96) ?_
              refine ry_step rfl rfl ?_
              obtain ⟨S99, hv98, hf⟩ := Option.bind_eq_some_iff.mp hf
              refine ry_call rfl rfl rfl rfl rfl (tX12_nextToken hv98) ?_
              iterate 2 (refine ry_step rfl rfl ?_)
              refine ry_stepS hf rfl rfl (fun S100 hf => ?_)
              iterate 2 (refine ry_step rfl rfl ?_)
              obtain ⟨S102, hv101, hf⟩ := Option.bind_eq_some_iff.mp hf
              refine ry_call rfl rfl rfl rfl rfl (tX12_settle hv101) ?_
              refine ry_step rfl rfl ?_
              cases hf
              exact ry_ret rfl rfl
          · iterate 6 (refine ry_step rfl rfl ?_)
            refine ry_br hf (fun hc hf => ?_) (fun hc hf => ?_)
            · refine ry_step rfl rfl ?_
              obtain ⟨S104, hv103, hf⟩ := Option.bind_eq_some_iff.mp hf
              refine ry_call rfl rfl rfl rfl rfl (tX12_emit hv103) ?_
              refine ry_step rfl rfl ?_
              obtain ⟨S106, hv105, hf⟩ := Option.bind_eq_some_iff.mp hf
              refine ry_call rfl rfl rfl rfl rfl (tX12_nextToken hv105) ?_
              iterate 2 (refine ry_step rfl rfl ?_)
              refine ry_stepS hf rfl rfl (fun S107 hf => ?_)
              iterate 2 (refine ry_step rfl rfl ?_)
              obtain ⟨S109, hv108, hf⟩ := Option.bind_eq_some_iff.mp hf
              refine ry_call rfl rfl rfl rfl rfl (tX12_settle hv108) ?_
              refine ry_step rfl rfl ?_
              cases hf
              exact ry_ret rfl rfl
            · iterate 3 (refine ry_step rfl rfl ?_)
              obtain ⟨S111, hv110, hf⟩ := Option.bind_eq_some_iff.mp hf
              refine ry_call rfl rfl rfl rfl rfl (tX12_emit hv110) ?_
              refine ry_step rfl rfl ?_
              obtain ⟨S113, hv112, hf⟩ := Option.bind_eq_some_iff.mp hf
              refine ry_call rfl rfl rfl rfl rfl (tX12_nextToken hv112) ?_
              iterate 2 (refine ry_step rfl rfl ?_)
              refine ry_stepS hf rfl rfl (fun S114 hf => ?_)
              iterate 2 (refine ry_step rfl rfl ?_)
              obtain ⟨S116, hv115, hf⟩ := Option.bind_eq_some_iff.mp hf
              refine ry_call rfl rfl rfl rfl rfl (tX12_settle hv115) ?_
              refine ry_step rfl rfl ?_
              cases hf
              exact ry_ret rfl rfl
        · iterate 2 (refine ry_step rfl rfl ?_)
          refine ry_br hf (fun hc hf => ?_) (fun hc hf => ?_)
          · iterate 4 (refine ry_step rfl rfl ?_)
            refine ry_br hf (fun hc hf => ?_) (fun hc hf => ?_)
            · iterate 4 (refine ry_step rfl rfl ?_)
              refine ry_br hf (fun hc hf => ?_) (fun hc hf => ?_)
              · iterate 6 (refine ry_step rfl rfl ?_)
                refine ry_call rfl rfl rfl rfl rfl tX12_w5 ?_
                obtain ⟨u118, hv117, hf⟩ := Option.bind_eq_some_iff.mp hf
                refine ry_call rfl rfl rfl rfl rfl (tX12_isWord hv117) ?_
                refine ry_step rfl rfl ?_
                refine ry_br hf (fun hc hf => ?_) (fun hc hf => ?_)
                · iterate 5 (refine ry_step rfl rfl ?_)
                  refine ry_call rfl rfl rfl rfl rfl tX12_w4 ?_
                  obtain ⟨u120, hv119, hf⟩ := Option.bind_eq_some_iff.mp hf
                  refine ry_call rfl rfl rfl rfl rfl (tX12_isWord hv119) ?_
                  refine ry_step rfl rfl ?_
                  refine ry_br hf (fun hc hf => ?_) (fun hc hf => ?_)
                  · iterate 3 (refine ry_step rfl rfl ?_)
                    refine ry_call rfl rfl rfl rfl rfl tX12_w2 ?_
                    obtain ⟨u122, hv121, hf⟩ := Option.bind_eq_some_iff.mp hf
                    refine ry_call rfl rfl rfl rfl rfl (tX12_isWord hv121) ?_
                    refine ry_step rfl rfl ?_
                    refine ry_br hf (fun hc hf => ?_) (fun hc hf => ?_)
                    · iterate 4 (refine ry_step rfl rfl ?_)
                      refine ry_call rfl rfl rfl rfl rfl tX12_w3 ?_
                      obtain ⟨u124, hv123, hf⟩ := Option.bind_eq_some_iff.mp hf
                      refine ry_call rfl rfl rfl rfl rfl (tX12_isWord hv123) ?_
                      refine ry_step rfl rfl ?_
                      refine ry_br hf (fun hc hf => ?_) (fun hc hf => ?_)
                      · refine ry_step rfl rfl ?_
                        cases hf
                        exact ry_ret rfl rfl
                      · refine ry_step rfl rfl ?_
                        obtain ⟨u126, hv125, hf⟩ := Option.bind_eq_some_iff.mp hf
                        refine ry_call rfl rfl rfl rfl rfl (tX12_isAskAhead hv125) ?_
                        refine ry_step rfl rfl ?_
                        refine ry_br hf (fun hc hf => ?_) (fun hc hf => ?_)
                        · refine ry_step rfl rfl ?_
                          cases hf
                          exact ry_ret rfl rfl
                        · iterate 2 (refine ry_step rfl rfl ?_)
                          obtain ⟨⟨u129, S128⟩, hv127, hf⟩ := Option.bind_eq_some_iff.mp hf
                          dsimp only at hf
                          refine ry_call rfl rfl rfl rfl rfl (tX12_opened hv127) ?_
                          refine ry_step rfl rfl ?_
                          cases hf
                          exact ry_ret rfl rfl
                    · iterate 2 (refine ry_step rfl rfl ?_)
                      obtain ⟨⟨u132, S131⟩, hv130, hf⟩ := Option.bind_eq_some_iff.mp hf
                      dsimp only at hf
                      refine ry_call rfl rfl rfl rfl rfl (tX12_opened hv130) ?_
                      cases hf
                      exact ry_ret rfl rfl
                  · iterate 2 (refine ry_step rfl rfl ?_)
                    obtain ⟨⟨u135, S134⟩, hv133, hf⟩ := Option.bind_eq_some_iff.mp hf
                    dsimp only at hf
                    refine ry_call rfl rfl rfl rfl rfl (tX12_opened hv133) ?_
                    cases hf
                    exact ry_ret rfl rfl
                · iterate 2 (refine ry_step rfl rfl ?_)
                  obtain ⟨⟨u138, S137⟩, hv136, hf⟩ := Option.bind_eq_some_iff.mp hf
                  dsimp only at hf
                  refine ry_call rfl rfl rfl rfl rfl (tX12_opened hv136) ?_
                  cases hf
                  exact ry_ret rfl rfl
              · iterate 2 (refine ry_step rfl rfl ?_)
                obtain ⟨⟨u141, S140⟩, hv139, hf⟩ := Option.bind_eq_some_iff.mp hf
                dsimp only at hf
                refine ry_call rfl rfl rfl rfl rfl (tX12_opened hv139) ?_
                cases hf
                exact ry_ret rfl rfl
            · iterate 2 (refine ry_step rfl rfl ?_)
              obtain ⟨⟨u144, S143⟩, hv142, hf⟩ := Option.bind_eq_some_iff.mp hf
              dsimp only at hf
              refine ry_call rfl rfl rfl rfl rfl (tX12_opened hv142) ?_
              cases hf
              exact ry_ret rfl rfl
          · iterate 5 (refine ry_step rfl rfl ?_)
            refine ry_br hf (fun hc hf => ?_) (fun hc hf => ?_)
            · iterate 5 (refine ry_step rfl rfl ?_)
              refine ry_br hf (fun hc hf => ?_) (fun hc hf => ?_)
              · refine ry_step rfl rfl ?_
                obtain ⟨S146, hv145, hf⟩ := Option.bind_eq_some_iff.mp hf
                refine ry_call rfl rfl rfl rfl rfl (tX12_emit hv145) ?_
                refine ry_step rfl rfl ?_
                obtain ⟨S148, hv147, hf⟩ := Option.bind_eq_some_iff.mp hf
                refine ry_call rfl rfl rfl rfl rfl (tX12_nextToken hv147) ?_
                iterate 2 (refine ry_step rfl rfl ?_)
                refine ry_stepS hf rfl rfl (fun S149 hf => ?_)
                iterate 2 (refine ry_step rfl rfl ?_)
                obtain ⟨S151, hv150, hf⟩ := Option.bind_eq_some_iff.mp hf
                refine ry_call rfl rfl rfl rfl rfl (tX12_settle hv150) ?_
                refine ry_step rfl rfl ?_
                cases hf
                exact ry_ret rfl rfl
              · iterate 3 (refine ry_step rfl rfl ?_)
                obtain ⟨S153, hv152, hf⟩ := Option.bind_eq_some_iff.mp hf
                refine ry_call rfl rfl rfl rfl rfl (tX12_emit hv152) ?_
                refine ry_step rfl rfl ?_
                obtain ⟨S155, hv154, hf⟩ := Option.bind_eq_some_iff.mp hf
                refine ry_call rfl rfl rfl rfl rfl (tX12_nextToken hv154) ?_
                iterate 2 (refine ry_step rfl rfl ?_)
                refine ry_stepS hf rfl rfl (fun S156 hf => ?_)
                iterate 2 (refine ry_step rfl rfl ?_)
                obtain ⟨S158, hv157, hf⟩ := Option.bind_eq_some_iff.mp hf
                refine ry_call rfl rfl rfl rfl rfl (tX12_settle hv157) ?_
                refine ry_step rfl rfl ?_
                cases hf
                exact ry_ret rfl rfl
            · iterate 6 (refine ry_step rfl rfl ?_)
              refine ry_br hf (fun hc hf => ?_) (fun hc hf => ?_)
              · refine ry_step rfl rfl ?_
                obtain ⟨S160, hv159, hf⟩ := Option.bind_eq_some_iff.mp hf
                refine ry_call rfl rfl rfl rfl rfl (tX12_emit hv159) ?_
                refine ry_step rfl rfl ?_
                obtain ⟨S162, hv161, hf⟩ := Option.bind_eq_some_iff.mp hf
                refine ry_call rfl rfl rfl rfl rfl (tX12_nextToken hv161) ?_
                iterate 2 (refine ry_step rfl rfl ?_)
                refine ry_stepS hf rfl rfl (fun S163 hf => ?_)
                iterate 2 (refine ry_step rfl rfl ?_)
                obtain ⟨S165, hv164, hf⟩ := Option.bind_eq_some_iff.mp hf
                refine ry_call rfl rfl rfl rfl rfl (tX12_settle hv164) ?_
                refine ry_step rfl rfl ?_
                cases hf
                exact ry_ret rfl rfl
              · iterate 3 (refine ry_step rfl rfl ?_)
                obtain ⟨S167, hv166, hf⟩ := Option.bind_eq_some_iff.mp hf
                refine ry_call rfl rfl rfl rfl rfl (tX12_emit hv166) ?_
                refine ry_step rfl rfl ?_
                obtain ⟨S169, hv168, hf⟩ := Option.bind_eq_some_iff.mp hf
                refine ry_call rfl rfl rfl rfl rfl (tX12_nextToken hv168) ?_
                iterate 2 (refine ry_step rfl rfl ?_)
                refine ry_stepS hf rfl rfl (fun S170 hf => ?_)
                iterate 2 (refine ry_step rfl rfl ?_)
                obtain ⟨S172, hv171, hf⟩ := Option.bind_eq_some_iff.mp hf
                refine ry_call rfl rfl rfl rfl rfl (tX12_settle hv171) ?_
                refine ry_step rfl rfl ?_
                cases hf
                exact ry_ret rfl rfl
      · refine ry_step rfl rfl ?_
        cases hf
        exact ry_ret rfl rfl
  · iterate 4 (refine ry_step rfl rfl ?_)
    refine ry_br hf (fun hc hf => ?_) (fun hc hf => ?_)
    · refine ry_step rfl rfl ?_
      obtain ⟨u174, hv173, hf⟩ := Option.bind_eq_some_iff.mp hf
      refine ry_call rfl rfl rfl rfl rfl (tX12_nameOf hv173) ?_
      iterate 3 (refine ry_step rfl rfl ?_)
      refine ry_br hf (fun hc hf => ?_) (fun hc hf => ?_)
      · iterate 4 (refine ry_step rfl rfl ?_)
        refine ry_br hf (fun hc hf => ?_) (fun hc hf => ?_)
        · iterate 5 (refine ry_step rfl rfl ?_)
          refine ry_br hf (fun hc hf => ?_) (fun hc hf => ?_)
          · iterate 5 (refine ry_step rfl rfl ?_)
            refine ry_br hf (fun hc hf => ?_) (fun hc hf => ?_)
            · refine ry_step rfl rfl ?_
              obtain ⟨S176, hv175, hf⟩ := Option.bind_eq_some_iff.mp hf
              refine ry_call rfl rfl rfl rfl rfl (tX12_emit hv175) ?_
              refine ry_step rfl rfl ?_
              obtain ⟨S178, hv177, hf⟩ := Option.bind_eq_some_iff.mp hf
              refine ry_call rfl rfl rfl rfl rfl (tX12_nextToken hv177) ?_
              iterate 2 (refine ry_step rfl rfl ?_)
              refine ry_stepS hf rfl rfl (fun S179 hf => ?_)
              iterate 2 (refine ry_step rfl rfl ?_)
              obtain ⟨S181, hv180, hf⟩ := Option.bind_eq_some_iff.mp hf
              refine ry_call rfl rfl rfl rfl rfl (tX12_settle hv180) ?_
              refine ry_step rfl rfl ?_
              cases hf
              exact ry_ret rfl rfl
            · iterate 3 (refine ry_step rfl rfl ?_)
              obtain ⟨S183, hv182, hf⟩ := Option.bind_eq_some_iff.mp hf
              refine ry_call rfl rfl rfl rfl rfl (tX12_emit hv182) ?_
              refine ry_step rfl rfl ?_
              obtain ⟨S185, hv184, hf⟩ := Option.bind_eq_some_iff.mp hf
              refine ry_call rfl rfl rfl rfl rfl (tX12_nextToken hv184) ?_
              iterate 2 (refine ry_step rfl rfl ?_)
              refine ry_stepS hf rfl rfl (fun S186 hf => ?_)
              iterate 2 (refine ry_step rfl rfl ?_)
              obtain ⟨S188, hv187, hf⟩ := Option.bind_eq_some_iff.mp hf
              refine ry_call rfl rfl rfl rfl rfl (tX12_settle hv187) ?_
              refine ry_step rfl rfl ?_
              cases hf
              exact ry_ret rfl rfl
          · iterate 6 (refine ry_step rfl rfl ?_)
            refine ry_br hf (fun hc hf => ?_) (fun hc hf => ?_)
            · refine ry_step rfl rfl ?_
              obtain ⟨S190, hv189, hf⟩ := Option.bind_eq_some_iff.mp hf
              refine ry_call rfl rfl rfl rfl rfl (tX12_emit hv189) ?_
              refine ry_step rfl rfl ?_
              obtain ⟨S192, hv191, hf⟩ := Option.bind_eq_some_iff.mp hf
              refine ry_call rfl rfl rfl rfl rfl (tX12_nextToken hv191) ?_
              iterate 2 (refine ry_step rfl rfl ?_)
              refine ry_stepS hf rfl rfl (fun S193 hf => ?_)
              iterate 2 (refine ry_step rfl rfl ?_)
              obtain ⟨S195, hv194, hf⟩ := Option.bind_eq_some_iff.mp hf
              refine ry_call rfl rfl rfl rfl rfl (tX12_settle hv194) ?_
              refine ry_step rfl rfl ?_
              cases hf
              exact ry_ret rfl rfl
            · iterate 3 (refine ry_step rfl rfl ?_)
              obtain ⟨S197, hv196, hf⟩ := Option.bind_eq_some_iff.mp hf
              refine ry_call rfl rfl rfl rfl rfl (tX12_emit hv196) ?_
              refine ry_step rfl rfl ?_
              obtain ⟨S199, hv198, hf⟩ := Option.bind_eq_some_iff.mp hf
              refine ry_call rfl rfl rfl rfl rfl (tX12_nextToken hv198) ?_
              iterate 2 (refine ry_step rfl rfl ?_)
              refine ry_stepS hf rfl rfl (fun S200 hf => ?_)
              iterate 2 (refine ry_step rfl rfl ?_)
              obtain ⟨S202, hv201, hf⟩ := Option.bind_eq_some_iff.mp hf
              refine ry_call rfl rfl rfl rfl rfl (tX12_settle hv201) ?_
              refine ry_step rfl rfl ?_
              cases hf
              exact ry_ret rfl rfl
        · iterate 2 (refine ry_step rfl rfl ?_)
          refine ry_br hf (fun hc hf => ?_) (fun hc hf => ?_)
          · iterate 4 (refine ry_step rfl rfl ?_)
            refine ry_br hf (fun hc hf => ?_) (fun hc hf => ?_)
            · iterate 4 (refine ry_step rfl rfl ?_)
              refine ry_br hf (fun hc hf => ?_) (fun hc hf => ?_)
              · iterate 6 (refine ry_step rfl rfl ?_)
                refine ry_call rfl rfl rfl rfl rfl tX12_w5 ?_
                obtain ⟨u204, hv203, hf⟩ := Option.bind_eq_some_iff.mp hf
                refine ry_call rfl rfl rfl rfl rfl (tX12_isWord hv203) ?_
                refine ry_step rfl rfl ?_
                refine ry_br hf (fun hc hf => ?_) (fun hc hf => ?_)
                · iterate 5 (refine ry_step rfl rfl ?_)
                  refine ry_call rfl rfl rfl rfl rfl tX12_w4 ?_
                  obtain ⟨u206, hv205, hf⟩ := Option.bind_eq_some_iff.mp hf
                  refine ry_call rfl rfl rfl rfl rfl (tX12_isWord hv205) ?_
                  refine ry_step rfl rfl ?_
                  refine ry_br hf (fun hc hf => ?_) (fun hc hf => ?_)
                  · iterate 3 (refine ry_step rfl rfl ?_)
                    refine ry_call rfl rfl rfl rfl rfl tX12_w2 ?_
                    obtain ⟨u208, hv207, hf⟩ := Option.bind_eq_some_iff.mp hf
                    refine ry_call rfl rfl rfl rfl rfl (tX12_isWord hv207) ?_
                    refine ry_step rfl rfl ?_
                    refine ry_br hf (fun hc hf => ?_) (fun hc hf => ?_)
                    · iterate 4 (refine ry_step rfl rfl ?_)
                      refine ry_call rfl rfl rfl rfl rfl tX12_w3 ?_
                      obtain ⟨u210, hv209, hf⟩ := Option.bind_eq_some_iff.mp hf
                      refine ry_call rfl rfl rfl rfl rfl (tX12_isWord hv209) ?_
                      refine ry_step rfl rfl ?_
                      refine ry_br hf (fun hc hf => ?_) (fun hc hf => ?_)
                      · refine ry_step rfl rfl ?_
                        cases hf
                        exact ry_ret rfl rfl
                      · refine ry_step rfl rfl ?_
                        obtain ⟨u212, hv211, hf⟩ := Option.bind_eq_some_iff.mp hf
                        refine ry_call rfl rfl rfl rfl rfl (tX12_isAskAhead hv211) ?_
                        refine ry_step rfl rfl ?_
                        refine ry_br hf (fun hc hf => ?_) (fun hc hf => ?_)
                        · refine ry_step rfl rfl ?_
                          cases hf
                          exact ry_ret rfl rfl
                        · iterate 2 (refine ry_step rfl rfl ?_)
                          obtain ⟨⟨u215, S214⟩, hv213, hf⟩ := Option.bind_eq_some_iff.mp hf
                          dsimp only at hf
                          refine ry_call rfl rfl rfl rfl rfl (tX12_opened hv213) ?_
                          refine ry_step rfl rfl ?_
                          cases hf
                          exact ry_ret rfl rfl
                    · iterate 2 (refine ry_step rfl rfl ?_)
                      obtain ⟨⟨u218, S217⟩, hv216, hf⟩ := Option.bind_eq_some_iff.mp hf
                      dsimp only at hf
                      refine ry_call rfl rfl rfl rfl rfl (tX12_opened hv216) ?_
                      cases hf
                      exact ry_ret rfl rfl
                  · iterate 2 (refine ry_step rfl rfl ?_)
                    obtain ⟨⟨u221, S220⟩, hv219, hf⟩ := Option.bind_eq_some_iff.mp hf
                    dsimp only at hf
                    refine ry_call rfl rfl rfl rfl rfl (tX12_opened hv219) ?_
                    cases hf
                    exact ry_ret rfl rfl
                · iterate 2 (refine ry_step rfl rfl ?_)
                  obtain ⟨⟨u224, S223⟩, hv222, hf⟩ := Option.bind_eq_some_iff.mp hf
                  dsimp only at hf
                  refine ry_call rfl rfl rfl rfl rfl (tX12_opened hv222) ?_
                  cases hf
                  exact ry_ret rfl rfl
              · iterate 2 (refine ry_step rfl rfl ?_)
                obtain ⟨⟨u227, S226⟩, hv225, hf⟩ := Option.bind_eq_some_iff.mp hf
                dsimp only at hf
                refine ry_call rfl rfl rfl rfl rfl (tX12_opened hv225) ?_
                cases hf
                exact ry_ret rfl rfl
            · iterate 2 (refine ry_step rfl rfl ?_)
              obtain ⟨⟨u230, S229⟩, hv228, hf⟩ := Option.bind_eq_some_iff.mp hf
              dsimp only at hf
              refine ry_call rfl rfl rfl rfl rfl (tX12_opened hv228) ?_
              cases hf
              exact ry_ret rfl rfl
          · iterate 5 (refine ry_step rfl rfl ?_)
            refine ry_br hf (fun hc hf => ?_) (fun hc hf => ?_)
            · iterate 5 (refine ry_step rfl rfl ?_)
              refine ry_br hf (fun hc hf => ?_) (fun hc hf => ?_)
              · refine ry_step rfl rfl ?_
                obtain ⟨S232, hv231, hf⟩ := Option.bind_eq_some_iff.mp hf
                refine ry_call rfl rfl rfl rfl rfl (tX12_emit hv231) ?_
                refine ry_step rfl rfl ?_
                obtain ⟨S234, hv233, hf⟩ := Option.bind_eq_some_iff.mp hf
                refine ry_call rfl rfl rfl rfl rfl (tX12_nextToken hv233) ?_
                iterate 2 (refine ry_step rfl rfl ?_)
                refine ry_stepS hf rfl rfl (fun S235 hf => ?_)
                iterate 2 (refine ry_step rfl rfl ?_)
                obtain ⟨S237, hv236, hf⟩ := Option.bind_eq_some_iff.mp hf
                refine ry_call rfl rfl rfl rfl rfl (tX12_settle hv236) ?_
                refine ry_step rfl rfl ?_
                cases hf
                exact ry_ret rfl rfl
              · iterate 3 (refine ry_step rfl rfl ?_)
                obtain ⟨S239, hv238, hf⟩ := Option.bind_eq_some_iff.mp hf
                refine ry_call rfl rfl rfl rfl rfl (tX12_emit hv238) ?_
                refine ry_step rfl rfl ?_
                obtain ⟨S241, hv240, hf⟩ := Option.bind_eq_some_iff.mp hf
                refine ry_call rfl rfl rfl rfl rfl (tX12_nextToken hv240) ?_
                iterate 2 (refine ry_step rfl rfl ?_)
                refine ry_stepS hf rfl rfl (fun S242 hf => ?_)
                iterate 2 (refine ry_step rfl rfl ?_)
                obtain ⟨S244, hv243, hf⟩ := Option.bind_eq_some_iff.mp hf
                refine ry_call rfl rfl rfl rfl rfl (tX12_settle hv243) ?_
                refine ry_step rfl rfl ?_
                cases hf
                exact ry_ret rfl rfl
            · iterate 6 (refine ry_step rfl rfl ?_)
              refine ry_br hf (fun hc hf => ?_) (fun hc hf => ?_)
              · refine ry_step rfl rfl ?_
                obtain ⟨S246, hv245, hf⟩ := Option.bind_eq_some_iff.mp hf
                refine ry_call rfl rfl rfl rfl rfl (tX12_emit hv245) ?_
                refine ry_step rfl rfl ?_
                obtain ⟨S248, hv247, hf⟩ := Option.bind_eq_some_iff.mp hf
                refine ry_call rfl rfl rfl rfl rfl (tX12_nextToken hv247) ?_
                iterate 2 (refine ry_step rfl rfl ?_)
                refine ry_stepS hf rfl rfl (fun S249 hf => ?_)
                iterate 2 (refine ry_step rfl rfl ?_)
                obtain ⟨S251, hv250, hf⟩ := Option.bind_eq_some_iff.mp hf
                refine ry_call rfl rfl rfl rfl rfl (tX12_settle hv250) ?_
                refine ry_step rfl rfl ?_
                cases hf
                exact ry_ret rfl rfl
              · iterate 3 (refine ry_step rfl rfl ?_)
                obtain ⟨S253, hv252, hf⟩ := Option.bind_eq_some_iff.mp hf
                refine ry_call rfl rfl rfl rfl rfl (tX12_emit hv252) ?_
                refine ry_step rfl rfl ?_
                obtain ⟨S255, hv254, hf⟩ := Option.bind_eq_some_iff.mp hf
                refine ry_call rfl rfl rfl rfl rfl (tX12_nextToken hv254) ?_
                iterate 2 (refine ry_step rfl rfl ?_)
                refine ry_stepS hf rfl rfl (fun S256 hf => ?_)
                iterate 2 (refine ry_step rfl rfl ?_)
                obtain ⟨S258, hv257, hf⟩ := Option.bind_eq_some_iff.mp hf
                refine ry_call rfl rfl rfl rfl rfl (tX12_settle hv257) ?_
                refine ry_step rfl rfl ?_
                cases hf
                exact ry_ret rfl rfl
      · iterate 2 (refine ry_step rfl rfl ?_)
        obtain ⟨u260, hv259, hf⟩ := Option.bind_eq_some_iff.mp hf
        refine ry_call rfl rfl rfl rfl rfl (tX12_isOf hv259) ?_
        refine ry_step rfl rfl ?_
        refine ry_br hf (fun hc hf => ?_) (fun hc hf => ?_)
        · iterate 4 (refine ry_step rfl rfl ?_)
          refine ry_br hf (fun hc hf => ?_) (fun hc hf => ?_)
          · iterate 5 (refine ry_step rfl rfl ?_)
            refine ry_br hf (fun hc hf => ?_) (fun hc hf => ?_)
            · iterate 5 (refine ry_step rfl rfl ?_)
              refine ry_br hf (fun hc hf => ?_) (fun hc hf => ?_)
              · refine ry_step rfl rfl ?_
                obtain ⟨S262, hv261, hf⟩ := Option.bind_eq_some_iff.mp hf
                refine ry_call rfl rfl rfl rfl rfl (tX12_emit hv261) ?_
                refine ry_step rfl rfl ?_
                obtain ⟨S264, hv263, hf⟩ := Option.bind_eq_some_iff.mp hf
                refine ry_call rfl rfl rfl rfl rfl (tX12_nextToken hv263) ?_
                iterate 2 (refine ry_step rfl rfl ?_)
                refine ry_stepS hf rfl rfl (fun S265 hf => ?_)
                iterate 2 (refine ry_step rfl rfl ?_)
                obtain ⟨S267, hv266, hf⟩ := Option.bind_eq_some_iff.mp hf
                refine ry_call rfl rfl rfl rfl rfl (tX12_settle hv266) ?_
                refine ry_step rfl rfl ?_
                cases hf
                exact ry_ret rfl rfl
              · iterate 3 (refine ry_step rfl rfl ?_)
                obtain ⟨S269, hv268, hf⟩ := Option.bind_eq_some_iff.mp hf
                refine ry_call rfl rfl rfl rfl rfl (tX12_emit hv268) ?_
                refine ry_step rfl rfl ?_
                obtain ⟨S271, hv270, hf⟩ := Option.bind_eq_some_iff.mp hf
                refine ry_call rfl rfl rfl rfl rfl (tX12_nextToken hv270) ?_
                iterate 2 (refine ry_step rfl rfl ?_)
                refine ry_stepS hf rfl rfl (fun S272 hf => ?_)
                iterate 2 (refine ry_step rfl rfl ?_)
                obtain ⟨S274, hv273, hf⟩ := Option.bind_eq_some_iff.mp hf
                refine ry_call rfl rfl rfl rfl rfl (tX12_settle hv273) ?_
                refine ry_step rfl rfl ?_
                cases hf
                exact ry_ret rfl rfl
            · iterate 6 (refine ry_step rfl rfl ?_)
              refine ry_br hf (fun hc hf => ?_) (fun hc hf => ?_)
              · refine ry_step rfl rfl ?_
                obtain ⟨S276, hv275, hf⟩ := Option.bind_eq_some_iff.mp hf
                refine ry_call rfl rfl rfl rfl rfl (tX12_emit hv275) ?_
                refine ry_step rfl rfl ?_
                obtain ⟨S278, hv277, hf⟩ := Option.bind_eq_some_iff.mp hf
                refine ry_call rfl rfl rfl rfl rfl (tX12_nextToken hv277) ?_
                iterate 2 (refine ry_step rfl rfl ?_)
                refine ry_stepS hf rfl rfl (fun S279 hf => ?_)
                iterate 2 (refine ry_step rfl rfl ?_)
                obtain ⟨S281, hv280, hf⟩ := Option.bind_eq_some_iff.mp hf
                refine ry_call rfl rfl rfl rfl rfl (tX12_settle hv280) ?_
                refine ry_step rfl rfl ?_
                cases hf
                exact ry_ret rfl rfl
              · iterate 3 (refine ry_step rfl rfl ?_)
                obtain ⟨S283, hv282, hf⟩ := Option.bind_eq_some_iff.mp hf
                refine ry_call rfl rfl rfl rfl rfl (tX12_emit hv282) ?_
                refine ry_step rfl rfl ?_
                obtain ⟨S285, hv284, hf⟩ := Option.bind_eq_some_iff.mp hf
                refine ry_call rfl rfl rfl rfl rfl (tX12_nextToken hv284) ?_
                iterate 2 (refine ry_step rfl rfl ?_)
                refine ry_stepS hf rfl rfl (fun S286 hf => ?_)
                iterate 2 (refine ry_step rfl rfl ?_)
                obtain ⟨S288, hv287, hf⟩ := Option.bind_eq_some_iff.mp hf
                refine ry_call rfl rfl rfl rfl rfl (tX12_settle hv287) ?_
                refine ry_step rfl rfl ?_
                cases hf
                exact ry_ret rfl rfl
          · iterate 2 (refine ry_step rfl rfl ?_)
            refine ry_br hf (fun hc hf => ?_) (fun hc hf => ?_)
            · iterate 4 (refine ry_step rfl rfl ?_)
              refine ry_br hf (fun hc hf => ?_) (fun hc hf => ?_)
              · iterate 4 (refine ry_step rfl rfl ?_)
                refine ry_br hf (fun hc hf => ?_) (fun hc hf => ?_)
                · iterate 6 (refine ry_step rfl rfl ?_)
                  refine ry_call rfl rfl rfl rfl rfl tX12_w5 ?_
                  obtain ⟨u290, hv289, hf⟩ := Option.bind_eq_some_iff.mp hf
                  refine ry_call rfl rfl rfl rfl rfl (tX12_isWord hv289) ?_
                  refine ry_step rfl rfl ?_
                  refine ry_br hf (fun hc hf => ?_) (fun hc hf => ?_)
                  · iterate 5 (refine ry_step rfl rfl ?_)
                    refine ry_call rfl rfl rfl rfl rfl tX12_w4 ?_
                    obtain ⟨u292, hv291, hf⟩ := Option.bind_eq_some_iff.mp hf
                    refine ry_call rfl rfl rfl rfl rfl (tX12_isWord hv291) ?_
                    refine ry_step rfl rfl ?_
                    refine ry_br hf (fun hc hf => ?_) (fun hc hf => ?_)
                    · iterate 3 (refine ry_step rfl rfl ?_)
                      refine ry_call rfl rfl rfl rfl rfl tX12_w2 ?_
                      obtain ⟨u294, hv293, hf⟩ := Option.bind_eq_some_iff.mp hf
                      refine ry_call rfl rfl rfl rfl rfl (tX12_isWord hv293) ?_
                      refine ry_step rfl rfl ?_
                      refine ry_br hf (fun hc hf => ?_) (fun hc hf => ?_)
                      · iterate 4 (refine ry_step rfl rfl ?_)
                        refine ry_call rfl rfl rfl rfl rfl tX12_w3 ?_
                        obtain ⟨u296, hv295, hf⟩ := Option.bind_eq_some_iff.mp hf
                        refine ry_call rfl rfl rfl rfl rfl (tX12_isWord hv295) ?_
                        refine ry_step rfl rfl ?_
                        refine ry_br hf (fun hc hf => ?_) (fun hc hf => ?_)
                        · refine ry_step rfl rfl ?_
                          cases hf
                          exact ry_ret rfl rfl
                        · refine ry_step rfl rfl ?_
                          obtain ⟨u298, hv297, hf⟩ := Option.bind_eq_some_iff.mp hf
                          refine ry_call rfl rfl rfl rfl rfl (tX12_isAskAhead hv297) ?_
                          refine ry_step rfl rfl ?_
                          refine ry_br hf (fun hc hf => ?_) (fun hc hf => ?_)
                          · refine ry_step rfl rfl ?_
                            cases hf
                            exact ry_ret rfl rfl
                          · iterate 2 (refine ry_step rfl rfl ?_)
                            obtain ⟨⟨u301, S300⟩, hv299, hf⟩ := Option.bind_eq_some_iff.mp hf
                            dsimp only at hf
                            refine ry_call rfl rfl rfl rfl rfl (tX12_opened hv299) ?_
                            refine ry_step rfl rfl ?_
                            cases hf
                            exact ry_ret rfl rfl
                      · iterate 2 (refine ry_step rfl rfl ?_)
                        obtain ⟨⟨u304, S303⟩, hv302, hf⟩ := Option.bind_eq_some_iff.mp hf
                        dsimp only at hf
                        refine ry_call rfl rfl rfl rfl rfl (tX12_opened hv302) ?_
                        cases hf
                        exact ry_ret rfl rfl
                    · iterate 2 (refine ry_step rfl rfl ?_)
                      obtain ⟨⟨u307, S306⟩, hv305, hf⟩ := Option.bind_eq_some_iff.mp hf
                      dsimp only at hf
                      refine ry_call rfl rfl rfl rfl rfl (tX12_opened hv305) ?_
                      cases hf
                      exact ry_ret rfl rfl
                  · iterate 2 (refine ry_step rfl rfl ?_)
                    obtain ⟨⟨u310, S309⟩, hv308, hf⟩ := Option.bind_eq_some_iff.mp hf
                    dsimp only at hf
                    refine ry_call rfl rfl rfl rfl rfl (tX12_opened hv308) ?_
                    cases hf
                    exact ry_ret rfl rfl
                · iterate 2 (refine ry_step rfl rfl ?_)
                  obtain ⟨⟨u313, S312⟩, hv311, hf⟩ := Option.bind_eq_some_iff.mp hf
                  dsimp only at hf
                  refine ry_call rfl rfl rfl rfl rfl (tX12_opened hv311) ?_
                  cases hf
                  exact ry_ret rfl rfl
              · iterate 2 (refine ry_step rfl rfl ?_)
                obtain ⟨⟨u316, S315⟩, hv314, hf⟩ := Option.bind_eq_some_iff.mp hf
                dsimp only at hf
                refine ry_call rfl rfl rfl rfl rfl (tX12_opened hv314) ?_
                cases hf
                exact ry_ret rfl rfl
            · iterate 5 (refine ry_step rfl rfl ?_)
              refine ry_br hf (fun hc hf => ?_) (fun hc hf => ?_)
              · iterate 5 (refine ry_step rfl rfl ?_)
                refine ry_br hf (fun hc hf => ?_) (fun hc hf => ?_)
                · refine ry_step rfl rfl ?_
                  obtain ⟨S318, hv317, hf⟩ := Option.bind_eq_some_iff.mp hf
                  refine ry_call rfl rfl rfl rfl rfl (tX12_emit hv317) ?_
                  refine ry_step rfl rfl ?_
                  obtain ⟨S320, hv319, hf⟩ := Option.bind_eq_some_iff.mp hf
                  refine ry_call rfl rfl rfl rfl rfl (tX12_nextToken hv319) ?_
                  iterate 2 (refine ry_step rfl rfl ?_)
                  refine ry_stepS hf rfl rfl (fun S321 hf => ?_)
                  iterate 2 (refine ry_step rfl rfl ?_)
                  obtain ⟨S323, hv322, hf⟩ := Option.bind_eq_some_iff.mp hf
                  refine ry_call rfl rfl rfl rfl rfl (tX12_settle hv322) ?_
                  refine ry_step rfl rfl ?_
                  cases hf
                  exact ry_ret rfl rfl
                · iterate 3 (refine ry_step rfl rfl ?_)
                  obtain ⟨S325, hv324, hf⟩ := Option.bind_eq_some_iff.mp hf
                  refine ry_call rfl rfl rfl rfl rfl (tX12_emit hv324) ?_
                  refine ry_step rfl rfl ?_
                  obtain ⟨S327, hv326, hf⟩ := Option.bind_eq_some_iff.mp hf
                  refine ry_call rfl rfl rfl rfl rfl (tX12_nextToken hv326) ?_
                  iterate 2 (refine ry_step rfl rfl ?_)
                  refine ry_stepS hf rfl rfl (fun S328 hf => ?_)
                  iterate 2 (refine ry_step rfl rfl ?_)
                  obtain ⟨S330, hv329, hf⟩ := Option.bind_eq_some_iff.mp hf
                  refine ry_call rfl rfl rfl rfl rfl (tX12_settle hv329) ?_
                  refine ry_step rfl rfl ?_
                  cases hf
                  exact ry_ret rfl rfl
              · iterate 6 (refine ry_step rfl rfl ?_)
                refine ry_br hf (fun hc hf => ?_) (fun hc hf => ?_)
                · refine ry_step rfl rfl ?_
                  obtain ⟨S332, hv331, hf⟩ := Option.bind_eq_some_iff.mp hf
                  refine ry_call rfl rfl rfl rfl rfl (tX12_emit hv331) ?_
                  refine ry_step rfl rfl ?_
                  obtain ⟨S334, hv333, hf⟩ := Option.bind_eq_some_iff.mp hf
                  refine ry_call rfl rfl rfl rfl rfl (tX12_nextToken hv333) ?_
                  iterate 2 (refine ry_step rfl rfl ?_)
                  refine ry_stepS hf rfl rfl (fun S335 hf => ?_)
                  iterate 2 (refine ry_step rfl rfl ?_)
                  obtain ⟨S337, hv336, hf⟩ := Option.bind_eq_some_iff.mp hf
                  refine ry_call rfl rfl rfl rfl rfl (tX12_settle hv336) ?_
                  refine ry_step rfl rfl ?_
                  cases hf
                  exact ry_ret rfl rfl
                · iterate 3 (refine ry_step rfl rfl ?_)
                  obtain ⟨S339, hv338, hf⟩ := Option.bind_eq_some_iff.mp hf
                  refine ry_call rfl rfl rfl rfl rfl (tX12_emit hv338) ?_
                  refine ry_step rfl rfl ?_
                  obtain ⟨S341, hv340, hf⟩ := Option.bind_eq_some_iff.mp hf
                  refine ry_call rfl rfl rfl rfl rfl (tX12_nextToken hv340) ?_
                  iterate 2 (refine ry_step rfl rfl ?_)
                  refine ry_stepS hf rfl rfl (fun S342 hf => ?_)
                  iterate 2 (refine ry_step rfl rfl ?_)
                  obtain ⟨S344, hv343, hf⟩ := Option.bind_eq_some_iff.mp hf
                  refine ry_call rfl rfl rfl rfl rfl (tX12_settle hv343) ?_
                  refine ry_step rfl rfl ?_
                  cases hf
                  exact ry_ret rfl rfl
        · refine ry_step rfl rfl ?_
          cases hf
          exact ry_ret rfl rfl
    · refine ry_step rfl rfl ?_
      cases hf
      exact ry_ret rfl rfl
def fX12_compareOf (S : yS) : Option Int32 := (if ¬ (S.1 265 9) = (Int32.ofInt 60) then (if ¬ (S.1 265 9) = (Int32.ofInt 4) then (if ¬ (S.1 265 9) = (Int32.ofInt 62) then (if ¬ (S.1 265 9) = (Int32.ofInt 5) then (if ¬ (S.1 265 9) = (Int32.ofInt 61) then (if ¬ (S.1 265 9) = (Int32.ofInt 35) then some (Int32.ofInt (-1)) else some (Int32.ofInt 15)) else some (Int32.ofInt 14)) else some (Int32.ofInt 13)) else some (Int32.ofInt 12)) else some (Int32.ofInt 11)) else some (Int32.ofInt 10))
set_option maxRecDepth 4000 in
theorem tX12_compareOf {ro : xRo} {T : yK} {S : yS} {d : Nat} {q : Int32} (hf : fX12_compareOf  S = some q) : yEv ro xNo (yKx T) (d + 1) jX12_compareOf [.ref 265] S (some (.int q)) S := by
  refine ry_meth pX12_compareOf rfl (fun z => ?_)
  unfold fX12_compareOf at hf
  iterate 4 (refine ry_step rfl rfl ?_)
  refine ry_br hf (fun hc hf => ?_) (fun hc hf => ?_)
  · iterate 4 (refine ry_step rfl rfl ?_)
    refine ry_br hf (fun hc hf => ?_) (fun hc hf => ?_)
    · iterate 4 (refine ry_step rfl rfl ?_)
      refine ry_br hf (fun hc hf => ?_) (fun hc hf => ?_)
      · iterate 4 (refine ry_step rfl rfl ?_)
        refine ry_br hf (fun hc hf => ?_) (fun hc hf => ?_)
        · iterate 4 (refine ry_step rfl rfl ?_)
          refine ry_br hf (fun hc hf => ?_) (fun hc hf => ?_)
          · iterate 4 (refine ry_step rfl rfl ?_)
            refine ry_br hf (fun hc hf => ?_) (fun hc hf => ?_)
            · refine ry_step rfl rfl ?_
              cases hf
              exact ry_ret rfl rfl
            · iterate 2 (refine ry_step rfl rfl ?_)
              cases hf
              exact ry_ret rfl rfl
          · iterate 2 (refine ry_step rfl rfl ?_)
            cases hf
            exact ry_ret rfl rfl
        · iterate 2 (refine ry_step rfl rfl ?_)
          cases hf
          exact ry_ret rfl rfl
      · iterate 2 (refine ry_step rfl rfl ?_)
        cases hf
        exact ry_ret rfl rfl
    · iterate 2 (refine ry_step rfl rfl ?_)
      cases hf
      exact ry_ret rfl rfl
  · iterate 2 (refine ry_step rfl rfl ?_)
    cases hf
    exact ry_ret rfl rfl
def fX12_betweenOf (N : Nat) (S : yS) : Option Int32 := (if ¬ (S.1 265 9) = (Int32.ofInt 43) then (if ¬ (S.1 265 9) = (Int32.ofInt 45) then (if ¬ (S.1 265 9) = (Int32.ofInt 42) then (if ¬ (S.1 265 9) = (Int32.ofInt 47) then (fX12_openNow N  S).bind fun u2 => (if u2 = (Int32.ofInt 41) then (fX12_isCompared N  S).bind fun u4 => (if ¬ u4 = 0 then (fX12_isWord (fX12_w3 (Int32.ofInt 97) (Int32.ofInt 110) (Int32.ofInt 100)) S).bind fun u6 => (if u6 = 0 then (fX12_isWord (fX12_w2 (Int32.ofInt 111) (Int32.ofInt 114)) S).bind fun u8 => (if u8 = 0 then some (Int32.ofInt (-1)) else some (Int32.ofInt 22)) else some (Int32.ofInt 21)) else (fX12_compareOf  S).bind fun u10 => some u10) else some (Int32.ofInt (-1))) else some (Int32.ofInt 9)) else some (Int32.ofInt 8)) else some (Int32.ofInt 7)) else some (Int32.ofInt 6))
set_option maxRecDepth 4000 in
theorem tX12_betweenOf {ro : xRo} {T : yK} {S : yS} {d N : Nat} {q : Int32} (hf : fX12_betweenOf N  S = some q) : yEv ro xNo (yKx T) (d + 3) jX12_betweenOf [.ref 265] S (some (.int q)) S := by
  refine ry_meth pX12_betweenOf rfl (fun z => ?_)
  unfold fX12_betweenOf at hf
  iterate 4 (refine ry_step rfl rfl ?_)
  refine ry_br hf (fun hc hf => ?_) (fun hc hf => ?_)
  · iterate 4 (refine ry_step rfl rfl ?_)
    refine ry_br hf (fun hc hf => ?_) (fun hc hf => ?_)
    · iterate 4 (refine ry_step rfl rfl ?_)
      refine ry_br hf (fun hc hf => ?_) (fun hc hf => ?_)
      · iterate 4 (refine ry_step rfl rfl ?_)
        refine ry_br hf (fun hc hf => ?_) (fun hc hf => ?_)
        · refine ry_step rfl rfl ?_
          obtain ⟨u2, hv1, hf⟩ := Option.bind_eq_some_iff.mp hf
          refine ry_call rfl rfl rfl rfl rfl (tX12_openNow hv1) ?_
          iterate 2 (refine ry_step rfl rfl ?_)
          refine ry_br hf (fun hc hf => ?_) (fun hc hf => ?_)
          · refine ry_step rfl rfl ?_
            obtain ⟨u4, hv3, hf⟩ := Option.bind_eq_some_iff.mp hf
            refine ry_call rfl rfl rfl rfl rfl (tX12_isCompared hv3) ?_
            refine ry_step rfl rfl ?_
            refine ry_br hf (fun hc hf => ?_) (fun hc hf => ?_)
            · iterate 4 (refine ry_step rfl rfl ?_)
              refine ry_call rfl rfl rfl rfl rfl tX12_w3 ?_
              obtain ⟨u6, hv5, hf⟩ := Option.bind_eq_some_iff.mp hf
              refine ry_call rfl rfl rfl rfl rfl (tX12_isWord hv5) ?_
              refine ry_step rfl rfl ?_
              refine ry_br hf (fun hc hf => ?_) (fun hc hf => ?_)
              · iterate 3 (refine ry_step rfl rfl ?_)
                refine ry_call rfl rfl rfl rfl rfl tX12_w2 ?_
                obtain ⟨u8, hv7, hf⟩ := Option.bind_eq_some_iff.mp hf
                refine ry_call rfl rfl rfl rfl rfl (tX12_isWord hv7) ?_
                refine ry_step rfl rfl ?_
                refine ry_br hf (fun hc hf => ?_) (fun hc hf => ?_)
                · refine ry_step rfl rfl ?_
                  cases hf
                  exact ry_ret rfl rfl
                · iterate 2 (refine ry_step rfl rfl ?_)
                  cases hf
                  exact ry_ret rfl rfl
              · iterate 2 (refine ry_step rfl rfl ?_)
                cases hf
                exact ry_ret rfl rfl
            · refine ry_step rfl rfl ?_
              obtain ⟨u10, hv9, hf⟩ := Option.bind_eq_some_iff.mp hf
              refine ry_call rfl rfl rfl rfl rfl (tX12_compareOf hv9) ?_
              cases hf
              exact ry_ret rfl rfl
          · refine ry_step rfl rfl ?_
            cases hf
            exact ry_ret rfl rfl
        · refine ry_step rfl rfl ?_
          cases hf
          exact ry_ret rfl rfl
      · refine ry_step rfl rfl ?_
        cases hf
        exact ry_ret rfl rfl
    · refine ry_step rfl rfl ?_
      cases hf
      exact ry_ret rfl rfl
  · refine ry_step rfl rfl ?_
    cases hf
    exact ry_ret rfl rfl
def fX12_partOf (N : Nat) (v0 : Int32) (S : yS) : Option Int32 := (if v0 = (Int32.ofInt 40) then (if ¬ (S.1 265 9) = (Int32.ofInt 41) then some (Int32.ofInt (-1)) else some (Int32.ofInt 0)) else (if v0 = (Int32.ofInt 41) then (fX12_isWord (fX12_w4 (Int32.ofInt 116) (Int32.ofInt 104) (Int32.ofInt 101) (Int32.ofInt 110)) S).bind fun u6 => (if u6 = 0 then some (Int32.ofInt (-1)) else (fX12_isCompared N  S).bind fun u8 => (if u8 = 0 then some (Int32.ofInt (-1)) else some (Int32.ofInt 42))) else (if v0 = (Int32.ofInt 42) then (fX12_isWord (fX12_w4 (Int32.ofInt 101) (Int32.ofInt 108) (Int32.ofInt 115) (Int32.ofInt 101)) S).bind fun u4 => (if u4 = 0 then some (Int32.ofInt (-1)) else some (Int32.ofInt 43)) else (if v0 = (Int32.ofInt 43) then (fX12_isWord (fX12_w3 (Int32.ofInt 101) (Int32.ofInt 110) (Int32.ofInt 100)) S).bind fun u2 => (if u2 = 0 then some (Int32.ofInt (-1)) else some (Int32.ofInt 0)) else some (Int32.ofInt (-1))))))
set_option maxRecDepth 4000 in
theorem tX12_partOf {ro : xRo} {T : yK} {S : yS} {d N : Nat} {v0 : Int32} {q : Int32} (hf : fX12_partOf N v0 S = some q) : yEv ro xNo (yKx T) (d + 4) jX12_partOf [.ref 265, .int v0] S (some (.int q)) S := by
  refine ry_meth pX12_partOf rfl (fun z => ?_)
  unfold fX12_partOf at hf
  refine ry_step rfl rfl ?_
  refine ry_sw hf (fun hf => ?_) (fun n40 hf => ?_)
  · iterate 5 (refine ry_step rfl rfl ?_)
    refine ry_br hf (fun hc hf => ?_) (fun hc hf => ?_)
    · refine ry_step rfl rfl ?_
      cases hf
      exact ry_ret rfl rfl
    · iterate 2 (refine ry_step rfl rfl ?_)
      cases hf
      exact ry_ret rfl rfl
  · refine ry_sw hf (fun hf => ?_) (fun n41 hf => ?_)
    · iterate 6 (refine ry_step rfl rfl ?_)
      refine ry_call rfl rfl rfl rfl rfl tX12_w4 ?_
      obtain ⟨u6, hv5, hf⟩ := Option.bind_eq_some_iff.mp hf
      refine ry_call rfl rfl rfl rfl rfl (tX12_isWord hv5) ?_
      refine ry_step rfl rfl ?_
      refine ry_br hf (fun hc hf => ?_) (fun hc hf => ?_)
      · refine ry_step rfl rfl ?_
        cases hf
        exact ry_ret rfl rfl
      · refine ry_step rfl rfl ?_
        obtain ⟨u8, hv7, hf⟩ := Option.bind_eq_some_iff.mp hf
        refine ry_call rfl rfl rfl rfl rfl (tX12_isCompared hv7) ?_
        refine ry_step rfl rfl ?_
        refine ry_br hf (fun hc hf => ?_) (fun hc hf => ?_)
        · refine ry_step rfl rfl ?_
          cases hf
          exact ry_ret rfl rfl
        · iterate 2 (refine ry_step rfl rfl ?_)
          cases hf
          exact ry_ret rfl rfl
    · refine ry_sw hf (fun hf => ?_) (fun n42 hf => ?_)
      · iterate 6 (refine ry_step rfl rfl ?_)
        refine ry_call rfl rfl rfl rfl rfl tX12_w4 ?_
        obtain ⟨u4, hv3, hf⟩ := Option.bind_eq_some_iff.mp hf
        refine ry_call rfl rfl rfl rfl rfl (tX12_isWord hv3) ?_
        refine ry_step rfl rfl ?_
        refine ry_br hf (fun hc hf => ?_) (fun hc hf => ?_)
        · refine ry_step rfl rfl ?_
          cases hf
          exact ry_ret rfl rfl
        · iterate 2 (refine ry_step rfl rfl ?_)
          cases hf
          exact ry_ret rfl rfl
      · refine ry_sw hf (fun hf => ?_) (fun n43 hf => ?_)
        · iterate 5 (refine ry_step rfl rfl ?_)
          refine ry_call rfl rfl rfl rfl rfl tX12_w3 ?_
          obtain ⟨u2, hv1, hf⟩ := Option.bind_eq_some_iff.mp hf
          refine ry_call rfl rfl rfl rfl rfl (tX12_isWord hv1) ?_
          refine ry_step rfl rfl ?_
          refine ry_br hf (fun hc hf => ?_) (fun hc hf => ?_)
          · refine ry_step rfl rfl ?_
            cases hf
            exact ry_ret rfl rfl
          · iterate 2 (refine ry_step rfl rfl ?_)
            cases hf
            exact ry_ret rfl rfl
        · have m40 := xne_toInt (k := 40) rfl n40
          have m41 := xne_toInt (k := 41) rfl n41
          have m42 := xne_toInt (k := 42) rfl n42
          have m43 := xne_toInt (k := 43) rfl n43
          refine ry_tb rfl (by omega) ?_
          refine ry_step rfl rfl ?_
          cases hf
          exact ry_ret rfl rfl
def fX12_behindOne (N : Nat) (S : yS) : Option (Int32 × yS) := (fX12_betweenOf N  S).bind fun u2 => (if u2 < 0 then (fX12_openNow N  S).bind fun u4 => (fX12_partOf N u4 S).bind fun u6 => (if 0 ≤ u6 then (fX12_settle N (Int32.ofInt 1) S).bind fun S8 => (fX12_nextToken N  S8).bind fun S10 => (if u6 ≤ 0 then pSt (ySi S10 265 17 ((S10.1 265 17) - (Int32.ofInt 1))) fun S11 => pSt (ySi S11 265 16 ((S11.1 265 16) - (Int32.ofInt 1))) fun S12 => (if ¬ u4 = (Int32.ofInt 43) then (fX12_settle N (Int32.ofInt 7) S12).bind fun S14 => some ((Int32.ofInt 1), S14) else (fX12_emit (Int32.ofInt 3) (Int32.ofInt 0) S12).bind fun S16 => (fX12_settle N (Int32.ofInt 7) S16).bind fun S18 => some ((Int32.ofInt 1), S18)) else (fX12_openAt N  S10).bind fun u20 => (ain 160 u20).bind fun j23 => pSt (ySa S10 270 (upd (S10.2.2.1 270) j23 u6)) fun S21 => pSt (ySi S21 265 18 (Int32.ofInt 0)) fun S22 => some ((Int32.ofInt 1), S22)) else some ((Int32.ofInt 0), S)) else (if ¬ (fX12_rank u2) = (Int32.ofInt 4) then (fX12_settle N (fX12_rank u2) S).bind fun S25 => (ain 160 (S25.1 265 16)).bind fun j31 => pSt (ySa S25 270 (upd (S25.2.2.1 270) j31 u2)) fun S26 => pSt (ySi S26 265 16 ((S26.1 265 16) + (Int32.ofInt 1))) fun S27 => pSt (ySi S27 265 18 (Int32.ofInt 0)) fun S28 => (fX12_nextToken N  S28).bind fun S30 => some ((Int32.ofInt 1), S30) else (fX12_settle N (Int32.ofInt 5) S).bind fun S33 => (ain 160 (S33.1 265 16)).bind fun j39 => pSt (ySa S33 270 (upd (S33.2.2.1 270) j39 u2)) fun S34 => pSt (ySi S34 265 16 ((S34.1 265 16) + (Int32.ofInt 1))) fun S35 => pSt (ySi S35 265 18 (Int32.ofInt 0)) fun S36 => (fX12_nextToken N  S36).bind fun S38 => some ((Int32.ofInt 1), S38)))
set_option maxRecDepth 4000 in
theorem tX12_behindOne {ro : xRo} {T : yK} {S : yS} {d N : Nat} {q : Int32} {S' : yS} (hf : fX12_behindOne N  S = some (q, S')) : yEv ro xNo (yKx T) (d + 5) jX12_behindOne [.ref 265] S (some (.int q)) S' := by
  refine ry_meth pX12_behindOne rfl (fun z => ?_)
  unfold fX12_behindOne at hf
  refine ry_step rfl rfl ?_
  obtain ⟨u2, hv1, hf⟩ := Option.bind_eq_some_iff.mp hf
  refine ry_call rfl rfl rfl rfl rfl (tX12_betweenOf hv1) ?_
  iterate 3 (refine ry_step rfl rfl ?_)
  refine ry_br hf (fun hc hf => ?_) (fun hc hf => ?_)
  · refine ry_step rfl rfl ?_
    obtain ⟨u4, hv3, hf⟩ := Option.bind_eq_some_iff.mp hf
    refine ry_call rfl rfl rfl rfl rfl (tX12_openNow hv3) ?_
    iterate 3 (refine ry_step rfl rfl ?_)
    obtain ⟨u6, hv5, hf⟩ := Option.bind_eq_some_iff.mp hf
    refine ry_call rfl rfl rfl rfl rfl (tX12_partOf hv5) ?_
    iterate 3 (refine ry_step rfl rfl ?_)
    refine ry_br hf (fun hc hf => ?_) (fun hc hf => ?_)
    · iterate 2 (refine ry_step rfl rfl ?_)
      obtain ⟨S8, hv7, hf⟩ := Option.bind_eq_some_iff.mp hf
      refine ry_call rfl rfl rfl rfl rfl (tX12_settle hv7) ?_
      refine ry_step rfl rfl ?_
      obtain ⟨S10, hv9, hf⟩ := Option.bind_eq_some_iff.mp hf
      refine ry_call rfl rfl rfl rfl rfl (tX12_nextToken hv9) ?_
      iterate 2 (refine ry_step rfl rfl ?_)
      refine ry_br hf (fun hc hf => ?_) (fun hc hf => ?_)
      · iterate 5 (refine ry_step rfl rfl ?_)
        refine ry_stepS hf rfl rfl (fun S11 hf => ?_)
        iterate 5 (refine ry_step rfl rfl ?_)
        refine ry_stepS hf rfl rfl (fun S12 hf => ?_)
        iterate 3 (refine ry_step rfl rfl ?_)
        refine ry_br hf (fun hc hf => ?_) (fun hc hf => ?_)
        · iterate 2 (refine ry_step rfl rfl ?_)
          obtain ⟨S14, hv13, hf⟩ := Option.bind_eq_some_iff.mp hf
          refine ry_call rfl rfl rfl rfl rfl (tX12_settle hv13) ?_
          refine ry_step rfl rfl ?_
          cases hf
          exact ry_ret rfl rfl
        · iterate 3 (refine ry_step rfl rfl ?_)
          obtain ⟨S16, hv15, hf⟩ := Option.bind_eq_some_iff.mp hf
          refine ry_call rfl rfl rfl rfl rfl (tX12_emit hv15) ?_
          iterate 2 (refine ry_step rfl rfl ?_)
          obtain ⟨S18, hv17, hf⟩ := Option.bind_eq_some_iff.mp hf
          refine ry_call rfl rfl rfl rfl rfl (tX12_settle hv17) ?_
          refine ry_step rfl rfl ?_
          cases hf
          exact ry_ret rfl rfl
      · iterate 3 (refine ry_step rfl rfl ?_)
        obtain ⟨u20, hv19, hf⟩ := Option.bind_eq_some_iff.mp hf
        refine ry_call rfl rfl rfl rfl rfl (tX12_openAt hv19) ?_
        refine ry_step rfl rfl ?_
        refine ry_iast hf rfl rfl (fun j23 S21 hf => ?_)
        iterate 2 (refine ry_step rfl rfl ?_)
        refine ry_stepS hf rfl rfl (fun S22 hf => ?_)
        refine ry_step rfl rfl ?_
        cases hf
        exact ry_ret rfl rfl
    · refine ry_step rfl rfl ?_
      cases hf
      exact ry_ret rfl rfl
  · iterate 2 (refine ry_step rfl rfl ?_)
    refine ry_call rfl rfl rfl rfl rfl tX12_rank ?_
    iterate 2 (refine ry_step rfl rfl ?_)
    refine ry_br hf (fun hc hf => ?_) (fun hc hf => ?_)
    · refine ry_step rfl rfl ?_
      refine ry_call rfl rfl rfl rfl rfl tX12_rank ?_
      obtain ⟨S25, hv24, hf⟩ := Option.bind_eq_some_iff.mp hf
      refine ry_call rfl rfl rfl rfl rfl (tX12_settle hv24) ?_
      iterate 5 (refine ry_step rfl rfl ?_)
      refine ry_iast hf rfl rfl (fun j31 S26 hf => ?_)
      iterate 5 (refine ry_step rfl rfl ?_)
      refine ry_stepS hf rfl rfl (fun S27 hf => ?_)
      iterate 2 (refine ry_step rfl rfl ?_)
      refine ry_stepS hf rfl rfl (fun S28 hf => ?_)
      refine ry_step rfl rfl ?_
      obtain ⟨S30, hv29, hf⟩ := Option.bind_eq_some_iff.mp hf
      refine ry_call rfl rfl rfl rfl rfl (tX12_nextToken hv29) ?_
      refine ry_step rfl rfl ?_
      cases hf
      exact ry_ret rfl rfl
    · iterate 2 (refine ry_step rfl rfl ?_)
      obtain ⟨S33, hv32, hf⟩ := Option.bind_eq_some_iff.mp hf
      refine ry_call rfl rfl rfl rfl rfl (tX12_settle hv32) ?_
      iterate 5 (refine ry_step rfl rfl ?_)
      refine ry_iast hf rfl rfl (fun j39 S34 hf => ?_)
      iterate 5 (refine ry_step rfl rfl ?_)
      refine ry_stepS hf rfl rfl (fun S35 hf => ?_)
      iterate 2 (refine ry_step rfl rfl ?_)
      refine ry_stepS hf rfl rfl (fun S36 hf => ?_)
      refine ry_step rfl rfl ?_
      obtain ⟨S38, hv37, hf⟩ := Option.bind_eq_some_iff.mp hf
      refine ry_call rfl rfl rfl rfl rfl (tX12_nextToken hv37) ?_
      refine ry_step rfl rfl ?_
      cases hf
      exact ry_ret rfl rfl
def lX12_summed (N : Nat) : Nat → yS → Option (Int32 × yS)
  | 0, _ => none
  | n + 1, S => (if (S.1 265 18) = 0 then (fX12_beginOne N  S).bind fun (u6, S5) => (if u6 = 0 then lX12_summed N n  S5 else some (u6, S5)) else (fX12_behindOne N  S).bind fun (u9, S8) => (if u9 = 0 then (fX12_openNow N  S8).bind fun u11 => (if u11 < 0 then (fX12_settle N (Int32.ofInt 1) S8).bind fun S13 => some ((Int32.ofInt 0), S13) else some ((Int32.ofInt 1), S8)) else lX12_summed N n  S8))
set_option maxRecDepth 4000 in
theorem uX12_summed {ro : xRo} {T : yK} {d N : Nat} : ∀ n : Nat, (∀  (S : yS) {q : Int32} {S' : yS}, lX12_summed N n  S = some (q, S') → ∀ z, Ry ro xNo (yKx T) z (d + 7) mX12_summed 15 [(0, .ref 265)] [] S (some (.int q), yH (yKx T) z S')) := by
  intro n
  induction n with
  | zero => exact (by intro _ _ _ hf; cases hf)
  | succ n ih =>
    intro  S q S' hf z
    unfold lX12_summed at hf
    iterate 3 (refine ry_step rfl rfl ?_)
    refine ry_br hf (fun hc hf => ?_) (fun hc hf => ?_)
    · refine ry_step rfl rfl ?_
      obtain ⟨⟨u6, S5⟩, hv4, hf⟩ := Option.bind_eq_some_iff.mp hf
      dsimp only at hf
      refine ry_call rfl rfl rfl rfl rfl (tX12_beginOne hv4) ?_
      iterate 3 (refine ry_step rfl rfl ?_)
      refine ry_br hf (fun hc hf => ?_) (fun hc hf => ?_)
      · refine ry_step rfl rfl ?_
        refine ry_sub [1] rfl rfl ?_
        exact ih  S5 hf _
      · refine ry_step rfl rfl ?_
        cases hf
        exact ry_ret rfl rfl
    · refine ry_step rfl rfl ?_
      obtain ⟨⟨u9, S8⟩, hv7, hf⟩ := Option.bind_eq_some_iff.mp hf
      dsimp only at hf
      refine ry_call rfl rfl rfl rfl rfl (tX12_behindOne hv7) ?_
      refine ry_step rfl rfl ?_
      refine ry_br hf (fun hc hf => ?_) (fun hc hf => ?_)
      · refine ry_step rfl rfl ?_
        obtain ⟨u11, hv10, hf⟩ := Option.bind_eq_some_iff.mp hf
        refine ry_call rfl rfl rfl rfl rfl (tX12_openNow hv10) ?_
        refine ry_step rfl rfl ?_
        refine ry_br hf (fun hc hf => ?_) (fun hc hf => ?_)
        · iterate 2 (refine ry_step rfl rfl ?_)
          obtain ⟨S13, hv12, hf⟩ := Option.bind_eq_some_iff.mp hf
          refine ry_call rfl rfl rfl rfl rfl (tX12_settle hv12) ?_
          refine ry_step rfl rfl ?_
          cases hf
          exact ry_ret rfl rfl
        · refine ry_step rfl rfl ?_
          cases hf
          exact ry_ret rfl rfl
      · refine ry_step rfl rfl ?_
        refine ry_sub [0] rfl rfl ?_
        exact ih  S8 hf _
def fX12_summed (N : Nat) (S : yS) : Option (Int32 × yS) := pSt (ySi S 265 16 (Int32.ofInt 0)) fun S1 => pSt (ySi S1 265 17 (Int32.ofInt 0)) fun S2 => pSt (ySi S2 265 18 (Int32.ofInt 0)) fun S3 => lX12_summed N N  S3
set_option maxRecDepth 4000 in
theorem tX12_summed {ro : xRo} {T : yK} {S : yS} {d N : Nat} {q : Int32} {S' : yS} (hf : fX12_summed N  S = some (q, S')) : yEv ro xNo (yKx T) (d + 8) jX12_summed [.ref 265] S (some (.int q)) S' := by
  refine ry_meth pX12_summed rfl (fun z => ?_)
  unfold fX12_summed at hf
  iterate 2 (refine ry_step rfl rfl ?_)
  refine ry_stepS hf rfl rfl (fun S1 hf => ?_)
  iterate 2 (refine ry_step rfl rfl ?_)
  refine ry_stepS hf rfl rfl (fun S2 hf => ?_)
  iterate 2 (refine ry_step rfl rfl ?_)
  refine ry_stepS hf rfl rfl (fun S3 hf => ?_)
  refine ry_sub [0] rfl rfl ?_
  exact uX12_summed (ro := ro) _  S3 hf _
def fX12_figure (N : Nat) (v0 : Int32) (v1 : Int32) (v2 : Int32) (S : yS) : Option (Int32 × yS) := (if (S.1 265 9) = (Int32.ofInt 1) then (if ¬ (fX12_isIn (S.1 265 10) v1 v2) = 0 then (ain 2724 v0).bind fun j4 => pSt (ySa S 268 (upd (S.2.2.1 268) j4 (S.1 265 10))) fun S1 => (fX12_nextToken N  S1).bind fun S3 => some ((Int32.ofInt 0), S3) else some ((Int32.ofInt 2), S)) else some ((Int32.ofInt 1), S))
set_option maxRecDepth 4000 in
theorem tX12_figure {ro : xRo} {T : yK} {S : yS} {d N : Nat} {v0 : Int32} {v1 : Int32} {v2 : Int32} {q : Int32} {S' : yS} (hf : fX12_figure N v0 v1 v2 S = some (q, S')) : yEv ro xNo (yKx T) (d + 3) jX12_figure [.ref 265, .int v0, .int v1, .int v2] S (some (.int q)) S' := by
  refine ry_meth pX12_figure rfl (fun z => ?_)
  unfold fX12_figure at hf
  iterate 4 (refine ry_step rfl rfl ?_)
  refine ry_br hf (fun hc hf => ?_) (fun hc hf => ?_)
  · iterate 4 (refine ry_step rfl rfl ?_)
    refine ry_call rfl rfl rfl rfl rfl tX12_isIn ?_
    refine ry_step rfl rfl ?_
    refine ry_br hf (fun hc hf => ?_) (fun hc hf => ?_)
    · iterate 5 (refine ry_step rfl rfl ?_)
      refine ry_iast hf rfl rfl (fun j4 S1 hf => ?_)
      refine ry_step rfl rfl ?_
      obtain ⟨S3, hv2, hf⟩ := Option.bind_eq_some_iff.mp hf
      refine ry_call rfl rfl rfl rfl rfl (tX12_nextToken hv2) ?_
      refine ry_step rfl rfl ?_
      cases hf
      exact ry_ret rfl rfl
    · refine ry_step rfl rfl ?_
      cases hf
      exact ry_ret rfl rfl
  · refine ry_step rfl rfl ?_
    cases hf
    exact ry_ret rfl rfl
def fX12_lawClause (N : Nat) (v0 : Int32) (S : yS) : Option (Int32 × yS) := (ain 2724 (v0 + (Int32.ofInt 1))).bind fun j7 => pSt (ySa S 268 (upd (S.2.2.1 268) j7 (S.1 265 13))) fun S1 => (fX12_summed N  S1).bind fun (u4, S3) => (ain 2724 (v0 + (Int32.ofInt 2))).bind fun j6 => pSt (ySa S3 268 (upd (S3.2.2.1 268) j6 (S3.1 265 13))) fun S5 => some (u4, S5)
set_option maxRecDepth 4000 in
theorem tX12_lawClause {ro : xRo} {T : yK} {S : yS} {d N : Nat} {v0 : Int32} {q : Int32} {S' : yS} (hf : fX12_lawClause N v0 S = some (q, S')) : yEv ro xNo (yKx T) (d + 9) jX12_lawClause [.ref 265, .int v0] S (some (.int q)) S' := by
  refine ry_meth pX12_lawClause rfl (fun z => ?_)
  unfold fX12_lawClause at hf
  iterate 7 (refine ry_step rfl rfl ?_)
  refine ry_iast hf rfl rfl (fun j7 S1 hf => ?_)
  refine ry_step rfl rfl ?_
  obtain ⟨⟨u4, S3⟩, hv2, hf⟩ := Option.bind_eq_some_iff.mp hf
  dsimp only at hf
  refine ry_call rfl rfl rfl rfl rfl (tX12_summed hv2) ?_
  iterate 8 (refine ry_step rfl rfl ?_)
  refine ry_iast hf rfl rfl (fun j6 S5 hf => ?_)
  refine ry_step rfl rfl ?_
  cases hf
  exact ry_ret rfl rfl
def fX12_pair (N : Nat) (v0 : Int32) (v1 : Int32) (v2 : Int32) (v3 : Int64) (v4 : Int32) (S : yS) : Option (Int32 × yS) := (fX12_figure N (v0 + (Int32.ofInt 1)) v1 v2 S).bind fun (u3, S2) => (if u3 = 0 then (fX12_isWord v3 S2).bind fun u5 => (if ¬ u5 = 0 then (fX12_nextToken N  S2).bind fun S7 => (fX12_figure N (v0 + (Int32.ofInt 2)) (Int32.ofInt 0) v4 S7).bind fun (u10, S9) => some (u10, S9) else some ((Int32.ofInt 1), S2)) else some (u3, S2))
set_option maxRecDepth 4000 in
theorem tX12_pair {ro : xRo} {T : yK} {S : yS} {d N : Nat} {v0 : Int32} {v1 : Int32} {v2 : Int32} {v3 : Int64} {v4 : Int32} {q : Int32} {S' : yS} (hf : fX12_pair N v0 v1 v2 v3 v4 S = some (q, S')) : yEv ro xNo (yKx T) (d + 4) jX12_pair [.ref 265, .int v0, .int v1, .int v2, .long v3, .int v4] S (some (.int q)) S' := by
  refine ry_meth pX12_pair rfl (fun z => ?_)
  unfold fX12_pair at hf
  iterate 6 (refine ry_step rfl rfl ?_)
  obtain ⟨⟨u3, S2⟩, hv1, hf⟩ := Option.bind_eq_some_iff.mp hf
  dsimp only at hf
  refine ry_call rfl rfl rfl rfl rfl (tX12_figure hv1) ?_
  iterate 3 (refine ry_step rfl rfl ?_)
  refine ry_br hf (fun hc hf => ?_) (fun hc hf => ?_)
  · iterate 2 (refine ry_step rfl rfl ?_)
    obtain ⟨u5, hv4, hf⟩ := Option.bind_eq_some_iff.mp hf
    refine ry_call rfl rfl rfl rfl rfl (tX12_isWord hv4) ?_
    refine ry_step rfl rfl ?_
    refine ry_br hf (fun hc hf => ?_) (fun hc hf => ?_)
    · refine ry_step rfl rfl ?_
      obtain ⟨S7, hv6, hf⟩ := Option.bind_eq_some_iff.mp hf
      refine ry_call rfl rfl rfl rfl rfl (tX12_nextToken hv6) ?_
      iterate 6 (refine ry_step rfl rfl ?_)
      obtain ⟨⟨u10, S9⟩, hv8, hf⟩ := Option.bind_eq_some_iff.mp hf
      dsimp only at hf
      refine ry_call rfl rfl rfl rfl rfl (tX12_figure hv8) ?_
      cases hf
      exact ry_ret rfl rfl
    · refine ry_step rfl rfl ?_
      cases hf
      exact ry_ret rfl rfl
  · refine ry_step rfl rfl ?_
    cases hf
    exact ry_ret rfl rfl
def fX12_body (N : Nat) (v0 : Int32) (v1 : Int32) (S : yS) : Option (Int32 × yS) := (if v0 = (Int32.ofInt 2) then (fX12_pair N v1 (Int32.ofInt 1) (Int32.ofInt 12) (fX12_w4 (Int32.ofInt 111) (Int32.ofInt 100) (Int32.ofInt 100) (Int32.ofInt 115)) (Int32.ofInt 10) S).bind fun (u21, S20) => some (u21, S20) else (if v0 = (Int32.ofInt 3) then (fX12_pair N v1 (Int32.ofInt 0) (Int32.ofInt 8) (fX12_w2 (Int32.ofInt 98) (Int32.ofInt 121)) (Int32.ofInt 9) S).bind fun (u18, S17) => some (u18, S17) else (if v0 = (Int32.ofInt 4) then (fX12_figure N (v1 + (Int32.ofInt 1)) (Int32.ofInt 0) (Int32.ofInt 7) S).bind fun (u15, S14) => some (u15, S14) else (if v0 = (Int32.ofInt 5) then (fX12_figure N (v1 + (Int32.ofInt 1)) (Int32.ofInt 0) (Int32.ofInt 7) S).bind fun (u12, S11) => some (u12, S11) else (if v0 = (Int32.ofInt 6) then (fX12_figure N (v1 + (Int32.ofInt 1)) (Int32.ofInt 1) (Int32.ofInt 999) S).bind fun (u9, S8) => some (u9, S8) else (if v0 = (Int32.ofInt 7) then (fX12_figure N (v1 + (Int32.ofInt 1)) (Int32.ofInt 1) (Int32.ofInt 60) S).bind fun (u6, S5) => some (u6, S5) else (fX12_lawClause N v1 S).bind fun (u3, S2) => some (u3, S2)))))))
set_option maxRecDepth 4000 in
theorem tX12_body {ro : xRo} {T : yK} {S : yS} {d N : Nat} {v0 : Int32} {v1 : Int32} {q : Int32} {S' : yS} (hf : fX12_body N v0 v1 S = some (q, S')) : yEv ro xNo (yKx T) (d + 10) jX12_body [.ref 265, .int v0, .int v1] S (some (.int q)) S' := by
  refine ry_meth pX12_body rfl (fun z => ?_)
  unfold fX12_body at hf
  refine ry_step rfl rfl ?_
  refine ry_sw hf (fun hf => ?_) (fun n2 hf => ?_)
  · iterate 9 (refine ry_step rfl rfl ?_)
    refine ry_call rfl rfl rfl rfl rfl tX12_w4 ?_
    refine ry_step rfl rfl ?_
    obtain ⟨⟨u21, S20⟩, hv19, hf⟩ := Option.bind_eq_some_iff.mp hf
    dsimp only at hf
    refine ry_call rfl rfl rfl rfl rfl (tX12_pair hv19) ?_
    cases hf
    exact ry_ret rfl rfl
  · refine ry_sw hf (fun hf => ?_) (fun n3 hf => ?_)
    · iterate 7 (refine ry_step rfl rfl ?_)
      refine ry_call rfl rfl rfl rfl rfl tX12_w2 ?_
      refine ry_step rfl rfl ?_
      obtain ⟨⟨u18, S17⟩, hv16, hf⟩ := Option.bind_eq_some_iff.mp hf
      dsimp only at hf
      refine ry_call rfl rfl rfl rfl rfl (tX12_pair hv16) ?_
      cases hf
      exact ry_ret rfl rfl
    · refine ry_sw hf (fun hf => ?_) (fun n4 hf => ?_)
      · iterate 7 (refine ry_step rfl rfl ?_)
        obtain ⟨⟨u15, S14⟩, hv13, hf⟩ := Option.bind_eq_some_iff.mp hf
        dsimp only at hf
        refine ry_call rfl rfl rfl rfl rfl (tX12_figure hv13) ?_
        cases hf
        exact ry_ret rfl rfl
      · refine ry_sw hf (fun hf => ?_) (fun n5 hf => ?_)
        · iterate 7 (refine ry_step rfl rfl ?_)
          obtain ⟨⟨u12, S11⟩, hv10, hf⟩ := Option.bind_eq_some_iff.mp hf
          dsimp only at hf
          refine ry_call rfl rfl rfl rfl rfl (tX12_figure hv10) ?_
          cases hf
          exact ry_ret rfl rfl
        · refine ry_sw hf (fun hf => ?_) (fun n6 hf => ?_)
          · iterate 7 (refine ry_step rfl rfl ?_)
            obtain ⟨⟨u9, S8⟩, hv7, hf⟩ := Option.bind_eq_some_iff.mp hf
            dsimp only at hf
            refine ry_call rfl rfl rfl rfl rfl (tX12_figure hv7) ?_
            cases hf
            exact ry_ret rfl rfl
          · refine ry_sw hf (fun hf => ?_) (fun n7 hf => ?_)
            · iterate 7 (refine ry_step rfl rfl ?_)
              obtain ⟨⟨u6, S5⟩, hv4, hf⟩ := Option.bind_eq_some_iff.mp hf
              dsimp only at hf
              refine ry_call rfl rfl rfl rfl rfl (tX12_figure hv4) ?_
              cases hf
              exact ry_ret rfl rfl
            · have m2 := xne_toInt (k := 2) rfl n2
              have m3 := xne_toInt (k := 3) rfl n3
              have m4 := xne_toInt (k := 4) rfl n4
              have m5 := xne_toInt (k := 5) rfl n5
              have m6 := xne_toInt (k := 6) rfl n6
              have m7 := xne_toInt (k := 7) rfl n7
              refine ry_tb rfl (by omega) ?_
              iterate 2 (refine ry_step rfl rfl ?_)
              obtain ⟨⟨u3, S2⟩, hv1, hf⟩ := Option.bind_eq_some_iff.mp hf
              dsimp only at hf
              refine ry_call rfl rfl rfl rfl rfl (tX12_lawClause hv1) ?_
              cases hf
              exact ry_ret rfl rfl
def fX12_sortOf (S : yS) : Option Int32 := (fX12_isWord (fX12_w6 (Int32.ofInt 99) (Int32.ofInt 104) (Int32.ofInt 97) (Int32.ofInt 110) (Int32.ofInt 99) (Int32.ofInt 101)) S).bind fun u2 => (if u2 = 0 then (fX12_isWord (fX12_w6 (Int32.ofInt 98) (Int32.ofInt 114) (Int32.ofInt 105) (Int32.ofInt 110) (Int32.ofInt 103) (Int32.ofInt 115)) S).bind fun u4 => (if u4 = 0 then (fX12_isWord (fX12_w4 (Int32.ofInt 98) (Int32.ofInt 105) (Int32.ofInt 114) (Int32.ofInt 100)) S).bind fun u6 => (if u6 = 0 then (fX12_isWord (fX12_w5 (Int32.ofInt 114) (Int32.ofInt 104) (Int32.ofInt 121) (Int32.ofInt 109) (Int32.ofInt 101)) S).bind fun u8 => (if u8 = 0 then (fX12_isWord (fX12_w4 (Int32.ofInt 116) (Int32.ofInt 104) (Int32.ofInt 105) (Int32.ofInt 110)) S).bind fun u10 => (if u10 = 0 then (fX12_isWord (fX12_w4 (Int32.ofInt 99) (Int32.ofInt 97) (Int32.ofInt 108) (Int32.ofInt 108)) S).bind fun u12 => (if u12 = 0 then (fX12_isWord (fX12_w5 (Int32.ofInt 103) (Int32.ofInt 114) (Int32.ofInt 97) (Int32.ofInt 110) (Int32.ofInt 116)) S).bind fun u14 => (if u14 = 0 then (fX12_isWord (fX12_w3 (Int32.ofInt 100) (Int32.ofInt 97) (Int32.ofInt 121)) S).bind fun u16 => (if u16 = 0 then some (Int32.ofInt (-1)) else some (Int32.ofInt 7)) else some (Int32.ofInt 6)) else some (Int32.ofInt 5)) else some (Int32.ofInt 4)) else some (Int32.ofInt 3)) else some (Int32.ofInt 2)) else some (Int32.ofInt 1)) else some (Int32.ofInt 0))
set_option maxRecDepth 4000 in
theorem tX12_sortOf {ro : xRo} {T : yK} {S : yS} {d : Nat} {q : Int32} (hf : fX12_sortOf  S = some q) : yEv ro xNo (yKx T) (d + 6) jX12_sortOf [.ref 265] S (some (.int q)) S := by
  refine ry_meth pX12_sortOf rfl (fun z => ?_)
  unfold fX12_sortOf at hf
  iterate 7 (refine ry_step rfl rfl ?_)
  refine ry_call rfl rfl rfl rfl rfl tX12_w6 ?_
  obtain ⟨u2, hv1, hf⟩ := Option.bind_eq_some_iff.mp hf
  refine ry_call rfl rfl rfl rfl rfl (tX12_isWord hv1) ?_
  refine ry_step rfl rfl ?_
  refine ry_br hf (fun hc hf => ?_) (fun hc hf => ?_)
  · iterate 7 (refine ry_step rfl rfl ?_)
    refine ry_call rfl rfl rfl rfl rfl tX12_w6 ?_
    obtain ⟨u4, hv3, hf⟩ := Option.bind_eq_some_iff.mp hf
    refine ry_call rfl rfl rfl rfl rfl (tX12_isWord hv3) ?_
    refine ry_step rfl rfl ?_
    refine ry_br hf (fun hc hf => ?_) (fun hc hf => ?_)
    · iterate 5 (refine ry_step rfl rfl ?_)
      refine ry_call rfl rfl rfl rfl rfl tX12_w4 ?_
      obtain ⟨u6, hv5, hf⟩ := Option.bind_eq_some_iff.mp hf
      refine ry_call rfl rfl rfl rfl rfl (tX12_isWord hv5) ?_
      refine ry_step rfl rfl ?_
      refine ry_br hf (fun hc hf => ?_) (fun hc hf => ?_)
      · iterate 6 (refine ry_step rfl rfl ?_)
        refine ry_call rfl rfl rfl rfl rfl tX12_w5 ?_
        obtain ⟨u8, hv7, hf⟩ := Option.bind_eq_some_iff.mp hf
        refine ry_call rfl rfl rfl rfl rfl (tX12_isWord hv7) ?_
        refine ry_step rfl rfl ?_
        refine ry_br hf (fun hc hf => ?_) (fun hc hf => ?_)
        · iterate 5 (refine ry_step rfl rfl ?_)
          refine ry_call rfl rfl rfl rfl rfl tX12_w4 ?_
          obtain ⟨u10, hv9, hf⟩ := Option.bind_eq_some_iff.mp hf
          refine ry_call rfl rfl rfl rfl rfl (tX12_isWord hv9) ?_
          refine ry_step rfl rfl ?_
          refine ry_br hf (fun hc hf => ?_) (fun hc hf => ?_)
          · iterate 5 (refine ry_step rfl rfl ?_)
            refine ry_call rfl rfl rfl rfl rfl tX12_w4 ?_
            obtain ⟨u12, hv11, hf⟩ := Option.bind_eq_some_iff.mp hf
            refine ry_call rfl rfl rfl rfl rfl (tX12_isWord hv11) ?_
            refine ry_step rfl rfl ?_
            refine ry_br hf (fun hc hf => ?_) (fun hc hf => ?_)
            · iterate 6 (refine ry_step rfl rfl ?_)
              refine ry_call rfl rfl rfl rfl rfl tX12_w5 ?_
              obtain ⟨u14, hv13, hf⟩ := Option.bind_eq_some_iff.mp hf
              refine ry_call rfl rfl rfl rfl rfl (tX12_isWord hv13) ?_
              refine ry_step rfl rfl ?_
              refine ry_br hf (fun hc hf => ?_) (fun hc hf => ?_)
              · iterate 4 (refine ry_step rfl rfl ?_)
                refine ry_call rfl rfl rfl rfl rfl tX12_w3 ?_
                obtain ⟨u16, hv15, hf⟩ := Option.bind_eq_some_iff.mp hf
                refine ry_call rfl rfl rfl rfl rfl (tX12_isWord hv15) ?_
                refine ry_step rfl rfl ?_
                refine ry_br hf (fun hc hf => ?_) (fun hc hf => ?_)
                · refine ry_step rfl rfl ?_
                  cases hf
                  exact ry_ret rfl rfl
                · iterate 2 (refine ry_step rfl rfl ?_)
                  cases hf
                  exact ry_ret rfl rfl
              · iterate 2 (refine ry_step rfl rfl ?_)
                cases hf
                exact ry_ret rfl rfl
            · refine ry_step rfl rfl ?_
              cases hf
              exact ry_ret rfl rfl
          · refine ry_step rfl rfl ?_
            cases hf
            exact ry_ret rfl rfl
        · refine ry_step rfl rfl ?_
          cases hf
          exact ry_ret rfl rfl
      · refine ry_step rfl rfl ?_
        cases hf
        exact ry_ret rfl rfl
    · refine ry_step rfl rfl ?_
      cases hf
      exact ry_ret rfl rfl
  · refine ry_step rfl rfl ?_
    cases hf
    exact ry_ret rfl rfl
def fX12_clause (N : Nat) (S : yS) : Option (Int32 × yS) := (fX12_sortOf  S).bind fun u2 => (if 0 ≤ u2 then (if (Int32.ofInt 1) < u2 then (ain 2724 (S.1 265 12)).bind fun j3 => (if ¬ (S.2.2.1 268 j3) = (Int32.ofInt 24) then (if (Int32.ofInt 1) < u2 then pSt (ySi S 265 14 u2) fun S4 => (fX12_nextToken N  S4).bind fun S6 => pSt (((S6.1 265 12) + (Int32.ofInt 1)) + ((Int32.ofInt 3) * (S.2.2.1 268 j3))) fun w7 => (ain 2724 w7).bind fun j17 => pSt (ySa S6 268 (upd (S6.2.2.1 268) j17 u2)) fun S8 => (fX12_body N u2 w7 S8).bind fun (u11, S10) => (if u11 = 0 then (ain 2724 (S10.1 265 12)).bind fun j12 => (ain 2724 (S10.1 265 12)).bind fun j16 => pSt (ySa S10 268 (upd (S10.2.2.1 268) j16 ((S10.2.2.1 268 j12) + (Int32.ofInt 1)))) fun S13 => (if (S13.1 265 9) = (Int32.ofInt 59) then (fX12_nextToken N  S13).bind fun S15 => some ((Int32.ofInt 0), S15) else some ((Int32.ofInt 1), S13)) else some (u11, S10)) else pSt (ySi S 265 19 ((S.1 265 19) ||| ((Int32.ofInt 1) <<< (u2 &&& 31)))) fun S18 => pSt (ySi S18 265 14 u2) fun S19 => (fX12_nextToken N  S19).bind fun S21 => pSt (((S21.1 265 12) + (Int32.ofInt 1)) + ((Int32.ofInt 3) * (S.2.2.1 268 j3))) fun w22 => (ain 2724 w22).bind fun j32 => pSt (ySa S21 268 (upd (S21.2.2.1 268) j32 u2)) fun S23 => (fX12_body N u2 w22 S23).bind fun (u26, S25) => (if u26 = 0 then (ain 2724 (S25.1 265 12)).bind fun j27 => (ain 2724 (S25.1 265 12)).bind fun j31 => pSt (ySa S25 268 (upd (S25.2.2.1 268) j31 ((S25.2.2.1 268 j27) + (Int32.ofInt 1)))) fun S28 => (if (S28.1 265 9) = (Int32.ofInt 59) then (fX12_nextToken N  S28).bind fun S30 => some ((Int32.ofInt 0), S30) else some ((Int32.ofInt 1), S28)) else some (u26, S25))) else some ((Int32.ofInt 6), S)) else (if (fX12_has (S.1 265 19) u2) = 0 then (ain 2724 (S.1 265 12)).bind fun j33 => (if ¬ (S.2.2.1 268 j33) = (Int32.ofInt 24) then (if (Int32.ofInt 1) < u2 then pSt (ySi S 265 14 u2) fun S34 => (fX12_nextToken N  S34).bind fun S36 => pSt (((S36.1 265 12) + (Int32.ofInt 1)) + ((Int32.ofInt 3) * (S.2.2.1 268 j33))) fun w37 => (ain 2724 w37).bind fun j47 => pSt (ySa S36 268 (upd (S36.2.2.1 268) j47 u2)) fun S38 => (fX12_body N u2 w37 S38).bind fun (u41, S40) => (if u41 = 0 then (ain 2724 (S40.1 265 12)).bind fun j42 => (ain 2724 (S40.1 265 12)).bind fun j46 => pSt (ySa S40 268 (upd (S40.2.2.1 268) j46 ((S40.2.2.1 268 j42) + (Int32.ofInt 1)))) fun S43 => (if (S43.1 265 9) = (Int32.ofInt 59) then (fX12_nextToken N  S43).bind fun S45 => some ((Int32.ofInt 0), S45) else some ((Int32.ofInt 1), S43)) else some (u41, S40)) else pSt (ySi S 265 19 ((S.1 265 19) ||| ((Int32.ofInt 1) <<< (u2 &&& 31)))) fun S48 => pSt (ySi S48 265 14 u2) fun S49 => (fX12_nextToken N  S49).bind fun S51 => pSt (((S51.1 265 12) + (Int32.ofInt 1)) + ((Int32.ofInt 3) * (S.2.2.1 268 j33))) fun w52 => (ain 2724 w52).bind fun j62 => pSt (ySa S51 268 (upd (S51.2.2.1 268) j62 u2)) fun S53 => (fX12_body N u2 w52 S53).bind fun (u56, S55) => (if u56 = 0 then (ain 2724 (S55.1 265 12)).bind fun j57 => (ain 2724 (S55.1 265 12)).bind fun j61 => pSt (ySa S55 268 (upd (S55.2.2.1 268) j61 ((S55.2.2.1 268 j57) + (Int32.ofInt 1)))) fun S58 => (if (S58.1 265 9) = (Int32.ofInt 59) then (fX12_nextToken N  S58).bind fun S60 => some ((Int32.ofInt 0), S60) else some ((Int32.ofInt 1), S58)) else some (u56, S55))) else some ((Int32.ofInt 6), S)) else some ((Int32.ofInt 4), S))) else some ((Int32.ofInt 1), S))
set_option maxRecDepth 4000 in
theorem tX12_clause {ro : xRo} {T : yK} {S : yS} {d N : Nat} {q : Int32} {S' : yS} (hf : fX12_clause N  S = some (q, S')) : yEv ro xNo (yKx T) (d + 11) jX12_clause [.ref 265] S (some (.int q)) S' := by
  refine ry_meth pX12_clause rfl (fun z => ?_)
  unfold fX12_clause at hf
  refine ry_step rfl rfl ?_
  obtain ⟨u2, hv1, hf⟩ := Option.bind_eq_some_iff.mp hf
  refine ry_call rfl rfl rfl rfl rfl (tX12_sortOf hv1) ?_
  iterate 3 (refine ry_step rfl rfl ?_)
  refine ry_br hf (fun hc hf => ?_) (fun hc hf => ?_)
  · iterate 3 (refine ry_step rfl rfl ?_)
    refine ry_br hf (fun hc hf => ?_) (fun hc hf => ?_)
    · iterate 4 (refine ry_step rfl rfl ?_)
      refine ry_iald hf rfl rfl rfl (fun j3 hf => ?_)
      iterate 4 (refine ry_step rfl rfl ?_)
      refine ry_br hf (fun hc hf => ?_) (fun hc hf => ?_)
      · iterate 3 (refine ry_step rfl rfl ?_)
        refine ry_br hf (fun hc hf => ?_) (fun hc hf => ?_)
        · iterate 2 (refine ry_step rfl rfl ?_)
          refine ry_stepS hf rfl rfl (fun S4 hf => ?_)
          refine ry_step rfl rfl ?_
          obtain ⟨S6, hv5, hf⟩ := Option.bind_eq_some_iff.mp hf
          refine ry_call rfl rfl rfl rfl rfl (tX12_nextToken hv5) ?_
          iterate 8 (refine ry_step rfl rfl ?_)
          refine ry_nmi hf (fun w7 hf => ?_)
          iterate 5 (refine ry_step rfl rfl ?_)
          refine ry_iast hf rfl rfl (fun j17 S8 hf => ?_)
          iterate 3 (refine ry_step rfl rfl ?_)
          obtain ⟨⟨u11, S10⟩, hv9, hf⟩ := Option.bind_eq_some_iff.mp hf
          dsimp only at hf
          refine ry_call rfl rfl rfl rfl rfl (tX12_body hv9) ?_
          iterate 3 (refine ry_step rfl rfl ?_)
          refine ry_br hf (fun hc hf => ?_) (fun hc hf => ?_)
          · iterate 5 (refine ry_step rfl rfl ?_)
            refine ry_iald hf rfl rfl rfl (fun j12 hf => ?_)
            iterate 2 (refine ry_step rfl rfl ?_)
            refine ry_iast hf rfl rfl (fun j16 S13 hf => ?_)
            iterate 4 (refine ry_step rfl rfl ?_)
            refine ry_br hf (fun hc hf => ?_) (fun hc hf => ?_)
            · refine ry_step rfl rfl ?_
              obtain ⟨S15, hv14, hf⟩ := Option.bind_eq_some_iff.mp hf
              refine ry_call rfl rfl rfl rfl rfl (tX12_nextToken hv14) ?_
              refine ry_step rfl rfl ?_
              cases hf
              exact ry_ret rfl rfl
            · refine ry_step rfl rfl ?_
              cases hf
              exact ry_ret rfl rfl
          · refine ry_step rfl rfl ?_
            cases hf
            exact ry_ret rfl rfl
        · iterate 7 (refine ry_step rfl rfl ?_)
          refine ry_stepS hf rfl rfl (fun S18 hf => ?_)
          iterate 2 (refine ry_step rfl rfl ?_)
          refine ry_stepS hf rfl rfl (fun S19 hf => ?_)
          refine ry_step rfl rfl ?_
          obtain ⟨S21, hv20, hf⟩ := Option.bind_eq_some_iff.mp hf
          refine ry_call rfl rfl rfl rfl rfl (tX12_nextToken hv20) ?_
          iterate 8 (refine ry_step rfl rfl ?_)
          refine ry_nmi hf (fun w22 hf => ?_)
          iterate 5 (refine ry_step rfl rfl ?_)
          refine ry_iast hf rfl rfl (fun j32 S23 hf => ?_)
          iterate 3 (refine ry_step rfl rfl ?_)
          obtain ⟨⟨u26, S25⟩, hv24, hf⟩ := Option.bind_eq_some_iff.mp hf
          dsimp only at hf
          refine ry_call rfl rfl rfl rfl rfl (tX12_body hv24) ?_
          iterate 3 (refine ry_step rfl rfl ?_)
          refine ry_br hf (fun hc hf => ?_) (fun hc hf => ?_)
          · iterate 5 (refine ry_step rfl rfl ?_)
            refine ry_iald hf rfl rfl rfl (fun j27 hf => ?_)
            iterate 2 (refine ry_step rfl rfl ?_)
            refine ry_iast hf rfl rfl (fun j31 S28 hf => ?_)
            iterate 4 (refine ry_step rfl rfl ?_)
            refine ry_br hf (fun hc hf => ?_) (fun hc hf => ?_)
            · refine ry_step rfl rfl ?_
              obtain ⟨S30, hv29, hf⟩ := Option.bind_eq_some_iff.mp hf
              refine ry_call rfl rfl rfl rfl rfl (tX12_nextToken hv29) ?_
              refine ry_step rfl rfl ?_
              cases hf
              exact ry_ret rfl rfl
            · refine ry_step rfl rfl ?_
              cases hf
              exact ry_ret rfl rfl
          · refine ry_step rfl rfl ?_
            cases hf
            exact ry_ret rfl rfl
      · refine ry_step rfl rfl ?_
        cases hf
        exact ry_ret rfl rfl
    · iterate 3 (refine ry_step rfl rfl ?_)
      refine ry_call rfl rfl rfl rfl rfl tX12_has ?_
      refine ry_step rfl rfl ?_
      refine ry_br hf (fun hc hf => ?_) (fun hc hf => ?_)
      · iterate 4 (refine ry_step rfl rfl ?_)
        refine ry_iald hf rfl rfl rfl (fun j33 hf => ?_)
        iterate 4 (refine ry_step rfl rfl ?_)
        refine ry_br hf (fun hc hf => ?_) (fun hc hf => ?_)
        · iterate 3 (refine ry_step rfl rfl ?_)
          refine ry_br hf (fun hc hf => ?_) (fun hc hf => ?_)
          · iterate 2 (refine ry_step rfl rfl ?_)
            refine ry_stepS hf rfl rfl (fun S34 hf => ?_)
            refine ry_step rfl rfl ?_
            obtain ⟨S36, hv35, hf⟩ := Option.bind_eq_some_iff.mp hf
            refine ry_call rfl rfl rfl rfl rfl (tX12_nextToken hv35) ?_
            iterate 8 (refine ry_step rfl rfl ?_)
            refine ry_nmi hf (fun w37 hf => ?_)
            iterate 5 (refine ry_step rfl rfl ?_)
            refine ry_iast hf rfl rfl (fun j47 S38 hf => ?_)
            iterate 3 (refine ry_step rfl rfl ?_)
            obtain ⟨⟨u41, S40⟩, hv39, hf⟩ := Option.bind_eq_some_iff.mp hf
            dsimp only at hf
            refine ry_call rfl rfl rfl rfl rfl (tX12_body hv39) ?_
            iterate 3 (refine ry_step rfl rfl ?_)
            refine ry_br hf (fun hc hf => ?_) (fun hc hf => ?_)
            · iterate 5 (refine ry_step rfl rfl ?_)
              refine ry_iald hf rfl rfl rfl (fun j42 hf => ?_)
              iterate 2 (refine ry_step rfl rfl ?_)
              refine ry_iast hf rfl rfl (fun j46 S43 hf => ?_)
              iterate 4 (refine ry_step rfl rfl ?_)
              refine ry_br hf (fun hc hf => ?_) (fun hc hf => ?_)
              · refine ry_step rfl rfl ?_
                obtain ⟨S45, hv44, hf⟩ := Option.bind_eq_some_iff.mp hf
                refine ry_call rfl rfl rfl rfl rfl (tX12_nextToken hv44) ?_
                refine ry_step rfl rfl ?_
                cases hf
                exact ry_ret rfl rfl
              · refine ry_step rfl rfl ?_
                cases hf
                exact ry_ret rfl rfl
            · refine ry_step rfl rfl ?_
              cases hf
              exact ry_ret rfl rfl
          · iterate 7 (refine ry_step rfl rfl ?_)
            refine ry_stepS hf rfl rfl (fun S48 hf => ?_)
            iterate 2 (refine ry_step rfl rfl ?_)
            refine ry_stepS hf rfl rfl (fun S49 hf => ?_)
            refine ry_step rfl rfl ?_
            obtain ⟨S51, hv50, hf⟩ := Option.bind_eq_some_iff.mp hf
            refine ry_call rfl rfl rfl rfl rfl (tX12_nextToken hv50) ?_
            iterate 8 (refine ry_step rfl rfl ?_)
            refine ry_nmi hf (fun w52 hf => ?_)
            iterate 5 (refine ry_step rfl rfl ?_)
            refine ry_iast hf rfl rfl (fun j62 S53 hf => ?_)
            iterate 3 (refine ry_step rfl rfl ?_)
            obtain ⟨⟨u56, S55⟩, hv54, hf⟩ := Option.bind_eq_some_iff.mp hf
            dsimp only at hf
            refine ry_call rfl rfl rfl rfl rfl (tX12_body hv54) ?_
            iterate 3 (refine ry_step rfl rfl ?_)
            refine ry_br hf (fun hc hf => ?_) (fun hc hf => ?_)
            · iterate 5 (refine ry_step rfl rfl ?_)
              refine ry_iald hf rfl rfl rfl (fun j57 hf => ?_)
              iterate 2 (refine ry_step rfl rfl ?_)
              refine ry_iast hf rfl rfl (fun j61 S58 hf => ?_)
              iterate 4 (refine ry_step rfl rfl ?_)
              refine ry_br hf (fun hc hf => ?_) (fun hc hf => ?_)
              · refine ry_step rfl rfl ?_
                obtain ⟨S60, hv59, hf⟩ := Option.bind_eq_some_iff.mp hf
                refine ry_call rfl rfl rfl rfl rfl (tX12_nextToken hv59) ?_
                refine ry_step rfl rfl ?_
                cases hf
                exact ry_ret rfl rfl
              · refine ry_step rfl rfl ?_
                cases hf
                exact ry_ret rfl rfl
            · refine ry_step rfl rfl ?_
              cases hf
              exact ry_ret rfl rfl
        · refine ry_step rfl rfl ?_
          cases hf
          exact ry_ret rfl rfl
      · refine ry_step rfl rfl ?_
        cases hf
        exact ry_ret rfl rfl
  · refine ry_step rfl rfl ?_
    cases hf
    exact ry_ret rfl rfl
def lX12_readText (N : Nat) : Nat → yS → Option (Int32 × yS)
  | 0, _ => none
  | n + 1, S => (if (S.1 265 9) = 0 then some ((Int32.ofInt 0), S) else (fX12_clause N  S).bind fun (u11, S10) => (if u11 = 0 then lX12_readText N n  S10 else some (u11, S10)))
set_option maxRecDepth 4000 in
theorem uX12_readText {ro : xRo} {T : yK} {d N : Nat} : ∀ n : Nat, (∀  (S : yS) {q : Int32} {S' : yS}, lX12_readText N n  S = some (q, S') → ∀ z, Ry ro xNo (yKx T) z (d + 11) mX12_readText 43 [(0, .ref 265)] [] S (some (.int q), yH (yKx T) z S')) := by
  intro n
  induction n with
  | zero => exact (by intro _ _ _ hf; cases hf)
  | succ n ih =>
    intro  S q S' hf z
    unfold lX12_readText at hf
    iterate 3 (refine ry_step rfl rfl ?_)
    refine ry_br hf (fun hc hf => ?_) (fun hc hf => ?_)
    · refine ry_step rfl rfl ?_
      cases hf
      exact ry_ret rfl rfl
    · refine ry_step rfl rfl ?_
      obtain ⟨⟨u11, S10⟩, hv9, hf⟩ := Option.bind_eq_some_iff.mp hf
      dsimp only at hf
      refine ry_call rfl rfl rfl rfl rfl (tX12_clause hv9) ?_
      iterate 3 (refine ry_step rfl rfl ?_)
      refine ry_br hf (fun hc hf => ?_) (fun hc hf => ?_)
      · refine ry_step rfl rfl ?_
        refine ry_sub [1] rfl rfl ?_
        exact ih  S10 hf _
      · refine ry_step rfl rfl ?_
        cases hf
        exact ry_ret rfl rfl
def fX12_readText (N : Nat) (S : yS) : Option (Int32 × yS) := pSt (ySi S 265 12 ((Int32.ofInt 681) * (S.2.2.1 266 1))) fun S1 => (ain 2724 (S1.1 265 12)).bind fun j8 => pSt (ySa S1 268 (upd (S1.2.2.1 268) j8 (Int32.ofInt 0))) fun S2 => pSt (ySi S2 265 13 (Int32.ofInt 0)) fun S3 => pSt (ySi S3 265 19 (Int32.ofInt 0)) fun S4 => pSt (ySi S4 265 7 (Int32.ofInt 0)) fun S5 => (fX12_nextToken N  S5).bind fun S7 => lX12_readText N N  S7
set_option maxRecDepth 4000 in
theorem tX12_readText {ro : xRo} {T : yK} {S : yS} {d N : Nat} {q : Int32} {S' : yS} (hf : fX12_readText N  S = some (q, S')) : yEv ro xNo (yKx T) (d + 12) jX12_readText [.ref 265] S (some (.int q)) S' := by
  refine ry_meth pX12_readText rfl (fun z => ?_)
  unfold fX12_readText at hf
  iterate 7 (refine ry_step rfl rfl ?_)
  refine ry_stepS hf rfl rfl (fun S1 hf => ?_)
  iterate 5 (refine ry_step rfl rfl ?_)
  refine ry_iast hf rfl rfl (fun j8 S2 hf => ?_)
  iterate 2 (refine ry_step rfl rfl ?_)
  refine ry_stepS hf rfl rfl (fun S3 hf => ?_)
  iterate 2 (refine ry_step rfl rfl ?_)
  refine ry_stepS hf rfl rfl (fun S4 hf => ?_)
  iterate 2 (refine ry_step rfl rfl ?_)
  refine ry_stepS hf rfl rfl (fun S5 hf => ?_)
  refine ry_step rfl rfl ?_
  obtain ⟨S7, hv6, hf⟩ := Option.bind_eq_some_iff.mp hf
  refine ry_call rfl rfl rfl rfl rfl (tX12_nextToken hv6) ?_
  refine ry_sub [0] rfl rfl ?_
  exact uX12_readText (ro := ro) _  S7 hf _
def fX12_text (N : Nat) (S : yS) : Option (Int32 × yS) := (if ¬ (S.2.2.1 266 1) = (Int32.ofInt 4) then (fX12_readText N  S).bind fun (u3, S2) => pSt (ySi S2 265 5 u3) fun S4 => (if ¬ (S4.1 265 5) = 0 then pSt (ySi S4 265 6 (S4.1 265 8)) fun S5 => pSt (ySi S5 265 4 (Int32.ofInt 0)) fun S6 => (if (S6.1 265 5) = 0 then pSt (ySa S6 266 (upd (S6.2.2.1 266) 1 ((S6.2.2.1 266 1) + (Int32.ofInt 1)))) fun S7 => some (((S7.2.2.1 266 1) - (Int32.ofInt 1)), S7) else some ((Int32.ofInt (-1)), S6)) else pSt (ySi S4 265 6 (Int32.ofInt (-1))) fun S8 => pSt (ySi S8 265 4 (Int32.ofInt 0)) fun S9 => (if (S9.1 265 5) = 0 then pSt (ySa S9 266 (upd (S9.2.2.1 266) 1 ((S9.2.2.1 266 1) + (Int32.ofInt 1)))) fun S10 => some (((S10.2.2.1 266 1) - (Int32.ofInt 1)), S10) else some ((Int32.ofInt (-1)), S9))) else some ((Int32.ofInt (-1)), S))
set_option maxRecDepth 4000 in
theorem tX12_text {ro : xRo} {T : yK} {S : yS} {d N : Nat} {q : Int32} {S' : yS} (hf : fX12_text N  S = some (q, S')) : yEv ro xNo (yKx T) (d + 13) jX12_text [.ref 265] S (some (.int q)) S' := by
  refine ry_meth pX12_text rfl (fun z => ?_)
  unfold fX12_text at hf
  iterate 6 (refine ry_step rfl rfl ?_)
  refine ry_br hf (fun hc hf => ?_) (fun hc hf => ?_)
  · iterate 2 (refine ry_step rfl rfl ?_)
    obtain ⟨⟨u3, S2⟩, hv1, hf⟩ := Option.bind_eq_some_iff.mp hf
    dsimp only at hf
    refine ry_call rfl rfl rfl rfl rfl (tX12_readText hv1) ?_
    refine ry_stepS hf rfl rfl (fun S4 hf => ?_)
    iterate 4 (refine ry_step rfl rfl ?_)
    refine ry_br hf (fun hc hf => ?_) (fun hc hf => ?_)
    · iterate 2 (refine ry_step rfl rfl ?_)
      refine ry_stepS hf rfl rfl (fun S5 hf => ?_)
      iterate 2 (refine ry_step rfl rfl ?_)
      refine ry_stepS hf rfl rfl (fun S6 hf => ?_)
      iterate 3 (refine ry_step rfl rfl ?_)
      refine ry_br hf (fun hc hf => ?_) (fun hc hf => ?_)
      · iterate 7 (refine ry_step rfl rfl ?_)
        refine ry_stepS hf rfl rfl (fun S7 hf => ?_)
        iterate 6 (refine ry_step rfl rfl ?_)
        cases hf
        exact ry_ret rfl rfl
      · refine ry_step rfl rfl ?_
        cases hf
        exact ry_ret rfl rfl
    · iterate 2 (refine ry_step rfl rfl ?_)
      refine ry_stepS hf rfl rfl (fun S8 hf => ?_)
      iterate 2 (refine ry_step rfl rfl ?_)
      refine ry_stepS hf rfl rfl (fun S9 hf => ?_)
      iterate 3 (refine ry_step rfl rfl ?_)
      refine ry_br hf (fun hc hf => ?_) (fun hc hf => ?_)
      · iterate 7 (refine ry_step rfl rfl ?_)
        refine ry_stepS hf rfl rfl (fun S10 hf => ?_)
        iterate 6 (refine ry_step rfl rfl ?_)
        cases hf
        exact ry_ret rfl rfl
      · refine ry_step rfl rfl ?_
        cases hf
        exact ry_ret rfl rfl
  · refine ry_step rfl rfl ?_
    cases hf
    exact ry_ret rfl rfl
def fX12_fault (v0 : Int32) (S : yS) : Option Int32 := (if ¬ v0 = 0 then (if ¬ v0 = (Int32.ofInt 1) then some (Int32.ofInt (-1)) else some (S.1 265 6)) else some (S.1 265 5))
set_option maxRecDepth 4000 in
theorem tX12_fault {ro : xRo} {T : yK} {S : yS} {d : Nat} {v0 : Int32} {q : Int32} (hf : fX12_fault v0 S = some q) : yEv ro xNo (yKx T) (d + 1) jX12_fault [.ref 265, .int v0] S (some (.int q)) S := by
  refine ry_meth pX12_fault rfl (fun z => ?_)
  unfold fX12_fault at hf
  iterate 2 (refine ry_step rfl rfl ?_)
  refine ry_br hf (fun hc hf => ?_) (fun hc hf => ?_)
  · iterate 3 (refine ry_step rfl rfl ?_)
    refine ry_br hf (fun hc hf => ?_) (fun hc hf => ?_)
    · refine ry_step rfl rfl ?_
      cases hf
      exact ry_ret rfl rfl
    · iterate 3 (refine ry_step rfl rfl ?_)
      cases hf
      exact ry_ret rfl rfl
  · iterate 3 (refine ry_step rfl rfl ?_)
    cases hf
    exact ry_ret rfl rfl
def fX12_by (v0 : Int32) (S : yS) : Option (Int32 × yS) := (if ¬ (fX12_isIn v0 (Int32.ofInt (-1)) ((S.2.2.1 266 1) - (Int32.ofInt 1))) = 0 then pSt (ySa S 266 (upd (S.2.2.1 266) 2 v0)) fun S1 => some ((Int32.ofInt 1), S1) else some ((Int32.ofInt 0), S))
set_option maxRecDepth 4000 in
theorem tX12_by {ro : xRo} {T : yK} {S : yS} {d : Nat} {v0 : Int32} {q : Int32} {S' : yS} (hf : fX12_by v0 S = some (q, S')) : yEv ro xNo (yKx T) (d + 2) jX12_by [.ref 265, .int v0] S (some (.int q)) S' := by
  refine ry_meth pX12_by rfl (fun z => ?_)
  unfold fX12_by at hf
  iterate 8 (refine ry_step rfl rfl ?_)
  refine ry_call rfl rfl rfl rfl rfl tX12_isIn ?_
  refine ry_step rfl rfl ?_
  refine ry_br hf (fun hc hf => ?_) (fun hc hf => ?_)
  · iterate 4 (refine ry_step rfl rfl ?_)
    refine ry_stepS hf rfl rfl (fun S1 hf => ?_)
    refine ry_step rfl rfl ?_
    cases hf
    exact ry_ret rfl rfl
  · refine ry_step rfl rfl ?_
    cases hf
    exact ry_ret rfl rfl
def fX12_two (v0 : Int32) (v1 : Int64) (v2 : Int64) (S : yS) : Option Int64 := (if v0 = (Int32.ofInt 6) then some (fX12_clip (v1 + v2)) else (if v0 = (Int32.ofInt 7) then some (fX12_clip (v1 - v2)) else (if v0 = (Int32.ofInt 8) then some (fX12_clip (v1 * v2)) else (if ¬ (lg_cmp v2 (Int64.ofNat 0)) = 0 then (if v2 = 0 then none else some (fX12_clip (v1 / v2))) else some (Int64.ofNat 0)))))
set_option maxRecDepth 4000 in
theorem tX12_two {ro : xRo} {T : yK} {S : yS} {d : Nat} {v0 : Int32} {v1 : Int64} {v2 : Int64} {q : Int64} (hf : fX12_two v0 v1 v2 S = some q) : yEv ro xNo (yKx T) (d + 2) jX12_two [.int v0, .long v1, .long v2] S (some (.long q)) S := by
  refine ry_meth pX12_two rfl (fun z => ?_)
  unfold fX12_two at hf
  refine ry_step rfl rfl ?_
  refine ry_sw hf (fun hf => ?_) (fun n6 hf => ?_)
  · iterate 4 (refine ry_step rfl rfl ?_)
    refine ry_call rfl rfl rfl rfl rfl tX12_clip ?_
    cases hf
    exact ry_ret rfl rfl
  · refine ry_sw hf (fun hf => ?_) (fun n7 hf => ?_)
    · iterate 4 (refine ry_step rfl rfl ?_)
      refine ry_call rfl rfl rfl rfl rfl tX12_clip ?_
      cases hf
      exact ry_ret rfl rfl
    · refine ry_sw hf (fun hf => ?_) (fun n8 hf => ?_)
      · iterate 4 (refine ry_step rfl rfl ?_)
        refine ry_call rfl rfl rfl rfl rfl tX12_clip ?_
        cases hf
        exact ry_ret rfl rfl
      · have m6 := xne_toInt (k := 6) rfl n6
        have m7 := xne_toInt (k := 7) rfl n7
        have m8 := xne_toInt (k := 8) rfl n8
        refine ry_tb rfl (by omega) ?_
        iterate 4 (refine ry_step rfl rfl ?_)
        refine ry_br hf (fun hc hf => ?_) (fun hc hf => ?_)
        · iterate 2 (refine ry_step rfl rfl ?_)
          refine ry_ldiv hf rfl (fun hf => ?_)
          refine ry_call rfl rfl rfl rfl rfl tX12_clip ?_
          cases hf
          exact ry_ret rfl rfl
        · iterate 2 (refine ry_step rfl rfl ?_)
          cases hf
          exact ry_ret rfl rfl
def fX12_ofOne (v0 : Int32) (v1 : Int64) (S : yS) : Option Int64 := (if ¬ v0 = (Int32.ofInt 5) then (if ¬ v0 = (Int32.ofInt 2) then (if (lg_cmp v1 (Int64.ofNat 0)) < 0 then some (Int64.ofNat 0) else (if 0 ≤ (lg_cmp v1 (Int32.toInt64 (S.2.2.1 266 0))) then some (Int64.ofNat 0) else (ain 1338 ((Int32.ofInt 13) + (Int64.toInt32 v1))).bind fun j1 => some (Int32.toInt64 (S.2.2.1 266 j1)))) else (if (lg_cmp v1 (Int64.ofNat 0)) < 0 then some (Int64.ofNat 0) else (if 0 ≤ (lg_cmp v1 (Int64.ofInt 9)) then some (Int64.ofNat 0) else (ain 1338 ((Int32.ofInt 45) + (Int64.toInt32 v1))).bind fun j2 => some (Int32.toInt64 (S.2.2.1 266 j2))))) else some (-v1))
set_option maxRecDepth 4000 in
theorem tX12_ofOne {ro : xRo} {T : yK} {S : yS} {d : Nat} {v0 : Int32} {v1 : Int64} {q : Int64} (hf : fX12_ofOne v0 v1 S = some q) : yEv ro xNo (yKx T) (d + 1) jX12_ofOne [.ref 265, .int v0, .long v1] S (some (.long q)) S := by
  refine ry_meth pX12_ofOne rfl (fun z => ?_)
  unfold fX12_ofOne at hf
  iterate 3 (refine ry_step rfl rfl ?_)
  refine ry_br hf (fun hc hf => ?_) (fun hc hf => ?_)
  · iterate 3 (refine ry_step rfl rfl ?_)
    refine ry_br hf (fun hc hf => ?_) (fun hc hf => ?_)
    · iterate 4 (refine ry_step rfl rfl ?_)
      refine ry_br hf (fun hc hf => ?_) (fun hc hf => ?_)
      · refine ry_step rfl rfl ?_
        cases hf
        exact ry_ret rfl rfl
      · iterate 8 (refine ry_step rfl rfl ?_)
        refine ry_br hf (fun hc hf => ?_) (fun hc hf => ?_)
        · refine ry_step rfl rfl ?_
          cases hf
          exact ry_ret rfl rfl
        · iterate 6 (refine ry_step rfl rfl ?_)
          refine ry_iald hf rfl rfl rfl (fun j1 hf => ?_)
          iterate 2 (refine ry_step rfl rfl ?_)
          cases hf
          exact ry_ret rfl rfl
    · iterate 4 (refine ry_step rfl rfl ?_)
      refine ry_br hf (fun hc hf => ?_) (fun hc hf => ?_)
      · refine ry_step rfl rfl ?_
        cases hf
        exact ry_ret rfl rfl
      · iterate 4 (refine ry_step rfl rfl ?_)
        refine ry_br hf (fun hc hf => ?_) (fun hc hf => ?_)
        · refine ry_step rfl rfl ?_
          cases hf
          exact ry_ret rfl rfl
        · iterate 6 (refine ry_step rfl rfl ?_)
          refine ry_iald hf rfl rfl rfl (fun j2 hf => ?_)
          iterate 2 (refine ry_step rfl rfl ?_)
          cases hf
          exact ry_ret rfl rfl
  · iterate 2 (refine ry_step rfl rfl ?_)
    cases hf
    exact ry_ret rfl rfl
def lX12_summedUp (N : Nat) : Nat → Int32 → Int32 → Int32 → Int32 → Int32 → yS → Option (Int64 × yS)
  | 0, _, _, _, _, _, _ => none
  | n + 1, l3, l4, l5, l6, l7, S => (ain 2724 (l3 + (Int32.ofInt 2))).bind fun j4 => (if (S.2.2.1 268 j4) ≤ l7 then some ((S.2.2.2.1 272 0), S) else (ain 2724 (l4 + ((Int32.ofInt 2) * l7))).bind fun j5 => (ain 2724 ((l4 + ((Int32.ofInt 2) * l7)) + (Int32.ofInt 1))).bind fun j6 => (if (Int32.ofInt 1) < (S.2.2.1 268 j5) then (if ¬ (S.2.2.1 268 j5) = (Int32.ofInt 3) then (if (Int32.ofInt 5) < (S.2.2.1 268 j5) then (if (Int32.ofInt 10) ≤ (S.2.2.1 268 j5) then (if (Int32.ofInt 20) ≤ (S.2.2.1 268 j5) then (if ¬ (S.2.2.1 268 j5) = (Int32.ofInt 20) then (ain 330 ((l6 + (Int32.ofInt (-1))) - (Int32.ofInt 1))).bind fun j7 => (ain 330 (l6 + (Int32.ofInt (-1)))).bind fun j8 => (ain 330 ((l6 + (Int32.ofInt (-1))) - (Int32.ofInt 1))).bind fun j10 => if (fX12_joined (S.2.2.1 268 j5) (S.2.2.1 273 j7) (S.2.2.1 273 j8)) = 0 ∨ (fX12_joined (S.2.2.1 268 j5) (S.2.2.1 273 j7) (S.2.2.1 273 j8)) = 1 then pSt (ySa S 273 (upd (S.2.2.1 273) j10 (fX12_joined (S.2.2.1 268 j5) (S.2.2.1 273 j7) (S.2.2.1 273 j8)))) fun S9 => lX12_summedUp N n l3 l4 l5 (l6 + (Int32.ofInt (-1))) (l7 + (Int32.ofInt 1)) S9 else none else (ain 330 (l6 - (Int32.ofInt 1))).bind fun j11 => (if ¬ (S.2.2.1 273 j11) = 0 then (ain 330 (l6 - (Int32.ofInt 1))).bind fun j13 => if (Int32.ofInt 0) = 0 ∨ (Int32.ofInt 0) = 1 then pSt (ySa S 273 (upd (S.2.2.1 273) j13 (Int32.ofInt 0))) fun S12 => lX12_summedUp N n l3 l4 l5 l6 (l7 + (Int32.ofInt 1)) S12 else none else (ain 330 (l6 - (Int32.ofInt 1))).bind fun j15 => if (Int32.ofInt 1) = 0 ∨ (Int32.ofInt 1) = 1 then pSt (ySa S 273 (upd (S.2.2.1 273) j15 (Int32.ofInt 1))) fun S14 => lX12_summedUp N n l3 l4 l5 l6 (l7 + (Int32.ofInt 1)) S14 else none)) else (ain 330 (l5 + (Int32.ofInt (-2)))).bind fun j16 => (ain 330 ((l5 + (Int32.ofInt (-2))) + (Int32.ofInt 1))).bind fun j17 => (ain 330 l6).bind fun j19 => if (fX12_isAsked (S.2.2.1 268 j5) (S.2.2.2.1 272 j16) (S.2.2.2.1 272 j17)) = 0 ∨ (fX12_isAsked (S.2.2.1 268 j5) (S.2.2.2.1 272 j16) (S.2.2.2.1 272 j17)) = 1 then pSt (ySa S 273 (upd (S.2.2.1 273) j19 (fX12_isAsked (S.2.2.1 268 j5) (S.2.2.2.1 272 j16) (S.2.2.2.1 272 j17)))) fun S18 => lX12_summedUp N n l3 l4 (l5 + (Int32.ofInt (-2))) (l6 + (Int32.ofInt 1)) (l7 + (Int32.ofInt 1)) S18 else none) else (ain 330 ((l5 + (Int32.ofInt (-1))) - (Int32.ofInt 1))).bind fun j20 => (ain 330 (l5 + (Int32.ofInt (-1)))).bind fun j21 => (fX12_two (S.2.2.1 268 j5) (S.2.2.2.1 272 j20) (S.2.2.2.1 272 j21) S).bind fun u23 => (ain 330 ((l5 + (Int32.ofInt (-1))) - (Int32.ofInt 1))).bind fun j25 => pSt (ySl S 272 (vp_updL (S.2.2.2.1 272) j25 u23)) fun S24 => lX12_summedUp N n l3 l4 (l5 + (Int32.ofInt (-1))) l6 (l7 + (Int32.ofInt 1)) S24) else (ain 330 (l5 - (Int32.ofInt 1))).bind fun j26 => (fX12_ofOne (S.2.2.1 268 j5) (S.2.2.2.1 272 j26) S).bind fun u28 => (ain 330 (l5 - (Int32.ofInt 1))).bind fun j30 => pSt (ySl S 272 (vp_updL (S.2.2.2.1 272) j30 u28)) fun S29 => lX12_summedUp N n l3 l4 l5 l6 (l7 + (Int32.ofInt 1)) S29) else (ain 330 (l6 + (Int32.ofInt (-1)))).bind fun j31 => (if ¬ (S.2.2.1 273 j31) = 0 then lX12_summedUp N n l3 l4 (l5 + (Int32.ofInt (-1))) (l6 + (Int32.ofInt (-1))) (l7 + (Int32.ofInt 1)) S else (ain 330 (l5 + (Int32.ofInt (-1)))).bind fun j32 => (ain 330 ((l5 + (Int32.ofInt (-1))) - (Int32.ofInt 1))).bind fun j34 => pSt (ySl S 272 (vp_updL (S.2.2.2.1 272) j34 (S.2.2.2.1 272 j32))) fun S33 => lX12_summedUp N n l3 l4 (l5 + (Int32.ofInt (-1))) (l6 + (Int32.ofInt (-1))) (l7 + (Int32.ofInt 1)) S33)) else (if ¬ (S.2.2.1 268 j5) = 0 then (ain 9 (S.2.2.1 268 j6)).bind fun j35 => (ain 330 l5).bind fun j37 => pSt (ySl S 272 (vp_updL (S.2.2.2.1 272) j37 (Int32.toInt64 (S.2.2.1 271 j35)))) fun S36 => lX12_summedUp N n l3 l4 (l5 + (Int32.ofInt 1)) l6 (l7 + (Int32.ofInt 1)) S36 else (ain 330 l5).bind fun j39 => pSt (ySl S 272 (vp_updL (S.2.2.2.1 272) j39 (Int32.toInt64 (S.2.2.1 268 j6)))) fun S38 => lX12_summedUp N n l3 l4 (l5 + (Int32.ofInt 1)) l6 (l7 + (Int32.ofInt 1)) S38)))
set_option maxRecDepth 4000 in
theorem uX12_summedUp {ro : xRo} {T : yK} {d N : Nat} : ∀ n : Nat, (∀ (l3 : Int32) (l4 : Int32) (l5 : Int32) (l6 : Int32) (l7 : Int32) (S : yS) {q : Int64} {S' : yS}, lX12_summedUp N n l3 l4 l5 l6 l7 S = some (q, S') → ∀ z, Ry ro xNo (yKx T) z (d + 2) mX12_summedUp 38 [(0, .ref 265), (3, .int l3), (4, .int l4), (5, .int l5), (6, .int l6), (7, .int l7)] [] S (some (.long q), yH (yKx T) z S')) := by
  intro n
  induction n with
  | zero => exact (by intro _ _ _ _ _ _ _ _ hf; cases hf)
  | succ n ih =>
    intro l3 l4 l5 l6 l7 S q S' hf z
    unfold lX12_summedUp at hf
    iterate 6 (refine ry_step rfl rfl ?_)
    refine ry_iald hf rfl rfl rfl (fun j4 hf => ?_)
    refine ry_step rfl rfl ?_
    refine ry_br hf (fun hc hf => ?_) (fun hc hf => ?_)
    · iterate 4 (refine ry_step rfl rfl ?_)
      cases hf
      exact ry_ret rfl rfl
    · iterate 7 (refine ry_step rfl rfl ?_)
      refine ry_iald hf rfl rfl rfl (fun j5 hf => ?_)
      iterate 10 (refine ry_step rfl rfl ?_)
      refine ry_iald hf rfl rfl rfl (fun j6 hf => ?_)
      iterate 4 (refine ry_step rfl rfl ?_)
      refine ry_br hf (fun hc hf => ?_) (fun hc hf => ?_)
      · iterate 3 (refine ry_step rfl rfl ?_)
        refine ry_br hf (fun hc hf => ?_) (fun hc hf => ?_)
        · iterate 3 (refine ry_step rfl rfl ?_)
          refine ry_br hf (fun hc hf => ?_) (fun hc hf => ?_)
          · iterate 3 (refine ry_step rfl rfl ?_)
            refine ry_br hf (fun hc hf => ?_) (fun hc hf => ?_)
            · iterate 3 (refine ry_step rfl rfl ?_)
              refine ry_br hf (fun hc hf => ?_) (fun hc hf => ?_)
              · iterate 3 (refine ry_step rfl rfl ?_)
                refine ry_br hf (fun hc hf => ?_) (fun hc hf => ?_)
                · iterate 12 (refine ry_step rfl rfl ?_)
                  refine ry_zald hf rfl rfl rfl (fun j7 hf => ?_)
                  iterate 3 (refine ry_step rfl rfl ?_)
                  refine ry_zald hf rfl rfl rfl (fun j8 hf => ?_)
                  refine ry_call rfl rfl rfl rfl rfl tX12_joined ?_
                  refine ry_zast (E := fun j10 S9 => lX12_summedUp N n l3 l4 l5 (l6 + (Int32.ofInt (-1))) (l7 + (Int32.ofInt 1)) S9) hf rfl rfl (fun j10 S9 hf => ?_)
                  iterate 2 (refine ry_step rfl rfl ?_)
                  refine ry_sub [4, 5, 6, 7, 1, 0] rfl rfl ?_
                  exact ih l3 l4 l5 (l6 + (Int32.ofInt (-1))) (l7 + (Int32.ofInt 1)) S9 hf _
                · iterate 10 (refine ry_step rfl rfl ?_)
                  refine ry_zald hf rfl rfl rfl (fun j11 hf => ?_)
                  refine ry_step rfl rfl ?_
                  refine ry_br hf (fun hc hf => ?_) (fun hc hf => ?_)
                  · refine ry_step rfl rfl ?_
                    refine ry_zast (E := fun j13 S12 => lX12_summedUp N n l3 l4 l5 l6 (l7 + (Int32.ofInt 1)) S12) hf rfl rfl (fun j13 S12 hf => ?_)
                    iterate 3 (refine ry_step rfl rfl ?_)
                    refine ry_sub [3, 4, 5, 6, 7, 0] rfl rfl ?_
                    exact ih l3 l4 l5 l6 (l7 + (Int32.ofInt 1)) S12 hf _
                  · iterate 2 (refine ry_step rfl rfl ?_)
                    refine ry_zast (E := fun j15 S14 => lX12_summedUp N n l3 l4 l5 l6 (l7 + (Int32.ofInt 1)) S14) hf rfl rfl (fun j15 S14 hf => ?_)
                    iterate 3 (refine ry_step rfl rfl ?_)
                    refine ry_sub [3, 4, 5, 6, 7, 0] rfl rfl ?_
                    exact ih l3 l4 l5 l6 (l7 + (Int32.ofInt 1)) S14 hf _
              · iterate 8 (refine ry_step rfl rfl ?_)
                refine ry_lald hf rfl rfl (fun j16 hf => ?_)
                iterate 5 (refine ry_step rfl rfl ?_)
                refine ry_lald hf rfl rfl (fun j17 hf => ?_)
                refine ry_call rfl rfl rfl rfl rfl tX12_isAsked ?_
                refine ry_zast (E := fun j19 S18 => lX12_summedUp N n l3 l4 (l5 + (Int32.ofInt (-2))) (l6 + (Int32.ofInt 1)) (l7 + (Int32.ofInt 1)) S18) hf rfl rfl (fun j19 S18 hf => ?_)
                iterate 4 (refine ry_step rfl rfl ?_)
                refine ry_sub [5, 6, 7, 2, 1, 0] rfl rfl ?_
                exact ih l3 l4 (l5 + (Int32.ofInt (-2))) (l6 + (Int32.ofInt 1)) (l7 + (Int32.ofInt 1)) S18 hf _
            · iterate 12 (refine ry_step rfl rfl ?_)
              refine ry_lald hf rfl rfl (fun j20 hf => ?_)
              iterate 3 (refine ry_step rfl rfl ?_)
              refine ry_lald hf rfl rfl (fun j21 hf => ?_)
              obtain ⟨u23, hv22, hf⟩ := Option.bind_eq_some_iff.mp hf
              refine ry_call rfl rfl rfl rfl rfl (tX12_two hv22) ?_
              refine ry_last hf rfl rfl (fun j25 S24 hf => ?_)
              iterate 3 (refine ry_step rfl rfl ?_)
              refine ry_sub [4, 5, 6, 1, 7, 0] rfl rfl ?_
              exact ih l3 l4 (l5 + (Int32.ofInt (-1))) l6 (l7 + (Int32.ofInt 1)) S24 hf _
          · iterate 12 (refine ry_step rfl rfl ?_)
            refine ry_lald hf rfl rfl (fun j26 hf => ?_)
            obtain ⟨u28, hv27, hf⟩ := Option.bind_eq_some_iff.mp hf
            refine ry_call rfl rfl rfl rfl rfl (tX12_ofOne hv27) ?_
            refine ry_last hf rfl rfl (fun j30 S29 hf => ?_)
            iterate 3 (refine ry_step rfl rfl ?_)
            refine ry_sub [3, 4, 5, 6, 7, 0] rfl rfl ?_
            exact ih l3 l4 l5 l6 (l7 + (Int32.ofInt 1)) S29 hf _
        · iterate 5 (refine ry_step rfl rfl ?_)
          refine ry_zald hf rfl rfl rfl (fun j31 hf => ?_)
          refine ry_step rfl rfl ?_
          refine ry_br hf (fun hc hf => ?_) (fun hc hf => ?_)
          · iterate 2 (refine ry_step rfl rfl ?_)
            refine ry_sub [5, 6, 7, 2, 1, 0] rfl rfl ?_
            exact ih l3 l4 (l5 + (Int32.ofInt (-1))) (l6 + (Int32.ofInt (-1))) (l7 + (Int32.ofInt 1)) S hf _
          · iterate 8 (refine ry_step rfl rfl ?_)
            refine ry_lald hf rfl rfl (fun j32 hf => ?_)
            refine ry_last hf rfl rfl (fun j34 S33 hf => ?_)
            iterate 3 (refine ry_step rfl rfl ?_)
            refine ry_sub [5, 6, 7, 2, 1, 0] rfl rfl ?_
            exact ih l3 l4 (l5 + (Int32.ofInt (-1))) (l6 + (Int32.ofInt (-1))) (l7 + (Int32.ofInt 1)) S33 hf _
      · iterate 5 (refine ry_step rfl rfl ?_)
        refine ry_br hf (fun hc hf => ?_) (fun hc hf => ?_)
        · iterate 3 (refine ry_step rfl rfl ?_)
          refine ry_iald hf rfl rfl rfl (fun j35 hf => ?_)
          refine ry_step rfl rfl ?_
          refine ry_last hf rfl rfl (fun j37 S36 hf => ?_)
          iterate 4 (refine ry_step rfl rfl ?_)
          refine ry_sub [4, 5, 6, 1, 7, 0] rfl rfl ?_
          exact ih l3 l4 (l5 + (Int32.ofInt 1)) l6 (l7 + (Int32.ofInt 1)) S36 hf _
        · iterate 3 (refine ry_step rfl rfl ?_)
          refine ry_last hf rfl rfl (fun j39 S38 hf => ?_)
          iterate 4 (refine ry_step rfl rfl ?_)
          refine ry_sub [4, 5, 6, 1, 7, 0] rfl rfl ?_
          exact ih l3 l4 (l5 + (Int32.ofInt 1)) l6 (l7 + (Int32.ofInt 1)) S38 hf _
def fX12_summedUp (N : Nat) (v0 : Int32) (v1 : Int32) (S : yS) : Option (Int64 × yS) := pSt ((((Int32.ofInt 681) * v0) + (Int32.ofInt 1)) + ((Int32.ofInt 3) * v1)) fun w1 => pSt (((Int32.ofInt 681) * v0) + (Int32.ofInt 73)) fun w2 => (ain 2724 (w1 + (Int32.ofInt 1))).bind fun j3 => lX12_summedUp N N w1 w2 (Int32.ofInt 0) (Int32.ofInt 0) (S.2.2.1 268 j3) S
set_option maxRecDepth 4000 in
theorem tX12_summedUp {ro : xRo} {T : yK} {S : yS} {d N : Nat} {v0 : Int32} {v1 : Int32} {q : Int64} {S' : yS} (hf : fX12_summedUp N v0 v1 S = some (q, S')) : yEv ro xNo (yKx T) (d + 3) jX12_summedUp [.ref 265, .int v0, .int v1] S (some (.long q)) S' := by
  refine ry_meth pX12_summedUp rfl (fun z => ?_)
  unfold fX12_summedUp at hf
  iterate 9 (refine ry_step rfl rfl ?_)
  refine ry_nmi hf (fun w1 hf => ?_)
  iterate 6 (refine ry_step rfl rfl ?_)
  refine ry_nmi hf (fun w2 hf => ?_)
  iterate 10 (refine ry_step rfl rfl ?_)
  refine ry_iald hf rfl rfl rfl (fun j3 hf => ?_)
  refine ry_step rfl rfl ?_
  refine ry_sub [5, 4, 3, 2, 1, 0] rfl rfl ?_
  exact uX12_summedUp (ro := ro) _ w1 w2 (Int32.ofInt 0) (Int32.ofInt 0) (S.2.2.1 268 j3) S hf _
def lX12_says (N : Nat) : Nat → Int32 → Int32 → Int32 → Int32 → Int32 → Int32 → yS → Option (Int32 × yS)
  | 0, _, _, _, _, _, _, _ => none
  | n + 1, l1, l2, l3, l4, l5, l6, S => (if l1 < 0 then some (l3, S) else (ain 2724 ((Int32.ofInt 681) * l1)).bind fun j1 => (if (S.2.2.1 268 j1) ≤ l6 then some (l3, S) else (ain 2724 ((((Int32.ofInt 681) * l1) + (Int32.ofInt 1)) + ((Int32.ofInt 3) * l6))).bind fun j2 => (if ¬ (S.2.2.1 268 j2) = l2 then lX12_says N n l1 l2 l3 l4 l5 (l6 + (Int32.ofInt 1)) S else (fX12_summedUp N l1 l6 S).bind fun (u5, S4) => some ((fX12_held u5 l4 l5), S4))))
set_option maxRecDepth 4000 in
theorem uX12_says {ro : xRo} {T : yK} {d N : Nat} : ∀ n : Nat, (∀ (l1 : Int32) (l2 : Int32) (l3 : Int32) (l4 : Int32) (l5 : Int32) (l6 : Int32) (S : yS) {q : Int32} {S' : yS}, lX12_says N n l1 l2 l3 l4 l5 l6 S = some (q, S') → ∀ z, Ry ro xNo (yKx T) z (d + 3) mX12_says 3 [(0, .ref 265), (1, .int l1), (2, .int l2), (3, .int l3), (4, .int l4), (5, .int l5), (6, .int l6)] [] S (some (.int q), yH (yKx T) z S')) := by
  intro n
  induction n with
  | zero => exact (by intro _ _ _ _ _ _ _ _ _ hf; cases hf)
  | succ n ih =>
    intro l1 l2 l3 l4 l5 l6 S q S' hf z
    unfold lX12_says at hf
    iterate 2 (refine ry_step rfl rfl ?_)
    refine ry_br hf (fun hc hf => ?_) (fun hc hf => ?_)
    · refine ry_step rfl rfl ?_
      cases hf
      exact ry_ret rfl rfl
    · iterate 6 (refine ry_step rfl rfl ?_)
      refine ry_iald hf rfl rfl rfl (fun j1 hf => ?_)
      refine ry_step rfl rfl ?_
      refine ry_br hf (fun hc hf => ?_) (fun hc hf => ?_)
      · refine ry_step rfl rfl ?_
        cases hf
        exact ry_ret rfl rfl
      · iterate 11 (refine ry_step rfl rfl ?_)
        refine ry_iald hf rfl rfl rfl (fun j2 hf => ?_)
        iterate 2 (refine ry_step rfl rfl ?_)
        refine ry_br hf (fun hc hf => ?_) (fun hc hf => ?_)
        · iterate 2 (refine ry_step rfl rfl ?_)
          refine ry_sub [1, 2, 3, 4, 5, 6, 0] rfl rfl ?_
          exact ih l1 l2 l3 l4 l5 (l6 + (Int32.ofInt 1)) S hf _
        · iterate 3 (refine ry_step rfl rfl ?_)
          obtain ⟨⟨u5, S4⟩, hv3, hf⟩ := Option.bind_eq_some_iff.mp hf
          dsimp only at hf
          refine ry_call rfl rfl rfl rfl rfl (tX12_summedUp hv3) ?_
          iterate 2 (refine ry_step rfl rfl ?_)
          refine ry_call rfl rfl rfl rfl rfl tX12_held ?_
          cases hf
          exact ry_ret rfl rfl
def fX12_says (N : Nat) (v0 : Int32) (v1 : Int32) (v2 : Int32) (v3 : Int32) (v4 : Int32) (S : yS) : Option (Int32 × yS) := lX12_says N N v0 v1 v2 v3 v4 (Int32.ofInt 0) S
set_option maxRecDepth 4000 in
theorem tX12_says {ro : xRo} {T : yK} {S : yS} {d N : Nat} {v0 : Int32} {v1 : Int32} {v2 : Int32} {v3 : Int32} {v4 : Int32} {q : Int32} {S' : yS} (hf : fX12_says N v0 v1 v2 v3 v4 S = some (q, S')) : yEv ro xNo (yKx T) (d + 4) jX12_says [.ref 265, .int v0, .int v1, .int v2, .int v3, .int v4] S (some (.int q)) S' := by
  refine ry_meth pX12_says rfl (fun z => ?_)
  unfold fX12_says at hf
  iterate 2 (refine ry_step rfl rfl ?_)
  refine ry_sub [1, 2, 3, 4, 5, 6, 0] rfl rfl ?_
  exact uX12_says (ro := ro) _ v0 v1 v2 v3 v4 (Int32.ofInt 0) S hf _
def fX12_name (N : Nat) (S : yS) : Option yS := pSt (ySa S 271 (upd (S.2.2.1 271) 0 (S.2.2.1 266 6))) fun S1 => pSt (ySa S1 271 (upd (S1.2.2.1 271) 1 (S1.2.2.1 266 8))) fun S2 => pSt (ySa S2 271 (upd (S2.2.2.1 271) 2 (S2.2.2.1 266 9))) fun S3 => (fX12_bits N (S3.2.2.1 266 12) S3).bind fun u5 => pSt (ySa S3 271 (upd (S3.2.2.1 271) 3 u5)) fun S6 => some S6
set_option maxRecDepth 4000 in
theorem tX12_name {ro : xRo} {T : yK} {S : yS} {d N : Nat} {S' : yS} (hf : fX12_name N  S = some S') : yEv ro xNo (yKx T) (d + 2) jX12_name [.ref 265] S (none) S' := by
  refine ry_meth pX12_name rfl (fun z => ?_)
  unfold fX12_name at hf
  iterate 7 (refine ry_step rfl rfl ?_)
  refine ry_stepS hf rfl rfl (fun S1 hf => ?_)
  iterate 7 (refine ry_step rfl rfl ?_)
  refine ry_stepS hf rfl rfl (fun S2 hf => ?_)
  iterate 7 (refine ry_step rfl rfl ?_)
  refine ry_stepS hf rfl rfl (fun S3 hf => ?_)
  iterate 7 (refine ry_step rfl rfl ?_)
  obtain ⟨u5, hv4, hf⟩ := Option.bind_eq_some_iff.mp hf
  refine ry_call rfl rfl rfl rfl rfl (tX12_bits hv4) ?_
  refine ry_stepS hf rfl rfl (fun S6 hf => ?_)
  cases hf
  exact ry_ret rfl rfl
def fX12_chanceOf (N : Nat) (v0 : Int32) (S : yS) : Option (Int32 × yS) := (fX12_name N  S).bind fun S2 => pSt (ySa S2 271 (upd (S2.2.2.1 271) 4 v0)) fun S3 => (ain 1338 ((Int32.ofInt 37) + v0)).bind fun j4 => pSt (ySa S3 271 (upd (S3.2.2.1 271) 5 (S3.2.2.1 266 j4))) fun S5 => (ain 1338 ((Int32.ofInt 21) + v0)).bind fun j6 => pSt (ySa S5 271 (upd (S5.2.2.1 271) 6 (S5.2.2.1 266 j6))) fun S7 => (ain 1338 ((Int32.ofInt 37) + v0)).bind fun j8 => (fX12_says N (S7.2.2.1 266 2) (Int32.ofInt 0) (S7.2.2.1 266 j8) (Int32.ofInt 0) (Int32.ofInt 10) S7).bind fun (u11, S10) => some (u11, S10)
set_option maxRecDepth 4000 in
theorem tX12_chanceOf {ro : xRo} {T : yK} {S : yS} {d N : Nat} {v0 : Int32} {q : Int32} {S' : yS} (hf : fX12_chanceOf N v0 S = some (q, S')) : yEv ro xNo (yKx T) (d + 5) jX12_chanceOf [.ref 265, .int v0] S (some (.int q)) S' := by
  refine ry_meth pX12_chanceOf rfl (fun z => ?_)
  unfold fX12_chanceOf at hf
  refine ry_step rfl rfl ?_
  obtain ⟨S2, hv1, hf⟩ := Option.bind_eq_some_iff.mp hf
  refine ry_call rfl rfl rfl rfl rfl (tX12_name hv1) ?_
  iterate 4 (refine ry_step rfl rfl ?_)
  refine ry_stepS hf rfl rfl (fun S3 hf => ?_)
  iterate 8 (refine ry_step rfl rfl ?_)
  refine ry_iald hf rfl rfl rfl (fun j4 hf => ?_)
  refine ry_stepS hf rfl rfl (fun S5 hf => ?_)
  iterate 8 (refine ry_step rfl rfl ?_)
  refine ry_iald hf rfl rfl rfl (fun j6 hf => ?_)
  refine ry_stepS hf rfl rfl (fun S7 hf => ?_)
  iterate 11 (refine ry_step rfl rfl ?_)
  refine ry_iald hf rfl rfl rfl (fun j8 hf => ?_)
  iterate 2 (refine ry_step rfl rfl ?_)
  obtain ⟨⟨u11, S10⟩, hv9, hf⟩ := Option.bind_eq_some_iff.mp hf
  dsimp only at hf
  refine ry_call rfl rfl rfl rfl rfl (tX12_says hv9) ?_
  cases hf
  exact ry_ret rfl rfl
def fX12_bringsOf (N : Nat) (v0 : Int32) (v1 : Int32) (S : yS) : Option (Int32 × yS) := (fX12_name N  S).bind fun S2 => pSt (ySa S2 271 (upd (S2.2.2.1 271) 7 v1)) fun S3 => (ain 1338 ((Int32.ofInt 45) + v1)).bind fun j4 => pSt (ySa S3 271 (upd (S3.2.2.1 271) 8 (S3.2.2.1 266 j4))) fun S5 => (ain 1338 ((Int32.ofInt 45) + v1)).bind fun j6 => (fX12_says N v0 (Int32.ofInt 1) ((S5.2.2.1 266 j6) - (Int32.ofInt 2)) (Int32.ofInt (-99)) (Int32.ofInt 99) S5).bind fun (u9, S8) => some (u9, S8)
set_option maxRecDepth 4000 in
theorem tX12_bringsOf {ro : xRo} {T : yK} {S : yS} {d N : Nat} {v0 : Int32} {v1 : Int32} {q : Int32} {S' : yS} (hf : fX12_bringsOf N v0 v1 S = some (q, S')) : yEv ro xNo (yKx T) (d + 5) jX12_bringsOf [.ref 265, .int v0, .int v1] S (some (.int q)) S' := by
  refine ry_meth pX12_bringsOf rfl (fun z => ?_)
  unfold fX12_bringsOf at hf
  refine ry_step rfl rfl ?_
  obtain ⟨S2, hv1, hf⟩ := Option.bind_eq_some_iff.mp hf
  refine ry_call rfl rfl rfl rfl rfl (tX12_name hv1) ?_
  iterate 4 (refine ry_step rfl rfl ?_)
  refine ry_stepS hf rfl rfl (fun S3 hf => ?_)
  iterate 8 (refine ry_step rfl rfl ?_)
  refine ry_iald hf rfl rfl rfl (fun j4 hf => ?_)
  refine ry_stepS hf rfl rfl (fun S5 hf => ?_)
  iterate 8 (refine ry_step rfl rfl ?_)
  refine ry_iald hf rfl rfl rfl (fun j6 hf => ?_)
  iterate 4 (refine ry_step rfl rfl ?_)
  obtain ⟨⟨u9, S8⟩, hv7, hf⟩ := Option.bind_eq_some_iff.mp hf
  dsimp only at hf
  refine ry_call rfl rfl rfl rfl rfl (tX12_says hv7) ?_
  cases hf
  exact ry_ret rfl rfl
def lX12_write (N : Nat) : Nat → Int32 → Int32 → Int32 → yS → Option yS
  | 0, _, _, _, _ => none
  | n + 1, l1, l2, l3, S => (if (Int32.ofInt 25) ≤ l3 then pSt (ySa S 266 (upd (S.2.2.1 266) 11 ((S.2.2.1 266 11) - (Int32.ofInt 1)))) fun S5 => (ain 1338 ((Int32.ofInt 45) + l1)).bind fun j6 => (ain 1338 ((Int32.ofInt 1313) + (S5.2.2.1 266 11))).bind fun j9 => pSt (ySa S5 266 (upd (S5.2.2.1 266) j9 ((((((((S5.2.2.1 266 6) * (Int32.ofInt 9)) + l1) * (Int32.ofInt 10)) + (S5.2.2.1 266 j6)) * (Int32.ofInt 200)) + l2) + (Int32.ofInt 100)))) fun S7 => pSt (ySa S7 266 (upd (S7.2.2.1 266) 11 ((S7.2.2.1 266 11) + (Int32.ofInt 1)))) fun S8 => some S8 else (ain 1338 ((Int32.ofInt 1313) + l3)).bind fun j10 => (ain 1338 (((Int32.ofInt 1313) + l3) - (Int32.ofInt 1))).bind fun j12 => pSt (ySa S 266 (upd (S.2.2.1 266) j12 (S.2.2.1 266 j10))) fun S11 => lX12_write N n l1 l2 (l3 + (Int32.ofInt 1)) S11)
set_option maxRecDepth 4000 in
theorem uX12_write {ro : xRo} {T : yK} {d N : Nat} : ∀ n : Nat, (∀ (l1 : Int32) (l2 : Int32) (l3 : Int32) (S : yS) {S' : yS}, lX12_write N n l1 l2 l3 S = some S' → ∀ z, Ry ro xNo (yKx T) z (d + 0) mX12_write 22 [(0, .ref 265), (1, .int l1), (2, .int l2), (3, .int l3)] [] S (none, yH (yKx T) z S')) := by
  intro n
  induction n with
  | zero => exact (by intro _ _ _ _ _ hf; cases hf)
  | succ n ih =>
    intro l1 l2 l3 S S' hf z
    unfold lX12_write at hf
    iterate 3 (refine ry_step rfl rfl ?_)
    refine ry_br hf (fun hc hf => ?_) (fun hc hf => ?_)
    · iterate 7 (refine ry_step rfl rfl ?_)
      refine ry_stepS hf rfl rfl (fun S5 hf => ?_)
      iterate 23 (refine ry_step rfl rfl ?_)
      refine ry_iald hf rfl rfl rfl (fun j6 hf => ?_)
      iterate 7 (refine ry_step rfl rfl ?_)
      refine ry_iast hf rfl rfl (fun j9 S7 hf => ?_)
      iterate 7 (refine ry_step rfl rfl ?_)
      refine ry_stepS hf rfl rfl (fun S8 hf => ?_)
      cases hf
      exact ry_ret rfl rfl
    · iterate 12 (refine ry_step rfl rfl ?_)
      refine ry_iald hf rfl rfl rfl (fun j10 hf => ?_)
      refine ry_iast hf rfl rfl (fun j12 S11 hf => ?_)
      iterate 2 (refine ry_step rfl rfl ?_)
      refine ry_sub [1, 2, 3, 0] rfl rfl ?_
      exact ih l1 l2 (l3 + (Int32.ofInt 1)) S11 hf _
def fX12_write (N : Nat) (v0 : Int32) (v1 : Int32) (S : yS) : Option yS := (if ¬ (S.1 265 23) = 0 then (if ¬ (S.2.2.1 266 11) = (Int32.ofInt 25) then (ain 1338 ((Int32.ofInt 45) + v0)).bind fun j1 => (ain 1338 ((Int32.ofInt 1313) + (S.2.2.1 266 11))).bind fun j4 => pSt (ySa S 266 (upd (S.2.2.1 266) j4 ((((((((S.2.2.1 266 6) * (Int32.ofInt 9)) + v0) * (Int32.ofInt 10)) + (S.2.2.1 266 j1)) * (Int32.ofInt 200)) + v1) + (Int32.ofInt 100)))) fun S2 => pSt (ySa S2 266 (upd (S2.2.2.1 266) 11 ((S2.2.2.1 266 11) + (Int32.ofInt 1)))) fun S3 => some S3 else lX12_write N N v0 v1 (Int32.ofInt 1) S) else some S)
set_option maxRecDepth 4000 in
theorem tX12_write {ro : xRo} {T : yK} {S : yS} {d N : Nat} {v0 : Int32} {v1 : Int32} {S' : yS} (hf : fX12_write N v0 v1 S = some S') : yEv ro xNo (yKx T) (d + 1) jX12_write [.ref 265, .int v0, .int v1] S (none) S' := by
  refine ry_meth pX12_write rfl (fun z => ?_)
  unfold fX12_write at hf
  iterate 3 (refine ry_step rfl rfl ?_)
  refine ry_br hf (fun hc hf => ?_) (fun hc hf => ?_)
  · iterate 6 (refine ry_step rfl rfl ?_)
    refine ry_br hf (fun hc hf => ?_) (fun hc hf => ?_)
    · iterate 23 (refine ry_step rfl rfl ?_)
      refine ry_iald hf rfl rfl rfl (fun j1 hf => ?_)
      iterate 7 (refine ry_step rfl rfl ?_)
      refine ry_iast hf rfl rfl (fun j4 S2 hf => ?_)
      iterate 7 (refine ry_step rfl rfl ?_)
      refine ry_stepS hf rfl rfl (fun S3 hf => ?_)
      cases hf
      exact ry_ret rfl rfl
    · iterate 2 (refine ry_step rfl rfl ?_)
      refine ry_sub [1, 2, 3, 0] rfl rfl ?_
      exact uX12_write (ro := ro) _ v0 v1 (Int32.ofInt 1) S hf _
  · cases hf
    exact ry_ret rfl rfl
def fX12_anew (S : yS) : Option yS := pSt (ySa S 266 (upd (S.2.2.1 266) 7 (Int64.toInt32 ((((Int32.toInt64 (S.2.2.1 266 7)) * (Int64.ofInt 661)) + (Int64.ofInt 541)) - (((Int32.toInt64 (S.2.2.1 266 7)) * (Int64.ofInt 661)) + (Int64.ofInt 541)) / (Int64.ofInt 30949) * (Int64.ofInt 30949))))) fun S1 => some S1
set_option maxRecDepth 4000 in
theorem tX12_anew {ro : xRo} {T : yK} {S : yS} {d : Nat} {S' : yS} (hf : fX12_anew  S = some S') : yEv ro xNo (yKx T) (d + 1) jX12_anew [.ref 265] S (none) S' := by
  refine ry_meth pX12_anew rfl (fun z => ?_)
  unfold fX12_anew at hf
  iterate 15 (refine ry_step rfl rfl ?_)
  refine ry_stepS hf rfl rfl (fun S1 hf => ?_)
  cases hf
  exact ry_ret rfl rfl
def fX12_canGrant (v0 : Int32) (S : yS) : Option Int32 := (if (fX12_isIn v0 (Int32.ofInt (-999)) (Int32.ofInt 999)) = 0 then some (Int32.ofInt 0) else (if v0 = 0 then some (Int32.ofInt 0) else (if (fX12_isIn ((S.2.2.1 266 8) + v0) (Int32.ofInt (-9999)) (Int32.ofInt 9999)) = 0 then some (Int32.ofInt 0) else some (Int32.ofInt 1))))
set_option maxRecDepth 4000 in
theorem tX12_canGrant {ro : xRo} {T : yK} {S : yS} {d : Nat} {v0 : Int32} {q : Int32} (hf : fX12_canGrant v0 S = some q) : yEv ro xNo (yKx T) (d + 2) jX12_canGrant [.ref 265, .int v0] S (some (.int q)) S := by
  refine ry_meth pX12_canGrant rfl (fun z => ?_)
  unfold fX12_canGrant at hf
  iterate 3 (refine ry_step rfl rfl ?_)
  refine ry_call rfl rfl rfl rfl rfl tX12_isIn ?_
  refine ry_step rfl rfl ?_
  refine ry_br hf (fun hc hf => ?_) (fun hc hf => ?_)
  · refine ry_step rfl rfl ?_
    cases hf
    exact ry_ret rfl rfl
  · iterate 2 (refine ry_step rfl rfl ?_)
    refine ry_br hf (fun hc hf => ?_) (fun hc hf => ?_)
    · refine ry_step rfl rfl ?_
      cases hf
      exact ry_ret rfl rfl
    · iterate 8 (refine ry_step rfl rfl ?_)
      refine ry_call rfl rfl rfl rfl rfl tX12_isIn ?_
      refine ry_step rfl rfl ?_
      refine ry_br hf (fun hc hf => ?_) (fun hc hf => ?_)
      · refine ry_step rfl rfl ?_
        cases hf
        exact ry_ret rfl rfl
      · iterate 2 (refine ry_step rfl rfl ?_)
        cases hf
        exact ry_ret rfl rfl
