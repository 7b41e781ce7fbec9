/-! ===== methods as functions, and their walks, by program ===== -/
def fX0_addBird (v0 : Int32) (v1 : Int32) (v2 : Int32) (S : yS) : Option (Int32 × yS) := (if (S.1 18 5) < (Int32.ofInt 8) then (ain 8 (S.1 18 5)).bind fun j7 => pSt (ySa S 114 (upd (S.2.2.1 114) j7 v0)) fun S1 => (ain 8 (S1.1 18 5)).bind fun j6 => pSt (ySa S1 115 (upd (S1.2.2.1 115) j6 v1)) fun S2 => (ain 8 (S2.1 18 5)).bind fun j5 => pSt (ySa S2 116 (upd (S2.2.2.1 116) j5 v2)) fun S3 => pSt (ySi S3 18 5 ((S3.1 18 5) + (Int32.ofInt 1))) fun S4 => some (((S4.1 18 5) - (Int32.ofInt 1)), S4) else some ((Int32.ofInt (-1)), S))
set_option maxRecDepth 4000 in
theorem tX0_addBird {ro : xRo} {T : yK} {S : yS} {d : Nat} {v0 : Int32} {v1 : Int32} {v2 : Int32} {q : Int32} {S' : yS} (hf : fX0_addBird v0 v1 v2 S = some (q, S')) : yEv ro xNo (yKx T) (d + 1) jX0_addBird [.ref 18, .int v0, .int v1, .int v2] S (some (.int q)) S' := by
  refine ry_meth pX0_addBird rfl (fun z => ?_)
  unfold fX0_addBird at hf
  iterate 4 (refine ry_step rfl rfl ?_)
  refine ry_br hf (fun hc hf => ?_) (fun hc hf => ?_)
  · iterate 5 (refine ry_step rfl rfl ?_)
    refine ry_iast hf rfl rfl (fun j7 S1 hf => ?_)
    iterate 5 (refine ry_step rfl rfl ?_)
    refine ry_iast hf rfl rfl (fun j6 S2 hf => ?_)
    iterate 5 (refine ry_step rfl rfl ?_)
    refine ry_iast hf rfl rfl (fun j5 S3 hf => ?_)
    iterate 5 (refine ry_step rfl rfl ?_)
    refine ry_stepS hf rfl rfl (fun S4 hf => ?_)
    iterate 4 (refine ry_step rfl rfl ?_)
    cases hf
    exact ry_ret rfl rfl
  · refine ry_step rfl rfl ?_
    cases hf
    exact ry_ret rfl rfl
def fX0_addTold (v0 : Int32) (v1 : Int32) (S : yS) : Option (Int32 × yS) := (if (Int32.ofInt 8) ≤ (S.1 18 15) then some ((S.1 18 15), S) else (ain 8 (S.1 18 15)).bind fun j5 => pSt (ySa S 130 (upd (S.2.2.1 130) j5 v0)) fun S1 => (ain 8 (S1.1 18 15)).bind fun j4 => pSt (ySa S1 131 (upd (S1.2.2.1 131) j4 v1)) fun S2 => pSt (ySi S2 18 15 ((S2.1 18 15) + (Int32.ofInt 1))) fun S3 => some ((S3.1 18 15), S3))
set_option maxRecDepth 4000 in
theorem tX0_addTold {ro : xRo} {T : yK} {S : yS} {d : Nat} {v0 : Int32} {v1 : Int32} {q : Int32} {S' : yS} (hf : fX0_addTold v0 v1 S = some (q, S')) : yEv ro xNo (yKx T) (d + 1) jX0_addTold [.ref 18, .int v0, .int v1] S (some (.int q)) S' := by
  refine ry_meth pX0_addTold rfl (fun z => ?_)
  unfold fX0_addTold at hf
  iterate 4 (refine ry_step rfl rfl ?_)
  refine ry_br hf (fun hc hf => ?_) (fun hc hf => ?_)
  · iterate 2 (refine ry_step rfl rfl ?_)
    cases hf
    exact ry_ret rfl rfl
  · iterate 5 (refine ry_step rfl rfl ?_)
    refine ry_iast hf rfl rfl (fun j5 S1 hf => ?_)
    iterate 5 (refine ry_step rfl rfl ?_)
    refine ry_iast hf rfl rfl (fun j4 S2 hf => ?_)
    iterate 5 (refine ry_step rfl rfl ?_)
    refine ry_stepS hf rfl rfl (fun S3 hf => ?_)
    iterate 2 (refine ry_step rfl rfl ?_)
    cases hf
    exact ry_ret rfl rfl
def fX0_hasBird (v0 : Int32) (S : yS) : Option Int32 := (if v0 < 0 then some (Int32.ofInt 0) else (if (S.1 18 5) ≤ v0 then some (Int32.ofInt 0) else some (Int32.ofInt 1)))
set_option maxRecDepth 4000 in
theorem tX0_hasBird {ro : xRo} {T : yK} {S : yS} {d : Nat} {v0 : Int32} {q : Int32} (hf : fX0_hasBird v0 S = some q) : yEv ro xNo (yKx T) (d + 1) jX0_hasBird [.ref 18, .int v0] S (some (.int q)) S := by
  refine ry_meth pX0_hasBird rfl (fun z => ?_)
  unfold fX0_hasBird at hf
  iterate 2 (refine ry_step rfl rfl ?_)
  refine ry_br hf (fun hc hf => ?_) (fun hc hf => ?_)
  · refine ry_step rfl rfl ?_
    cases hf
    exact ry_ret rfl rfl
  · iterate 4 (refine ry_step rfl rfl ?_)
    refine ry_br hf (fun hc hf => ?_) (fun hc hf => ?_)
    · refine ry_step rfl rfl ?_
      cases hf
      exact ry_ret rfl rfl
    · iterate 2 (refine ry_step rfl rfl ?_)
      cases hf
      exact ry_ret rfl rfl
def fX0_hasText (v0 : Int32) (S : yS) : Option Int32 := (if v0 < 0 then some (Int32.ofInt 0) else (if (S.1 18 8) ≤ v0 then some (Int32.ofInt 0) else some (Int32.ofInt 1)))
set_option maxRecDepth 4000 in
theorem tX0_hasText {ro : xRo} {T : yK} {S : yS} {d : Nat} {v0 : Int32} {q : Int32} (hf : fX0_hasText v0 S = some q) : yEv ro xNo (yKx T) (d + 1) jX0_hasText [.ref 18, .int v0] S (some (.int q)) S := by
  refine ry_meth pX0_hasText rfl (fun z => ?_)
  unfold fX0_hasText at hf
  iterate 2 (refine ry_step rfl rfl ?_)
  refine ry_br hf (fun hc hf => ?_) (fun hc hf => ?_)
  · refine ry_step rfl rfl ?_
    cases hf
    exact ry_ret rfl rfl
  · iterate 4 (refine ry_step rfl rfl ?_)
    refine ry_br hf (fun hc hf => ?_) (fun hc hf => ?_)
    · refine ry_step rfl rfl ?_
      cases hf
      exact ry_ret rfl rfl
    · iterate 2 (refine ry_step rfl rfl ?_)
      cases hf
      exact ry_ret rfl rfl
def fX0_canGrant (v0 : Int32) (S : yS) : Option Int32 := (if (fX11_within ((S.1 19 1) + v0) (Int32.ofInt (-9999)) (Int32.ofInt 9999)) = 0 ∨ (fX11_within ((S.1 19 1) + v0) (Int32.ofInt (-9999)) (Int32.ofInt 9999)) = 1 then some (fX11_within ((S.1 19 1) + v0) (Int32.ofInt (-9999)) (Int32.ofInt 9999)) else none)
set_option maxRecDepth 4000 in
theorem tX0_canGrant {ro : xRo} {T : yK} {S : yS} {d : Nat} {v0 : Int32} {q : Int32} (hf : fX0_canGrant v0 S = some q) : yEv ro xNo (yKx T) (d + 2) jX0_canGrant [.ref 18, .int v0] S (some (.int q)) S := by
  refine ry_meth pX0_canGrant rfl (fun z => ?_)
  unfold fX0_canGrant at hf
  iterate 7 (refine ry_step rfl rfl ?_)
  refine ry_call rfl rfl rfl rfl rfl tX11_within ?_
  exact ry_retz (S' := S) hf rfl rfl rfl (fun h => by cases h; rfl)
def fX0_canPass (S : yS) : Option Int32 := (if (Int32.ofInt 9999) ≤ (S.1 19 4) then some (Int32.ofInt 0) else some (Int32.ofInt 1))
set_option maxRecDepth 4000 in
theorem tX0_canPass {ro : xRo} {T : yK} {S : yS} {d : Nat} {q : Int32} (hf : fX0_canPass  S = some q) : yEv ro xNo (yKx T) (d + 1) jX0_canPass [.ref 18] S (some (.int q)) S := by
  refine ry_meth pX0_canPass rfl (fun z => ?_)
  unfold fX0_canPass at hf
  iterate 5 (refine ry_step rfl rfl ?_)
  refine ry_br hf (fun hc hf => ?_) (fun hc hf => ?_)
  · refine ry_step rfl rfl ?_
    cases hf
    exact ry_ret rfl rfl
  · iterate 2 (refine ry_step rfl rfl ?_)
    cases hf
    exact ry_ret rfl rfl
def fX1_named (v0 : Int32) (S : yS) : Option Int32 := (if v0 = (Int32.ofInt 0) then some (S.1 19 4) else (if v0 = (Int32.ofInt 1) then some (S.1 19 1) else (if v0 = (Int32.ofInt 2) then some (S.1 19 2) else (if v0 = (Int32.ofInt 3) then some (fJ6_bitCount_0f7a4 (S.1 19 0)) else (if v0 = (Int32.ofInt 4) then some (S.1 17 2) else (if v0 = (Int32.ofInt 5) then (ain 8 (S.1 17 2)).bind fun j3 => some (S.2.2.1 116 j3) else (if v0 = (Int32.ofInt 6) then (ain 8 (S.1 17 2)).bind fun j2 => some (S.2.2.1 114 j2) else (if v0 = (Int32.ofInt 7) then some (S.1 17 3) else (if v0 = (Int32.ofInt 8) then (ain 9 (S.1 17 3)).bind fun j1 => some (S.2.2.1 117 j1) else some (Int32.ofInt 0))))))))))
set_option maxRecDepth 4000 in
theorem tX1_named {ro : xRo} {T : yK} {S : yS} {d : Nat} {v0 : Int32} {q : Int32} (hf : fX1_named v0 S = some q) : yEv ro xNo (yKx T) (d + 2) jX1_named [.ref 17, .int v0] S (some (.int q)) S := by
  refine ry_meth pX1_named rfl (fun z => ?_)
  unfold fX1_named at hf
  refine ry_step rfl rfl ?_
  refine ry_sw hf (fun hf => ?_) (fun n0 hf => ?_)
  · iterate 5 (refine ry_step rfl rfl ?_)
    cases hf
    exact ry_ret rfl rfl
  · refine ry_sw hf (fun hf => ?_) (fun n1 hf => ?_)
    · iterate 5 (refine ry_step rfl rfl ?_)
      cases hf
      exact ry_ret rfl rfl
    · refine ry_sw hf (fun hf => ?_) (fun n2 hf => ?_)
      · iterate 5 (refine ry_step rfl rfl ?_)
        cases hf
        exact ry_ret rfl rfl
      · refine ry_sw hf (fun hf => ?_) (fun n3 hf => ?_)
        · iterate 5 (refine ry_step rfl rfl ?_)
          refine ry_call rfl rfl rfl rfl rfl tJ6_bitCount_0f7a4 ?_
          cases hf
          exact ry_ret rfl rfl
        · refine ry_sw hf (fun hf => ?_) (fun n4 hf => ?_)
          · iterate 3 (refine ry_step rfl rfl ?_)
            cases hf
            exact ry_ret rfl rfl
          · refine ry_sw hf (fun hf => ?_) (fun n5 hf => ?_)
            · iterate 6 (refine ry_step rfl rfl ?_)
              refine ry_iald hf rfl rfl rfl (fun j3 hf => ?_)
              cases hf
              exact ry_ret rfl rfl
            · refine ry_sw hf (fun hf => ?_) (fun n6 hf => ?_)
              · iterate 6 (refine ry_step rfl rfl ?_)
                refine ry_iald hf rfl rfl rfl (fun j2 hf => ?_)
                cases hf
                exact ry_ret rfl rfl
              · refine ry_sw hf (fun hf => ?_) (fun n7 hf => ?_)
                · iterate 3 (refine ry_step rfl rfl ?_)
                  cases hf
                  exact ry_ret rfl rfl
                · refine ry_sw hf (fun hf => ?_) (fun n8 hf => ?_)
                  · iterate 6 (refine ry_step rfl rfl ?_)
                    refine ry_iald hf rfl rfl rfl (fun j1 hf => ?_)
                    cases hf
                    exact ry_ret rfl rfl
                  · have m0 := xne_toInt (k := 0) rfl n0
                    have m1 := xne_toInt (k := 1) rfl n1
                    have m2 := xne_toInt (k := 2) rfl n2
                    have m3 := xne_toInt (k := 3) rfl n3
                    have m4 := xne_toInt (k := 4) rfl n4
                    have m5 := xne_toInt (k := 5) rfl n5
                    have m6 := xne_toInt (k := 6) rfl n6
                    have m7 := xne_toInt (k := 7) rfl n7
                    have m8 := xne_toInt (k := 8) rfl n8
                    refine ry_tb rfl (by omega) ?_
                    refine ry_step rfl rfl ?_
                    cases hf
                    exact ry_ret rfl rfl
def fX1_ofOne (v0 : Int32) (v1 : Int32) (S : yS) : Option Int32 := (if v0 = (Int32.ofInt 9) then (if (fX11_isCount v1) = 0 then some (Int32.ofInt 0) else (ain 9 v1).bind fun j4 => some (S.2.2.1 117 j4)) else (if v0 = (Int32.ofInt 10) then (fX0_hasBird v1 S).bind fun u2 => (if u2 = 0 then some (Int32.ofInt 0) else (ain 8 v1).bind fun j3 => some (S.2.2.1 20 j3)) else (if v0 = (Int32.ofInt 11) then some ((Int32.ofInt 1) - v1) else some (-v1))))
set_option maxRecDepth 4000 in
theorem tX1_ofOne {ro : xRo} {T : yK} {S : yS} {d : Nat} {v0 : Int32} {v1 : Int32} {q : Int32} (hf : fX1_ofOne v0 v1 S = some q) : yEv ro xNo (yKx T) (d + 2) jX1_ofOne [.ref 17, .int v0, .int v1] S (some (.int q)) S := by
  refine ry_meth pX1_ofOne rfl (fun z => ?_)
  unfold fX1_ofOne at hf
  refine ry_step rfl rfl ?_
  refine ry_sw hf (fun hf => ?_) (fun n9 hf => ?_)
  · iterate 2 (refine ry_step rfl rfl ?_)
    refine ry_call rfl rfl rfl rfl rfl tX11_isCount ?_
    refine ry_step rfl rfl ?_
    refine ry_br hf (fun hc hf => ?_) (fun hc hf => ?_)
    · refine ry_step rfl rfl ?_
      cases hf
      exact ry_ret rfl rfl
    · iterate 4 (refine ry_step rfl rfl ?_)
      refine ry_iald hf rfl rfl rfl (fun j4 hf => ?_)
      refine ry_step rfl rfl ?_
      cases hf
      exact ry_ret rfl rfl
  · refine ry_sw hf (fun hf => ?_) (fun n10 hf => ?_)
    · iterate 4 (refine ry_step rfl rfl ?_)
      obtain ⟨u2, hv1, hf⟩ := Option.bind_eq_some_iff.mp hf
      refine ry_call rfl rfl rfl rfl rfl (tX0_hasBird hv1) ?_
      refine ry_step rfl rfl ?_
      refine ry_br hf (fun hc hf => ?_) (fun hc hf => ?_)
      · refine ry_step rfl rfl ?_
        cases hf
        exact ry_ret rfl rfl
      · iterate 5 (refine ry_step rfl rfl ?_)
        refine ry_iald hf rfl rfl rfl (fun j3 hf => ?_)
        refine ry_step rfl rfl ?_
        cases hf
        exact ry_ret rfl rfl
    · refine ry_sw hf (fun hf => ?_) (fun n11 hf => ?_)
      · iterate 4 (refine ry_step rfl rfl ?_)
        cases hf
        exact ry_ret rfl rfl
      · have m9 := xne_toInt (k := 9) rfl n9
        have m10 := xne_toInt (k := 10) rfl n10
        have m11 := xne_toInt (k := 11) rfl n11
        refine ry_tb rfl (by omega) ?_
        iterate 2 (refine ry_step rfl rfl ?_)
        cases hf
        exact ry_ret rfl rfl
def fX1_isSo (v0 : Int32) (v1 : Int32) (v2 : Int32) (S : yS) : Option Int32 := (if v0 = (Int32.ofInt 25) then (if v2 ≤ v1 then some (Int32.ofInt 0) else some (Int32.ofInt 1)) else (if v0 = (Int32.ofInt 26) then (if v1 ≤ v2 then some (Int32.ofInt 0) else some (Int32.ofInt 1)) else (if v0 = (Int32.ofInt 27) then (if ¬ v1 = v2 then some (Int32.ofInt 0) else some (Int32.ofInt 1)) else (if v0 = (Int32.ofInt 28) then (if v1 = v2 then some (Int32.ofInt 0) else some (Int32.ofInt 1)) else (if v0 = (Int32.ofInt 29) then (if v1 < v2 then some (Int32.ofInt 0) else some (Int32.ofInt 1)) else (if v0 = (Int32.ofInt 30) then (if v1 < v2 then some (Int32.ofInt 0) else some (Int32.ofInt 1)) else (if v0 = (Int32.ofInt 31) then (if v1 < v2 then some (Int32.ofInt 0) else some (Int32.ofInt 1)) else (if v0 = (Int32.ofInt 32) then (if v1 < v2 then some (Int32.ofInt 0) else some (Int32.ofInt 1)) else (if v0 = (Int32.ofInt 33) then (if v1 < v2 then some (Int32.ofInt 0) else some (Int32.ofInt 1)) else (if v0 = (Int32.ofInt 34) then (if v1 < v2 then some (Int32.ofInt 0) else some (Int32.ofInt 1)) else (if v0 = (Int32.ofInt 35) then (if v1 < v2 then some (Int32.ofInt 0) else some (Int32.ofInt 1)) else (if v0 = (Int32.ofInt 36) then (if v2 < v1 then some (Int32.ofInt 0) else some (Int32.ofInt 1)) else (if v1 < v2 then some (Int32.ofInt 0) else some (Int32.ofInt 1))))))))))))))
set_option maxRecDepth 4000 in
theorem tX1_isSo {ro : xRo} {T : yK} {S : yS} {d : Nat} {v0 : Int32} {v1 : Int32} {v2 : Int32} {q : Int32} (hf : fX1_isSo v0 v1 v2 S = some q) : yEv ro xNo (yKx T) (d + 1) jX1_isSo [.int v0, .int v1, .int v2] S (some (.int q)) S := by
  refine ry_meth pX1_isSo rfl (fun z => ?_)
  unfold fX1_isSo at hf
  refine ry_step rfl rfl ?_
  refine ry_sw hf (fun hf => ?_) (fun n25 hf => ?_)
  · iterate 4 (refine ry_step rfl rfl ?_)
    refine ry_br hf (fun hc hf => ?_) (fun hc hf => ?_)
    · refine ry_step rfl rfl ?_
      cases hf
      exact ry_ret rfl rfl
    · iterate 2 (refine ry_step rfl rfl ?_)
      cases hf
      exact ry_ret rfl rfl
  · refine ry_sw hf (fun hf => ?_) (fun n26 hf => ?_)
    · iterate 4 (refine ry_step rfl rfl ?_)
      refine ry_br hf (fun hc hf => ?_) (fun hc hf => ?_)
      · refine ry_step rfl rfl ?_
        cases hf
        exact ry_ret rfl rfl
      · iterate 2 (refine ry_step rfl rfl ?_)
        cases hf
        exact ry_ret rfl rfl
    · refine ry_sw hf (fun hf => ?_) (fun n27 hf => ?_)
      · iterate 4 (refine ry_step rfl rfl ?_)
        refine ry_br hf (fun hc hf => ?_) (fun hc hf => ?_)
        · refine ry_step rfl rfl ?_
          cases hf
          exact ry_ret rfl rfl
        · iterate 2 (refine ry_step rfl rfl ?_)
          cases hf
          exact ry_ret rfl rfl
      · refine ry_sw hf (fun hf => ?_) (fun n28 hf => ?_)
        · iterate 4 (refine ry_step rfl rfl ?_)
          refine ry_br hf (fun hc hf => ?_) (fun hc hf => ?_)
          · refine ry_step rfl rfl ?_
            cases hf
            exact ry_ret rfl rfl
          · iterate 2 (refine ry_step rfl rfl ?_)
            cases hf
            exact ry_ret rfl rfl
        · refine ry_sw hf (fun hf => ?_) (fun n29 hf => ?_)
          · iterate 4 (refine ry_step rfl rfl ?_)
            refine ry_br hf (fun hc hf => ?_) (fun hc hf => ?_)
            · refine ry_step rfl rfl ?_
              cases hf
              exact ry_ret rfl rfl
            · iterate 2 (refine ry_step rfl rfl ?_)
              cases hf
              exact ry_ret rfl rfl
          · refine ry_sw hf (fun hf => ?_) (fun n30 hf => ?_)
            · iterate 4 (refine ry_step rfl rfl ?_)
              refine ry_br hf (fun hc hf => ?_) (fun hc hf => ?_)
              · refine ry_step rfl rfl ?_
                cases hf
                exact ry_ret rfl rfl
              · iterate 2 (refine ry_step rfl rfl ?_)
                cases hf
                exact ry_ret rfl rfl
            · refine ry_sw hf (fun hf => ?_) (fun n31 hf => ?_)
              · iterate 4 (refine ry_step rfl rfl ?_)
                refine ry_br hf (fun hc hf => ?_) (fun hc hf => ?_)
                · refine ry_step rfl rfl ?_
                  cases hf
                  exact ry_ret rfl rfl
                · iterate 2 (refine ry_step rfl rfl ?_)
                  cases hf
                  exact ry_ret rfl rfl
              · refine ry_sw hf (fun hf => ?_) (fun n32 hf => ?_)
                · iterate 4 (refine ry_step rfl rfl ?_)
                  refine ry_br hf (fun hc hf => ?_) (fun hc hf => ?_)
                  · refine ry_step rfl rfl ?_
                    cases hf
                    exact ry_ret rfl rfl
                  · iterate 2 (refine ry_step rfl rfl ?_)
                    cases hf
                    exact ry_ret rfl rfl
                · refine ry_sw hf (fun hf => ?_) (fun n33 hf => ?_)
                  · iterate 4 (refine ry_step rfl rfl ?_)
                    refine ry_br hf (fun hc hf => ?_) (fun hc hf => ?_)
                    · refine ry_step rfl rfl ?_
                      cases hf
                      exact ry_ret rfl rfl
                    · iterate 2 (refine ry_step rfl rfl ?_)
                      cases hf
                      exact ry_ret rfl rfl
                  · refine ry_sw hf (fun hf => ?_) (fun n34 hf => ?_)
                    · iterate 4 (refine ry_step rfl rfl ?_)
                      refine ry_br hf (fun hc hf => ?_) (fun hc hf => ?_)
                      · refine ry_step rfl rfl ?_
                        cases hf
                        exact ry_ret rfl rfl
                      · iterate 2 (refine ry_step rfl rfl ?_)
                        cases hf
                        exact ry_ret rfl rfl
                    · refine ry_sw hf (fun hf => ?_) (fun n35 hf => ?_)
                      · iterate 4 (refine ry_step rfl rfl ?_)
                        refine ry_br hf (fun hc hf => ?_) (fun hc hf => ?_)
                        · refine ry_step rfl rfl ?_
                          cases hf
                          exact ry_ret rfl rfl
                        · iterate 2 (refine ry_step rfl rfl ?_)
                          cases hf
                          exact ry_ret rfl rfl
                      · refine ry_sw hf (fun hf => ?_) (fun n36 hf => ?_)
                        · iterate 4 (refine ry_step rfl rfl ?_)
                          refine ry_br hf (fun hc hf => ?_) (fun hc hf => ?_)
                          · refine ry_step rfl rfl ?_
                            cases hf
                            exact ry_ret rfl rfl
                          · iterate 2 (refine ry_step rfl rfl ?_)
                            cases hf
                            exact ry_ret rfl rfl
                        · have m25 := xne_toInt (k := 25) rfl n25
                          have m26 := xne_toInt (k := 26) rfl n26
                          have m27 := xne_toInt (k := 27) rfl n27
                          have m28 := xne_toInt (k := 28) rfl n28
                          have m29 := xne_toInt (k := 29) rfl n29
                          have m30 := xne_toInt (k := 30) rfl n30
                          have m31 := xne_toInt (k := 31) rfl n31
                          have m32 := xne_toInt (k := 32) rfl n32
                          have m33 := xne_toInt (k := 33) rfl n33
                          have m34 := xne_toInt (k := 34) rfl n34
                          have m35 := xne_toInt (k := 35) rfl n35
                          have m36 := xne_toInt (k := 36) rfl n36
                          refine ry_tb rfl (by omega) ?_
                          iterate 3 (refine ry_step rfl rfl ?_)
                          refine ry_br hf (fun hc hf => ?_) (fun hc hf => ?_)
                          · refine ry_step rfl rfl ?_
                            cases hf
                            exact ry_ret rfl rfl
                          · iterate 2 (refine ry_step rfl rfl ?_)
                            cases hf
                            exact ry_ret rfl rfl
def fX2_isGone (v0 : Int32) (S : yS) : Option Int32 := (if (fX11_isIn (S.1 19 0) v0) = 0 ∨ (fX11_isIn (S.1 19 0) v0) = 1 then some (fX11_isIn (S.1 19 0) v0) else none)
set_option maxRecDepth 4000 in
theorem tX2_isGone {ro : xRo} {T : yK} {S : yS} {d : Nat} {v0 : Int32} {q : Int32} (hf : fX2_isGone v0 S = some q) : yEv ro xNo (yKx T) (d + 2) jX2_isGone [.ref 19, .int v0] S (some (.int q)) S := by
  refine ry_meth pX2_isGone rfl (fun z => ?_)
  unfold fX2_isGone at hf
  iterate 3 (refine ry_step rfl rfl ?_)
  refine ry_call rfl rfl rfl rfl rfl tX11_isIn ?_
  exact ry_retz (S' := S) hf rfl rfl rfl (fun h => by cases h; rfl)
def fX2_markGone (v0 : Int32) (S : yS) : Option yS := pSt (ySi S 19 0 ((S.1 19 0) ||| ((Int32.ofInt 1) <<< (v0 &&& 31)))) fun S1 => some S1
set_option maxRecDepth 4000 in
theorem tX2_markGone {ro : xRo} {T : yK} {S : yS} {d : Nat} {v0 : Int32} {S' : yS} (hf : fX2_markGone v0 S = some S') : yEv ro xNo (yKx T) (d + 1) jX2_markGone [.ref 19, .int v0] S (none) S' := by
  refine ry_meth pX2_markGone rfl (fun z => ?_)
  unfold fX2_markGone at hf
  iterate 7 (refine ry_step rfl rfl ?_)
  refine ry_stepS hf rfl rfl (fun S1 hf => ?_)
  cases hf
  exact ry_ret rfl rfl
def fX2_markBack (v0 : Int32) (S : yS) : Option yS := pSt (ySi S 19 0 ((S.1 19 0) &&& (((Int32.ofInt 1) <<< (v0 &&& 31)) ^^^ (Int32.ofInt (-1))))) fun S1 => some S1
set_option maxRecDepth 4000 in
theorem tX2_markBack {ro : xRo} {T : yK} {S : yS} {d : Nat} {v0 : Int32} {S' : yS} (hf : fX2_markBack v0 S = some S') : yEv ro xNo (yKx T) (d + 1) jX2_markBack [.ref 19, .int v0] S (none) S' := by
  refine ry_meth pX2_markBack rfl (fun z => ?_)
  unfold fX2_markBack at hf
  iterate 9 (refine ry_step rfl rfl ?_)
  refine ry_stepS hf rfl rfl (fun S1 hf => ?_)
  cases hf
  exact ry_ret rfl rfl
def fX2_noteCame (v0 : Int32) (S : yS) : Option yS := (ain 8 v0).bind fun j1 => (if (Int32.ofInt 9999) ≤ (S.2.2.1 20 j1) then some S else (ain 8 v0).bind fun j2 => (ain 8 v0).bind fun j4 => pSt (ySa S 20 (upd (S.2.2.1 20) j4 ((S.2.2.1 20 j2) + (Int32.ofInt 1)))) fun S3 => some S3)
set_option maxRecDepth 4000 in
theorem tX2_noteCame {ro : xRo} {T : yK} {S : yS} {d : Nat} {v0 : Int32} {S' : yS} (hf : fX2_noteCame v0 S = some S') : yEv ro xNo (yKx T) (d + 1) jX2_noteCame [.ref 19, .int v0] S (none) S' := by
  refine ry_meth pX2_noteCame rfl (fun z => ?_)
  unfold fX2_noteCame at hf
  iterate 3 (refine ry_step rfl rfl ?_)
  refine ry_iald hf rfl rfl rfl (fun j1 hf => ?_)
  iterate 2 (refine ry_step rfl rfl ?_)
  refine ry_br hf (fun hc hf => ?_) (fun hc hf => ?_)
  · cases hf
    exact ry_ret rfl rfl
  · iterate 4 (refine ry_step rfl rfl ?_)
    refine ry_iald hf rfl rfl rfl (fun j2 hf => ?_)
    iterate 2 (refine ry_step rfl rfl ?_)
    refine ry_iast hf rfl rfl (fun j4 S3 hf => ?_)
    cases hf
    exact ry_ret rfl rfl
def fX2_draw (S : yS) : Option (Int32 × yS) := pSt (ySi S 19 5 ((((S.1 19 5) * (Int32.ofInt 661)) + (Int32.ofInt 541)) - (((S.1 19 5) * (Int32.ofInt 661)) + (Int32.ofInt 541)) / (Int32.ofInt 30949) * (Int32.ofInt 30949))) fun S1 => some ((S.1 19 5), S1)
set_option maxRecDepth 4000 in
theorem tX2_draw {ro : xRo} {T : yK} {S : yS} {d : Nat} {q : Int32} {S' : yS} (hf : fX2_draw  S = some (q, S')) : yEv ro xNo (yKx T) (d + 1) jX2_draw [.ref 19] S (some (.int q)) S' := by
  refine ry_meth pX2_draw rfl (fun z => ?_)
  unfold fX2_draw at hf
  iterate 12 (refine ry_step rfl rfl ?_)
  refine ry_stepS hf rfl rfl (fun S1 hf => ?_)
  refine ry_step rfl rfl ?_
  cases hf
  exact ry_ret rfl rfl
def fX2_write (v0 : Int32) (S : yS) : Option yS := (if (S.1 19 8) < (Int32.ofInt 25) then (ain 25 (S.1 19 8)).bind fun j3 => pSt (ySa S 21 (upd (S.2.2.1 21) j3 (((((S.1 19 4) <<< ((Int32.ofInt 16) &&& 31)) ||| ((S.1 19 2) <<< ((Int32.ofInt 12) &&& 31))) ||| ((S.1 19 3) <<< ((Int32.ofInt 8) &&& 31))) ||| (v0 + (Int32.ofInt 99))))) fun S1 => pSt (ySi S1 19 8 ((S1.1 19 8) + (Int32.ofInt 1))) fun S2 => some S2 else pSt (ySa S 21 (va_cpy (S.2.2.1 21) (S.2.2.1 21) 1 0 24)) fun S4 => pSt (ySi S4 19 8 (Int32.ofInt 24)) fun S5 => (ain 25 (S5.1 19 8)).bind fun j8 => pSt (ySa S5 21 (upd (S5.2.2.1 21) j8 (((((S5.1 19 4) <<< ((Int32.ofInt 16) &&& 31)) ||| ((S5.1 19 2) <<< ((Int32.ofInt 12) &&& 31))) ||| ((S5.1 19 3) <<< ((Int32.ofInt 8) &&& 31))) ||| (v0 + (Int32.ofInt 99))))) fun S6 => pSt (ySi S6 19 8 ((S6.1 19 8) + (Int32.ofInt 1))) fun S7 => some S7)
set_option maxRecDepth 4000 in
theorem tX2_write {ro : xRo} {T : yK} {S : yS} {d : Nat} {v0 : Int32} {S' : yS} (hf : fX2_write v0 S = some S') : yEv ro xNo (yKx T) (d + 1) jX2_write [.ref 19, .int v0] S (none) S' := by
  refine ry_meth pX2_write rfl (fun z => ?_)
  unfold fX2_write at hf
  iterate 4 (refine ry_step rfl rfl ?_)
  refine ry_br hf (fun hc hf => ?_) (fun hc hf => ?_)
  · iterate 22 (refine ry_step rfl rfl ?_)
    refine ry_iast hf rfl rfl (fun j3 S1 hf => ?_)
    iterate 5 (refine ry_step rfl rfl ?_)
    refine ry_stepS hf rfl rfl (fun S2 hf => ?_)
    cases hf
    exact ry_ret rfl rfl
  · iterate 7 (refine ry_step rfl rfl ?_)
    refine ry_stepS hf rfl rfl (fun S4 hf => ?_)
    iterate 2 (refine ry_step rfl rfl ?_)
    refine ry_stepS hf rfl rfl (fun S5 hf => ?_)
    iterate 22 (refine ry_step rfl rfl ?_)
    refine ry_iast hf rfl rfl (fun j8 S6 hf => ?_)
    iterate 5 (refine ry_step rfl rfl ?_)
    refine ry_stepS hf rfl rfl (fun S7 hf => ?_)
    cases hf
    exact ry_ret rfl rfl
def fX2_onPage (v0 : Int32) (v1 : Int32) (S : yS) : Option Int32 := (ain 25 v0).bind fun j1 => (if v1 = (Int32.ofInt 0) then some ((S.2.2.1 21 j1) >>> ((Int32.ofInt 16) &&& 31)) else (if v1 = (Int32.ofInt 1) then some (((S.2.2.1 21 j1) >>> ((Int32.ofInt 12) &&& 31)) &&& (Int32.ofInt 15)) else (if v1 = (Int32.ofInt 2) then some (((S.2.2.1 21 j1) >>> ((Int32.ofInt 8) &&& 31)) &&& (Int32.ofInt 15)) else some (((S.2.2.1 21 j1) &&& (Int32.ofInt 255)) - (Int32.ofInt 99)))))
set_option maxRecDepth 4000 in
theorem tX2_onPage {ro : xRo} {T : yK} {S : yS} {d : Nat} {v0 : Int32} {v1 : Int32} {q : Int32} (hf : fX2_onPage v0 v1 S = some q) : yEv ro xNo (yKx T) (d + 1) jX2_onPage [.ref 19, .int v0, .int v1] S (some (.int q)) S := by
  refine ry_meth pX2_onPage rfl (fun z => ?_)
  unfold fX2_onPage at hf
  iterate 3 (refine ry_step rfl rfl ?_)
  refine ry_iald hf rfl rfl rfl (fun j1 hf => ?_)
  iterate 2 (refine ry_step rfl rfl ?_)
  refine ry_sw hf (fun hf => ?_) (fun n0 hf => ?_)
  · iterate 4 (refine ry_step rfl rfl ?_)
    cases hf
    exact ry_ret rfl rfl
  · refine ry_sw hf (fun hf => ?_) (fun n1 hf => ?_)
    · iterate 6 (refine ry_step rfl rfl ?_)
      cases hf
      exact ry_ret rfl rfl
    · refine ry_sw hf (fun hf => ?_) (fun n2 hf => ?_)
      · iterate 6 (refine ry_step rfl rfl ?_)
        cases hf
        exact ry_ret rfl rfl
      · have m0 := xne_toInt (k := 0) rfl n0
        have m1 := xne_toInt (k := 1) rfl n1
        have m2 := xne_toInt (k := 2) rfl n2
        refine ry_tb rfl (by omega) ?_
        iterate 5 (refine ry_step rfl rfl ?_)
        cases hf
        exact ry_ret rfl rfl
def lX2_countWritten (N : Nat) : Nat → Int32 → Int32 → Int32 → yS → Option Int32
  | 0, _, _, _, _ => none
  | n + 1, l1, l2, l3, S => (if (S.1 19 8) ≤ l3 then some l2 else (fX2_onPage l3 (Int32.ofInt 2) S).bind fun u2 => (if ¬ u2 = l1 then lX2_countWritten N n l1 l2 (l3 + (Int32.ofInt 1)) S else lX2_countWritten N n l1 (l2 + (Int32.ofInt 1)) (l3 + (Int32.ofInt 1)) S))
set_option maxRecDepth 4000 in
theorem uX2_countWritten {ro : xRo} {T : yK} {d N : Nat} : ∀ n : Nat, (∀ (l1 : Int32) (l2 : Int32) (l3 : Int32) (S : yS) {q : Int32}, lX2_countWritten N n l1 l2 l3 S = some q → ∀ z, Ry ro xNo (yKx T) z (d + 1) mX2_countWritten 4 [(0, .ref 19), (1, .int l1), (2, .int l2), (3, .int l3)] [] S (some (.int q), yH (yKx T) z S)) := by
  intro n
  induction n with
  | zero => exact (by intro _ _ _ _ _ hf; cases hf)
  | succ n ih =>
    intro l1 l2 l3 S q hf z
    unfold lX2_countWritten at hf
    iterate 4 (refine ry_step rfl rfl ?_)
    refine ry_br hf (fun hc hf => ?_) (fun hc hf => ?_)
    · refine ry_step rfl rfl ?_
      cases hf
      exact ry_ret rfl rfl
    · iterate 3 (refine ry_step rfl rfl ?_)
      obtain ⟨u2, hv1, hf⟩ := Option.bind_eq_some_iff.mp hf
      refine ry_call rfl rfl rfl rfl rfl (tX2_onPage hv1) ?_
      iterate 2 (refine ry_step rfl rfl ?_)
      refine ry_br hf (fun hc hf => ?_) (fun hc hf => ?_)
      · iterate 2 (refine ry_step rfl rfl ?_)
        refine ry_sub [1, 2, 3, 0] rfl rfl ?_
        exact ih l1 l2 (l3 + (Int32.ofInt 1)) S hf _
      · iterate 3 (refine ry_step rfl rfl ?_)
        refine ry_sub [2, 3, 1, 0] rfl rfl ?_
        exact ih l1 (l2 + (Int32.ofInt 1)) (l3 + (Int32.ofInt 1)) S hf _
def fX2_countWritten (N : Nat) (v0 : Int32) (S : yS) : Option Int32 := lX2_countWritten N N v0 (Int32.ofInt 0) (Int32.ofInt 0) S
set_option maxRecDepth 4000 in
theorem tX2_countWritten {ro : xRo} {T : yK} {S : yS} {d N : Nat} {v0 : Int32} {q : Int32} (hf : fX2_countWritten N v0 S = some q) : yEv ro xNo (yKx T) (d + 2) jX2_countWritten [.ref 19, .int v0] S (some (.int q)) S := by
  refine ry_meth pX2_countWritten rfl (fun z => ?_)
  unfold fX2_countWritten at hf
  iterate 4 (refine ry_step rfl rfl ?_)
  refine ry_sub [2, 3, 1, 0] rfl rfl ?_
  exact uX2_countWritten (ro := ro) _ v0 (Int32.ofInt 0) (Int32.ofInt 0) S hf _
def fX3_add (v0 : Int32) (v1 : Int32) (S : yS) : Option (Int32 × yS) := (if (Int32.ofInt 12) ≤ (S.1 119 2) then some ((S.1 119 2), S) else (ain 12 (S.1 119 2)).bind fun j5 => pSt (ySa S 120 (upd (S.2.2.1 120) j5 v0)) fun S1 => (ain 12 (S1.1 119 2)).bind fun j4 => if v1 = 0 ∨ v1 = 1 then pSt (ySa S1 121 (upd (S1.2.2.1 121) j4 v1)) fun S2 => pSt (ySi S2 119 2 ((S2.1 119 2) + (Int32.ofInt 1))) fun S3 => some ((S3.1 119 2), S3) else none)
set_option maxRecDepth 4000 in
theorem tX3_add {ro : xRo} {T : yK} {S : yS} {d : Nat} {v0 : Int32} {v1 : Int32} {q : Int32} {S' : yS} (hf : fX3_add v0 v1 S = some (q, S')) : yEv ro xNo (yKx T) (d + 1) jX3_add [.ref 119, .int v0, .int v1] S (some (.int q)) S' := by
  refine ry_meth pX3_add rfl (fun z => ?_)
  unfold fX3_add at hf
  iterate 4 (refine ry_step rfl rfl ?_)
  refine ry_br hf (fun hc hf => ?_) (fun hc hf => ?_)
  · iterate 2 (refine ry_step rfl rfl ?_)
    cases hf
    exact ry_ret rfl rfl
  · iterate 5 (refine ry_step rfl rfl ?_)
    refine ry_iast hf rfl rfl (fun j5 S1 hf => ?_)
    iterate 5 (refine ry_step rfl rfl ?_)
    refine ry_zast (E := fun j4 S2 => pSt (ySi S2 119 2 ((S2.1 119 2) + (Int32.ofInt 1))) fun S3 => some ((S3.1 119 2), S3)) hf rfl rfl (fun j4 S2 hf => ?_)
    iterate 5 (refine ry_step rfl rfl ?_)
    refine ry_stepS hf rfl rfl (fun S3 hf => ?_)
    iterate 2 (refine ry_step rfl rfl ?_)
    cases hf
    exact ry_ret rfl rfl
def lX3_fits (N : Nat) : Nat → Int32 → Int32 → Int32 → yS → Option Int32
  | 0, _, _, _, _ => none
  | n + 1, l1, l2, l3, S => (if l1 ≤ 0 then some (Int32.ofInt 1) else (if (S.1 119 2) ≤ l3 then some (Int32.ofInt 1) else (ain 12 l3).bind fun j1 => (if l1 = 0 then none else (if ¬ ((S.2.2.1 120 j1) - (S.2.2.1 120 j1) / l1 * l1) = l2 then (ain 12 l3).bind fun j2 => (if (Int32.ofInt 0) = (S.2.2.1 121 j2) then lX3_fits N n l1 l2 (l3 + (Int32.ofInt 1)) S else some (Int32.ofInt 0)) else (ain 12 l3).bind fun j3 => (if (Int32.ofInt 1) = (S.2.2.1 121 j3) then lX3_fits N n l1 l2 (l3 + (Int32.ofInt 1)) S else some (Int32.ofInt 0))))))
set_option maxRecDepth 4000 in
theorem uX3_fits {ro : xRo} {T : yK} {d N : Nat} : ∀ n : Nat, (∀ (l1 : Int32) (l2 : Int32) (l3 : Int32) (S : yS) {q : Int32}, lX3_fits N n l1 l2 l3 S = some q → ∀ z, Ry ro xNo (yKx T) z (d + 0) mX3_fits 2 [(0, .ref 119), (1, .int l1), (2, .int l2), (3, .int l3)] [] S (some (.int q), yH (yKx T) z S)) := by
  intro n
  induction n with
  | zero => exact (by intro _ _ _ _ _ hf; cases hf)
  | succ n ih =>
    intro l1 l2 l3 S q hf z
    unfold lX3_fits at hf
    iterate 2 (refine ry_step rfl rfl ?_)
    refine ry_br hf (fun hc hf => ?_) (fun hc hf => ?_)
    · refine ry_step rfl rfl ?_
      cases hf
      exact ry_ret rfl rfl
    · iterate 4 (refine ry_step rfl rfl ?_)
      refine ry_br hf (fun hc hf => ?_) (fun hc hf => ?_)
      · refine ry_step rfl rfl ?_
        cases hf
        exact ry_ret rfl rfl
      · iterate 3 (refine ry_step rfl rfl ?_)
        refine ry_iald hf rfl rfl rfl (fun j1 hf => ?_)
        refine ry_step rfl rfl ?_
        refine ry_rem hf rfl (fun hf => ?_)
        iterate 2 (refine ry_step rfl rfl ?_)
        refine ry_br hf (fun hc hf => ?_) (fun hc hf => ?_)
        · iterate 4 (refine ry_step rfl rfl ?_)
          refine ry_zald hf rfl rfl rfl (fun j2 hf => ?_)
          refine ry_step rfl rfl ?_
          refine ry_br hf (fun hc hf => ?_) (fun hc hf => ?_)
          · iterate 2 (refine ry_step rfl rfl ?_)
            refine ry_sub [1, 2, 3, 0] rfl rfl ?_
            exact ih l1 l2 (l3 + (Int32.ofInt 1)) S hf _
          · refine ry_step rfl rfl ?_
            cases hf
            exact ry_ret rfl rfl
        · iterate 5 (refine ry_step rfl rfl ?_)
          refine ry_zald hf rfl rfl rfl (fun j3 hf => ?_)
          refine ry_step rfl rfl ?_
          refine ry_br hf (fun hc hf => ?_) (fun hc hf => ?_)
          · iterate 2 (refine ry_step rfl rfl ?_)
            refine ry_sub [1, 2, 3, 0] rfl rfl ?_
            exact ih l1 l2 (l3 + (Int32.ofInt 1)) S hf _
          · refine ry_step rfl rfl ?_
            cases hf
            exact ry_ret rfl rfl
def fX3_fits (N : Nat) (v0 : Int32) (v1 : Int32) (S : yS) : Option Int32 := lX3_fits N N v0 v1 (Int32.ofInt 0) S
set_option maxRecDepth 4000 in
theorem tX3_fits {ro : xRo} {T : yK} {S : yS} {d N : Nat} {v0 : Int32} {v1 : Int32} {q : Int32} (hf : fX3_fits N v0 v1 S = some q) : yEv ro xNo (yKx T) (d + 1) jX3_fits [.ref 119, .int v0, .int v1] S (some (.int q)) S := by
  refine ry_meth pX3_fits rfl (fun z => ?_)
  unfold fX3_fits at hf
  iterate 2 (refine ry_step rfl rfl ?_)
  refine ry_sub [1, 2, 3, 0] rfl rfl ?_
  exact uX3_fits (ro := ro) _ v0 v1 (Int32.ofInt 0) S hf _
def lX3_countFitting (N : Nat) : Nat → Nat → Int32 → Int32 → Int32 → yS → Option Int32
  | 0, _, _, _, _, _ => none
  | n + 1, m, l1, l2, l3, S => if m = 0 then (if (Int32.ofInt 12) < l2 then some l1 else lX3_countFitting N n 1 l1 l2 (Int32.ofInt 0) S) else (if l2 ≤ l3 then lX3_countFitting N n 0 l1 (l2 + (Int32.ofInt 1)) 0 S else (fX3_fits N l2 l3 S).bind fun u2 => (if u2 = 0 then lX3_countFitting N n 1 l1 l2 (l3 + (Int32.ofInt 1)) S else lX3_countFitting N n 1 (l1 + (Int32.ofInt 1)) l2 (l3 + (Int32.ofInt 1)) S))
set_option maxRecDepth 4000 in
theorem uX3_countFitting {ro : xRo} {T : yK} {d N : Nat} : ∀ n : Nat, (∀ (l1 : Int32) (l2 : Int32) (l3 : Int32) (S : yS) {q : Int32}, lX3_countFitting N n 0 l1 l2 l3 S = some q → ∀ z, Ry ro xNo (yKx T) z (d + 1) mX3_countFitting 4 [(0, .ref 119), (1, .int l1), (2, .int l2)] [] S (some (.int q), yH (yKx T) z S)) ∧ (∀ (l1 : Int32) (l2 : Int32) (l3 : Int32) (S : yS) {q : Int32}, lX3_countFitting N n 1 l1 l2 l3 S = some q → ∀ z, Ry ro xNo (yKx T) z (d + 1) mX3_countFitting 12 [(0, .ref 119), (1, .int l1), (2, .int l2), (3, .int l3)] [] S (some (.int q), yH (yKx T) z S)) := by
  intro n
  induction n with
  | zero => exact ⟨(by intro _ _ _ _ _ hf; cases hf), (by intro _ _ _ _ _ hf; cases hf)⟩
  | succ n ih =>
    refine ⟨?_, ?_⟩
    · intro l1 l2 l3 S q hf z
      unfold lX3_countFitting at hf
      rw [if_pos rfl] at hf
      iterate 3 (refine ry_step rfl rfl ?_)
      refine ry_br hf (fun hc hf => ?_) (fun hc hf => ?_)
      · refine ry_step rfl rfl ?_
        cases hf
        exact ry_ret rfl rfl
      · iterate 2 (refine ry_step rfl rfl ?_)
        refine ry_sub [1, 2, 3, 0] rfl rfl ?_
        exact ih.2 l1 l2 (Int32.ofInt 0) S hf _
    · intro l1 l2 l3 S q hf z
      unfold lX3_countFitting at hf
      rw [if_neg (by decide)] at hf; skip
      iterate 3 (refine ry_step rfl rfl ?_)
      refine ry_br hf (fun hc hf => ?_) (fun hc hf => ?_)
      · iterate 2 (refine ry_step rfl rfl ?_)
        refine ry_sub [1, 2, 0] rfl rfl ?_
        exact ih.1 l1 (l2 + (Int32.ofInt 1)) 0 S hf _
      · iterate 3 (refine ry_step rfl rfl ?_)
        obtain ⟨u2, hv1, hf⟩ := Option.bind_eq_some_iff.mp hf
        refine ry_call rfl rfl rfl rfl rfl (tX3_fits hv1) ?_
        refine ry_step rfl rfl ?_
        refine ry_br hf (fun hc hf => ?_) (fun hc hf => ?_)
        · iterate 2 (refine ry_step rfl rfl ?_)
          refine ry_sub [1, 2, 3, 0] rfl rfl ?_
          exact ih.2 l1 l2 (l3 + (Int32.ofInt 1)) S hf _
        · iterate 3 (refine ry_step rfl rfl ?_)
          refine ry_sub [2, 1, 3, 0] rfl rfl ?_
          exact ih.2 (l1 + (Int32.ofInt 1)) l2 (l3 + (Int32.ofInt 1)) S hf _
def fX3_countFitting (N : Nat) (S : yS) : Option Int32 := lX3_countFitting N N 0 (Int32.ofInt 0) (Int32.ofInt 1) 0 S
set_option maxRecDepth 4000 in
theorem tX3_countFitting {ro : xRo} {T : yK} {S : yS} {d N : Nat} {q : Int32} (hf : fX3_countFitting N  S = some q) : yEv ro xNo (yKx T) (d + 2) jX3_countFitting [.ref 119] S (some (.int q)) S := by
  refine ry_meth pX3_countFitting rfl (fun z => ?_)
  unfold fX3_countFitting at hf
  iterate 4 (refine ry_step rfl rfl ?_)
  refine ry_sub [2, 1, 0] rfl rfl ?_
  exact (uX3_countFitting (ro := ro) _).1 (Int32.ofInt 0) (Int32.ofInt 1) 0 S hf _
def lX3_leastPhase (N : Nat) : Nat → Int32 → Int32 → yS → Option Int32
  | 0, _, _, _ => none
  | n + 1, l1, l2, S => (if l1 ≤ l2 then some (Int32.ofInt (-1)) else (fX3_fits N l1 l2 S).bind fun u2 => (if u2 = 0 then lX3_leastPhase N n l1 (l2 + (Int32.ofInt 1)) S else some l2))
set_option maxRecDepth 4000 in
theorem uX3_leastPhase {ro : xRo} {T : yK} {d N : Nat} : ∀ n : Nat, (∀ (l1 : Int32) (l2 : Int32) (S : yS) {q : Int32}, lX3_leastPhase N n l1 l2 S = some q → ∀ z, Ry ro xNo (yKx T) z (d + 1) mX3_leastPhase 2 [(0, .ref 119), (1, .int l1), (2, .int l2)] [] S (some (.int q), yH (yKx T) z S)) := by
  intro n
  induction n with
  | zero => exact (by intro _ _ _ _ hf; cases hf)
  | succ n ih =>
    intro l1 l2 S q hf z
    unfold lX3_leastPhase at hf
    iterate 3 (refine ry_step rfl rfl ?_)
    refine ry_br hf (fun hc hf => ?_) (fun hc hf => ?_)
    · refine ry_step rfl rfl ?_
      cases hf
      exact ry_ret rfl rfl
    · iterate 3 (refine ry_step rfl rfl ?_)
      obtain ⟨u2, hv1, hf⟩ := Option.bind_eq_some_iff.mp hf
      refine ry_call rfl rfl rfl rfl rfl (tX3_fits hv1) ?_
      refine ry_step rfl rfl ?_
      refine ry_br hf (fun hc hf => ?_) (fun hc hf => ?_)
      · iterate 2 (refine ry_step rfl rfl ?_)
        refine ry_sub [1, 2, 0] rfl rfl ?_
        exact ih l1 (l2 + (Int32.ofInt 1)) S hf _
      · refine ry_step rfl rfl ?_
        cases hf
        exact ry_ret rfl rfl
def fX3_leastPhase (N : Nat) (v0 : Int32) (S : yS) : Option Int32 := lX3_leastPhase N N v0 (Int32.ofInt 0) S
set_option maxRecDepth 4000 in
theorem tX3_leastPhase {ro : xRo} {T : yK} {S : yS} {d N : Nat} {v0 : Int32} {q : Int32} (hf : fX3_leastPhase N v0 S = some q) : yEv ro xNo (yKx T) (d + 2) jX3_leastPhase [.ref 119, .int v0] S (some (.int q)) S := by
  refine ry_meth pX3_leastPhase rfl (fun z => ?_)
  unfold fX3_leastPhase at hf
  iterate 2 (refine ry_step rfl rfl ?_)
  refine ry_sub [1, 2, 0] rfl rfl ?_
  exact uX3_leastPhase (ro := ro) _ v0 (Int32.ofInt 0) S hf _
def lX4_allVotes (N : Nat) : Nat → Int32 → Int32 → Int32 → yS → Option Int32
  | 0, _, _, _, _ => none
  | n + 1, l1, l3, l4, S => (if l3 ≤ l4 then some l1 else (ain 5 l4).bind fun j1 => lX4_allVotes N n (l1 + (S.2.2.1 125 j1)) l3 (l4 + (Int32.ofInt 1)) S)
set_option maxRecDepth 4000 in
theorem uX4_allVotes {ro : xRo} {T : yK} {d N : Nat} : ∀ n : Nat, (∀ (l1 : Int32) (l3 : Int32) (l4 : Int32) (S : yS) {q : Int32}, lX4_allVotes N n l1 l3 l4 S = some q → ∀ z, Ry ro xNo (yKx T) z (d + 0) mX4_allVotes 13 [(1, .int l1), (2, .ref 125), (3, .int l3), (4, .int l4)] [] S (some (.int q), yH (yKx T) z S)) := by
  intro n
  induction n with
  | zero => exact (by intro _ _ _ _ _ hf; cases hf)
  | succ n ih =>
    intro l1 l3 l4 S q hf z
    unfold lX4_allVotes at hf
    iterate 3 (refine ry_step rfl rfl ?_)
    refine ry_br hf (fun hc hf => ?_) (fun hc hf => ?_)
    · refine ry_step rfl rfl ?_
      cases hf
      exact ry_ret rfl rfl
    · iterate 2 (refine ry_step rfl rfl ?_)
      refine ry_iald hf rfl rfl rfl (fun j1 hf => ?_)
      iterate 7 (refine ry_step rfl rfl ?_)
      refine ry_sub [1, 3, 4, 0] rfl rfl ?_
      exact ih (l1 + (S.2.2.1 125 j1)) l3 (l4 + (Int32.ofInt 1)) S hf _
def fX4_allVotes (N : Nat) (S : yS) : Option Int32 := lX4_allVotes N N (Int32.ofInt 0) (Int32.ofNat 5) (Int32.ofInt 0) S
set_option maxRecDepth 4000 in
theorem tX4_allVotes {ro : xRo} {T : yK} {S : yS} {d N : Nat} {q : Int32} (hf : fX4_allVotes N  S = some q) : yEv ro xNo (yKx T) (d + 1) jX4_allVotes [.ref 124] S (some (.int q)) S := by
  refine ry_meth pX4_allVotes rfl (fun z => ?_)
  unfold fX4_allVotes at hf
  iterate 10 (refine ry_step rfl rfl ?_)
  refine ry_sub [3, 2, 1, 0] rfl rfl ?_
  exact uX4_allVotes (ro := ro) _ (Int32.ofInt 0) (Int32.ofNat 5) (Int32.ofInt 0) S hf _
def fX5_kind (S : yS) : Option Int32 := (if (S.1 250 1) < 0 then some (Int32.ofInt 40) else (if (S.1 251 5) ≤ (S.1 250 1) then some (Int32.ofInt 40) else (ain 301 (S.1 250 1)).bind fun j1 => some (S.2.2.1 253 j1)))
set_option maxRecDepth 4000 in
theorem tX5_kind {ro : xRo} {T : yK} {S : yS} {d : Nat} {q : Int32} (hf : fX5_kind  S = some q) : yEv ro xNo (yKx T) (d + 1) jX5_kind [.ref 250] S (some (.int q)) S := by
  refine ry_meth pX5_kind rfl (fun z => ?_)
  unfold fX5_kind at hf
  iterate 3 (refine ry_step rfl rfl ?_)
  refine ry_br hf (fun hc hf => ?_) (fun hc hf => ?_)
  · refine ry_step rfl rfl ?_
    cases hf
    exact ry_ret rfl rfl
  · iterate 6 (refine ry_step rfl rfl ?_)
    refine ry_br hf (fun hc hf => ?_) (fun hc hf => ?_)
    · refine ry_step rfl rfl ?_
      cases hf
      exact ry_ret rfl rfl
    · iterate 5 (refine ry_step rfl rfl ?_)
      refine ry_iald hf rfl rfl rfl (fun j1 hf => ?_)
      refine ry_step rfl rfl ?_
      cases hf
      exact ry_ret rfl rfl
def fX5_fail (v0 : Int32) (S : yS) : Option yS := (if ¬ (S.1 250 3) = 0 then pSt (ySi S 250 1 ((S.1 251 5) - (Int32.ofInt 1))) fun S1 => some S1 else (if (fX11_within (S.1 250 1) (Int32.ofInt 0) ((S.1 251 5) - (Int32.ofInt 1))) = 0 then pSt (ySi S 250 1 ((S.1 251 5) - (Int32.ofInt 1))) fun S2 => some S2 else pSt (ySi S 250 3 v0) fun S3 => (ain 301 (S3.1 250 1)).bind fun j4 => pSt (ySi S3 250 4 (S3.2.2.1 254 j4)) fun S5 => pSt (ySi S5 250 1 ((S5.1 251 5) - (Int32.ofInt 1))) fun S6 => some S6))
set_option maxRecDepth 4000 in
theorem tX5_fail {ro : xRo} {T : yK} {S : yS} {d : Nat} {v0 : Int32} {S' : yS} (hf : fX5_fail v0 S = some S') : yEv ro xNo (yKx T) (d + 2) jX5_fail [.ref 250, .int v0] S (none) S' := by
  refine ry_meth pX5_fail rfl (fun z => ?_)
  unfold fX5_fail at hf
  iterate 3 (refine ry_step rfl rfl ?_)
  refine ry_br hf (fun hc hf => ?_) (fun hc hf => ?_)
  · iterate 6 (refine ry_step rfl rfl ?_)
    refine ry_stepS hf rfl rfl (fun S1 hf => ?_)
    cases hf
    exact ry_ret rfl rfl
  · iterate 8 (refine ry_step rfl rfl ?_)
    refine ry_call rfl rfl rfl rfl rfl tX11_within ?_
    refine ry_step rfl rfl ?_
    refine ry_br hf (fun hc hf => ?_) (fun hc hf => ?_)
    · iterate 6 (refine ry_step rfl rfl ?_)
      refine ry_stepS hf rfl rfl (fun S2 hf => ?_)
      cases hf
      exact ry_ret rfl rfl
    · iterate 2 (refine ry_step rfl rfl ?_)
      refine ry_stepS hf rfl rfl (fun S3 hf => ?_)
      iterate 6 (refine ry_step rfl rfl ?_)
      refine ry_iald hf rfl rfl rfl (fun j4 hf => ?_)
      refine ry_stepS hf rfl rfl (fun S5 hf => ?_)
      iterate 6 (refine ry_step rfl rfl ?_)
      refine ry_stepS hf rfl rfl (fun S6 hf => ?_)
      cases hf
      exact ry_ret rfl rfl
def fX5_expect (v0 : Int32) (S : yS) : Option yS := (fX5_kind  S).bind fun u2 => (if ¬ u2 = v0 then (fX5_fail (Int32.ofInt 1) S).bind fun S4 => some S4 else pSt (ySi S 250 1 ((S.1 250 1) + (Int32.ofInt 1))) fun S5 => some S5)
set_option maxRecDepth 4000 in
theorem tX5_expect {ro : xRo} {T : yK} {S : yS} {d : Nat} {v0 : Int32} {S' : yS} (hf : fX5_expect v0 S = some S') : yEv ro xNo (yKx T) (d + 3) jX5_expect [.ref 250, .int v0] S (none) S' := by
  refine ry_meth pX5_expect rfl (fun z => ?_)
  unfold fX5_expect at hf
  refine ry_step rfl rfl ?_
  obtain ⟨u2, hv1, hf⟩ := Option.bind_eq_some_iff.mp hf
  refine ry_call rfl rfl rfl rfl rfl (tX5_kind hv1) ?_
  iterate 2 (refine ry_step rfl rfl ?_)
  refine ry_br hf (fun hc hf => ?_) (fun hc hf => ?_)
  · iterate 2 (refine ry_step rfl rfl ?_)
    obtain ⟨S4, hv3, hf⟩ := Option.bind_eq_some_iff.mp hf
    refine ry_call rfl rfl rfl rfl rfl (tX5_fail hv3) ?_
    cases hf
    exact ry_ret rfl rfl
  · iterate 5 (refine ry_step rfl rfl ?_)
    refine ry_stepS hf rfl rfl (fun S5 hf => ?_)
    refine ry_step rfl rfl ?_
    cases hf
    exact ry_ret rfl rfl
def fX5_readNumber (v0 : Int32) (v1 : Int32) (S : yS) : Option (Int32 × yS) := (fX5_kind  S).bind fun u2 => (if u2 = (Int32.ofInt 38) then (ain 301 (S.1 250 1)).bind fun j3 => (if ¬ (fX11_within (S.2.2.1 255 j3) v0 v1) = 0 then pSt (ySi S 250 1 ((S.1 250 1) + (Int32.ofInt 1))) fun S4 => some ((S.2.2.1 255 j3), S4) else (fX5_fail (Int32.ofInt 2) S).bind fun S6 => some ((Int32.ofInt 0), S6)) else (fX5_fail (Int32.ofInt 1) S).bind fun S8 => some ((Int32.ofInt 0), S8))
set_option maxRecDepth 4000 in
theorem tX5_readNumber {ro : xRo} {T : yK} {S : yS} {d : Nat} {v0 : Int32} {v1 : Int32} {q : Int32} {S' : yS} (hf : fX5_readNumber v0 v1 S = some (q, S')) : yEv ro xNo (yKx T) (d + 3) jX5_readNumber [.ref 250, .int v0, .int v1] S (some (.int q)) S' := by
  refine ry_meth pX5_readNumber rfl (fun z => ?_)
  unfold fX5_readNumber at hf
  refine ry_step rfl rfl ?_
  obtain ⟨u2, hv1, hf⟩ := Option.bind_eq_some_iff.mp hf
  refine ry_call rfl rfl rfl rfl rfl (tX5_kind hv1) ?_
  iterate 2 (refine ry_step rfl rfl ?_)
  refine ry_br hf (fun hc hf => ?_) (fun hc hf => ?_)
  · iterate 5 (refine ry_step rfl rfl ?_)
    refine ry_iald hf rfl rfl rfl (fun j3 hf => ?_)
    iterate 4 (refine ry_step rfl rfl ?_)
    refine ry_call rfl rfl rfl rfl rfl tX11_within ?_
    refine ry_step rfl rfl ?_
    refine ry_br hf (fun hc hf => ?_) (fun hc hf => ?_)
    · iterate 5 (refine ry_step rfl rfl ?_)
      refine ry_stepS hf rfl rfl (fun S4 hf => ?_)
      refine ry_step rfl rfl ?_
      cases hf
      exact ry_ret rfl rfl
    · iterate 2 (refine ry_step rfl rfl ?_)
      obtain ⟨S6, hv5, hf⟩ := Option.bind_eq_some_iff.mp hf
      refine ry_call rfl rfl rfl rfl rfl (tX5_fail hv5) ?_
      refine ry_step rfl rfl ?_
      cases hf
      exact ry_ret rfl rfl
  · iterate 2 (refine ry_step rfl rfl ?_)
    obtain ⟨S8, hv7, hf⟩ := Option.bind_eq_some_iff.mp hf
    refine ry_call rfl rfl rfl rfl rfl (tX5_fail hv7) ?_
    refine ry_step rfl rfl ?_
    cases hf
    exact ry_ret rfl rfl
def fX5_readNumbers (v0 : Int32) (S : yS) : Option yS := (if v0 = (Int32.ofInt 0) then (fX5_readNumber (Int32.ofInt 1) (Int32.ofInt 60) S).bind fun (u37, S36) => (ain 24 (S.1 250 15)).bind fun j39 => pSt (ySa S36 259 (upd (S36.2.2.1 259) j39 u37)) fun S38 => some S38 else (if v0 = (Int32.ofInt 9) then (fX5_readNumber (Int32.ofInt 0) (Int32.ofInt 8) S).bind fun (u25, S24) => (ain 24 (S.1 250 15)).bind fun j34 => pSt (ySa S24 259 (upd (S24.2.2.1 259) j34 u25)) fun S26 => (fX5_expect (Int32.ofInt 24) S26).bind fun S28 => (fX5_readNumber (Int32.ofInt 0) (Int32.ofInt 9) S28).bind fun (u31, S30) => (ain 24 (S28.1 250 15)).bind fun j33 => pSt (ySa S30 260 (upd (S30.2.2.1 260) j33 u31)) fun S32 => some S32 else (if v0 = (Int32.ofInt 20) then (fX5_readNumber (Int32.ofInt 1) (Int32.ofInt 12) S).bind fun (u13, S12) => (ain 24 (S.1 250 15)).bind fun j22 => pSt (ySa S12 259 (upd (S12.2.2.1 259) j22 u13)) fun S14 => (fX5_expect (Int32.ofInt 5) S14).bind fun S16 => (fX5_readNumber (Int32.ofInt 0) (Int32.ofInt 10) S16).bind fun (u19, S18) => (ain 24 (S16.1 250 15)).bind fun j21 => pSt (ySa S18 260 (upd (S18.2.2.1 260) j21 u19)) fun S20 => some S20 else (if v0 = (Int32.ofInt 23) then (fX5_readNumber (Int32.ofInt 1) (Int32.ofInt 999) S).bind fun (u8, S7) => (ain 24 (S.1 250 15)).bind fun j10 => pSt (ySa S7 259 (upd (S7.2.2.1 259) j10 u8)) fun S9 => some S9 else (fX5_readNumber (Int32.ofInt 0) (Int32.ofInt 7) S).bind fun (u3, S2) => (ain 24 (S.1 250 15)).bind fun j5 => pSt (ySa S2 259 (upd (S2.2.2.1 259) j5 u3)) fun S4 => some S4))))
set_option maxRecDepth 4000 in
theorem tX5_readNumbers {ro : xRo} {T : yK} {S : yS} {d : Nat} {v0 : Int32} {S' : yS} (hf : fX5_readNumbers v0 S = some S') : yEv ro xNo (yKx T) (d + 4) jX5_readNumbers [.ref 250, .int v0] S (none) S' := by
  refine ry_meth pX5_readNumbers rfl (fun z => ?_)
  unfold fX5_readNumbers at hf
  refine ry_step rfl rfl ?_
  refine ry_sw hf (fun hf => ?_) (fun n0 hf => ?_)
  · iterate 8 (refine ry_step rfl rfl ?_)
    obtain ⟨⟨u37, S36⟩, hv35, hf⟩ := Option.bind_eq_some_iff.mp hf
    dsimp only at hf
    refine ry_call rfl rfl rfl rfl rfl (tX5_readNumber hv35) ?_
    refine ry_iast hf rfl rfl (fun j39 S38 hf => ?_)
    refine ry_step rfl rfl ?_
    cases hf
    exact ry_ret rfl rfl
  · refine ry_sw hf (fun hf => ?_) (fun n9 hf => ?_)
    · iterate 8 (refine ry_step rfl rfl ?_)
      obtain ⟨⟨u25, S24⟩, hv23, hf⟩ := Option.bind_eq_some_iff.mp hf
      dsimp only at hf
      refine ry_call rfl rfl rfl rfl rfl (tX5_readNumber hv23) ?_
      refine ry_iast hf rfl rfl (fun j34 S26 hf => ?_)
      iterate 2 (refine ry_step rfl rfl ?_)
      obtain ⟨S28, hv27, hf⟩ := Option.bind_eq_some_iff.mp hf
      refine ry_call rfl rfl rfl rfl rfl (tX5_expect hv27) ?_
      iterate 7 (refine ry_step rfl rfl ?_)
      obtain ⟨⟨u31, S30⟩, hv29, hf⟩ := Option.bind_eq_some_iff.mp hf
      dsimp only at hf
      refine ry_call rfl rfl rfl rfl rfl (tX5_readNumber hv29) ?_
      refine ry_iast hf rfl rfl (fun j33 S32 hf => ?_)
      refine ry_step rfl rfl ?_
      cases hf
      exact ry_ret rfl rfl
    · refine ry_sw hf (fun hf => ?_) (fun n20 hf => ?_)
      · iterate 8 (refine ry_step rfl rfl ?_)
        obtain ⟨⟨u13, S12⟩, hv11, hf⟩ := Option.bind_eq_some_iff.mp hf
        dsimp only at hf
        refine ry_call rfl rfl rfl rfl rfl (tX5_readNumber hv11) ?_
        refine ry_iast hf rfl rfl (fun j22 S14 hf => ?_)
        iterate 2 (refine ry_step rfl rfl ?_)
        obtain ⟨S16, hv15, hf⟩ := Option.bind_eq_some_iff.mp hf
        refine ry_call rfl rfl rfl rfl rfl (tX5_expect hv15) ?_
        iterate 7 (refine ry_step rfl rfl ?_)
        obtain ⟨⟨u19, S18⟩, hv17, hf⟩ := Option.bind_eq_some_iff.mp hf
        dsimp only at hf
        refine ry_call rfl rfl rfl rfl rfl (tX5_readNumber hv17) ?_
        refine ry_iast hf rfl rfl (fun j21 S20 hf => ?_)
        refine ry_step rfl rfl ?_
        cases hf
        exact ry_ret rfl rfl
      · refine ry_sw hf (fun hf => ?_) (fun n23 hf => ?_)
        · iterate 8 (refine ry_step rfl rfl ?_)
          obtain ⟨⟨u8, S7⟩, hv6, hf⟩ := Option.bind_eq_some_iff.mp hf
          dsimp only at hf
          refine ry_call rfl rfl rfl rfl rfl (tX5_readNumber hv6) ?_
          refine ry_iast hf rfl rfl (fun j10 S9 hf => ?_)
          refine ry_step rfl rfl ?_
          cases hf
          exact ry_ret rfl rfl
        · have m0 := xne_toInt (k := 0) rfl n0
          have m9 := xne_toInt (k := 9) rfl n9
          have m20 := xne_toInt (k := 20) rfl n20
          have m23 := xne_toInt (k := 23) rfl n23
          refine ry_lk rfl (by simp [Op.lookupswitch.offset, Ne.symm m0, Ne.symm m9, Ne.symm m20, Ne.symm m23]) ?_
          iterate 7 (refine ry_step rfl rfl ?_)
          obtain ⟨⟨u3, S2⟩, hv1, hf⟩ := Option.bind_eq_some_iff.mp hf
          dsimp only at hf
          refine ry_call rfl rfl rfl rfl rfl (tX5_readNumber hv1) ?_
          refine ry_iast hf rfl rfl (fun j5 S4 hf => ?_)
          cases hf
          exact ry_ret rfl rfl
def fX5_emit (v0 : Int32) (v1 : Int32) (S : yS) : Option yS := (if (Int32.ofInt 300) ≤ (S.1 250 7) then some S else (ain 300 (S.1 250 7)).bind fun j5 => pSt (ySa S 256 (upd (S.2.2.1 256) j5 v0)) fun S1 => (ain 300 (S1.1 250 7)).bind fun j4 => pSt (ySa S1 257 (upd (S1.2.2.1 257) j4 v1)) fun S2 => pSt (ySi S2 250 7 ((S2.1 250 7) + (Int32.ofInt 1))) fun S3 => some S3)
set_option maxRecDepth 4000 in
theorem tX5_emit {ro : xRo} {T : yK} {S : yS} {d : Nat} {v0 : Int32} {v1 : Int32} {S' : yS} (hf : fX5_emit v0 v1 S = some S') : yEv ro xNo (yKx T) (d + 1) jX5_emit [.ref 250, .int v0, .int v1] S (none) S' := by
  refine ry_meth pX5_emit rfl (fun z => ?_)
  unfold fX5_emit at hf
  iterate 4 (refine ry_step rfl rfl ?_)
  refine ry_br hf (fun hc hf => ?_) (fun hc hf => ?_)
  · cases hf
    exact ry_ret rfl rfl
  · iterate 5 (refine ry_step rfl rfl ?_)
    refine ry_iast hf rfl rfl (fun j5 S1 hf => ?_)
    iterate 5 (refine ry_step rfl rfl ?_)
    refine ry_iast hf rfl rfl (fun j4 S2 hf => ?_)
    iterate 5 (refine ry_step rfl rfl ?_)
    refine ry_stepS hf rfl rfl (fun S3 hf => ?_)
    cases hf
    exact ry_ret rfl rfl
def fX5_readName (v0 : Int32) (S : yS) : Option yS := (if (S.1 250 2) = 0 then pSt (fX11_within v0 (Int32.ofInt 4) (Int32.ofInt 6)) fun w1 => (if w1 = 0 then pSt (ySi S 250 1 ((S.1 250 1) + (Int32.ofInt 1))) fun S2 => (fX5_emit v0 (Int32.ofInt 0) S2).bind fun S4 => some S4 else (fX5_fail (Int32.ofInt 5) S).bind fun S6 => some S6) else (if v0 < (Int32.ofInt 7) then pSt (ySi S 250 1 ((S.1 250 1) + (Int32.ofInt 1))) fun S7 => (fX5_emit v0 (Int32.ofInt 0) S7).bind fun S9 => some S9 else (fX5_fail (Int32.ofInt 5) S).bind fun S11 => some S11))
set_option maxRecDepth 4000 in
theorem tX5_readName {ro : xRo} {T : yK} {S : yS} {d : Nat} {v0 : Int32} {S' : yS} (hf : fX5_readName v0 S = some S') : yEv ro xNo (yKx T) (d + 3) jX5_readName [.ref 250, .int v0] S (none) S' := by
  refine ry_meth pX5_readName rfl (fun z => ?_)
  unfold fX5_readName at hf
  iterate 3 (refine ry_step rfl rfl ?_)
  refine ry_br hf (fun hc hf => ?_) (fun hc hf => ?_)
  · iterate 3 (refine ry_step rfl rfl ?_)
    refine ry_call rfl rfl rfl rfl rfl tX11_within ?_
    refine ry_nmi hf (fun w1 hf => ?_)
    iterate 3 (refine ry_step rfl rfl ?_)
    refine ry_br hf (fun hc hf => ?_) (fun hc hf => ?_)
    · iterate 5 (refine ry_step rfl rfl ?_)
      refine ry_stepS hf rfl rfl (fun S2 hf => ?_)
      iterate 3 (refine ry_step rfl rfl ?_)
      obtain ⟨S4, hv3, hf⟩ := Option.bind_eq_some_iff.mp hf
      refine ry_call rfl rfl rfl rfl rfl (tX5_emit hv3) ?_
      cases hf
      exact ry_ret rfl rfl
    · iterate 2 (refine ry_step rfl rfl ?_)
      obtain ⟨S6, hv5, hf⟩ := Option.bind_eq_some_iff.mp hf
      refine ry_call rfl rfl rfl rfl rfl (tX5_fail hv5) ?_
      refine ry_step rfl rfl ?_
      cases hf
      exact ry_ret rfl rfl
  · iterate 3 (refine ry_step rfl rfl ?_)
    refine ry_br hf (fun hc hf => ?_) (fun hc hf => ?_)
    · iterate 10 (refine ry_step rfl rfl ?_)
      refine ry_stepS hf rfl rfl (fun S7 hf => ?_)
      iterate 3 (refine ry_step rfl rfl ?_)
      obtain ⟨S9, hv8, hf⟩ := Option.bind_eq_some_iff.mp hf
      refine ry_call rfl rfl rfl rfl rfl (tX5_emit hv8) ?_
      cases hf
      exact ry_ret rfl rfl
    · iterate 7 (refine ry_step rfl rfl ?_)
      obtain ⟨S11, hv10, hf⟩ := Option.bind_eq_some_iff.mp hf
      refine ry_call rfl rfl rfl rfl rfl (tX5_fail hv10) ?_
      refine ry_step rfl rfl ?_
      cases hf
      exact ry_ret rfl rfl
def fX5_aim (v0 : Int32) (S : yS) : Option yS := (if (fX11_within v0 (Int32.ofInt 0) (Int32.ofInt 299)) = 0 then some S else (ain 300 v0).bind fun j2 => pSt (ySa S 257 (upd (S.2.2.1 257) j2 (S.1 250 7))) fun S1 => some S1)
set_option maxRecDepth 4000 in
theorem tX5_aim {ro : xRo} {T : yK} {S : yS} {d : Nat} {v0 : Int32} {S' : yS} (hf : fX5_aim v0 S = some S') : yEv ro xNo (yKx T) (d + 2) jX5_aim [.ref 250, .int v0] S (none) S' := by
  refine ry_meth pX5_aim rfl (fun z => ?_)
  unfold fX5_aim at hf
  iterate 3 (refine ry_step rfl rfl ?_)
  refine ry_call rfl rfl rfl rfl rfl tX11_within ?_
  refine ry_step rfl rfl ?_
  refine ry_br hf (fun hc hf => ?_) (fun hc hf => ?_)
  · cases hf
    exact ry_ret rfl rfl
  · iterate 5 (refine ry_step rfl rfl ?_)
    refine ry_iast hf rfl rfl (fun j2 S1 hf => ?_)
    cases hf
    exact ry_ret rfl rfl
