/-! ===== methods as functions, and their walks, by program ===== -/
def fX12_isPlayed (N : Nat) (v0 : Int32) (S : yS) : Option (Int32 × yS) := (ain 2724 (v0 + (Int32.ofInt 1))).bind fun j1 => (ain 2724 (v0 + (Int32.ofInt 2))).bind fun j2 => (ain 2724 v0).bind fun j3 => pSt (S.2.2.1 268 j3) fun w4 => (if w4 = (Int32.ofInt 2) then (fX12_bird (S.2.2.1 268 j1) (Int32.ofInt 0) (S.2.2.1 268 j2) S).bind fun (u22, S21) => (if u22 < 0 then some ((Int32.ofInt 0), S21) else some ((Int32.ofInt 1), S21)) else (if w4 = (Int32.ofInt 3) then (fX12_rhyme (S.2.2.1 268 j1) (S.2.2.1 268 j2) S).bind fun (u19, S18) => (if u19 = 0 ∨ u19 = 1 then some (u19, S18) else none) else (if w4 = (Int32.ofInt 4) then (fX12_thin N (S.2.2.1 268 j1) S).bind fun (u16, S15) => (if u16 = 0 ∨ u16 = 1 then some (u16, S15) else none) else (if w4 = (Int32.ofInt 5) then (fX12_call N (S.2.2.1 268 j1) S).bind fun (u13, S12) => (if u13 = 0 ∨ u13 = 1 then some (u13, S12) else none) else (if w4 = (Int32.ofInt 6) then (fX12_grant N (S.2.2.1 268 j1) S).bind fun (u10, S9) => (if u10 = 0 ∨ u10 = 1 then some (u10, S9) else none) else (if w4 = (Int32.ofInt 7) then (fX12_arePassed N (S.2.2.1 268 j1) S).bind fun (u7, S6) => (if u7 = 0 ∨ u7 = 1 then some (u7, S6) else none) else some ((Int32.ofInt 1), S)))))))
set_option maxRecDepth 4000 in
theorem tX12_isPlayed {ro : xRo} {T : yK} {S : yS} {d N : Nat} {v0 : Int32} {q : Int32} {S' : yS} (hf : fX12_isPlayed N v0 S = some (q, S')) : yEv ro xNo (yKx T) (d + 8) jX12_isPlayed [.ref 265, .int v0] S (some (.int q)) S' := by
  refine ry_meth pX12_isPlayed rfl (fun z => ?_)
  unfold fX12_isPlayed at hf
  iterate 5 (refine ry_step rfl rfl ?_)
  refine ry_iald hf rfl rfl rfl (fun j1 hf => ?_)
  iterate 6 (refine ry_step rfl rfl ?_)
  refine ry_iald hf rfl rfl rfl (fun j2 hf => ?_)
  iterate 4 (refine ry_step rfl rfl ?_)
  refine ry_iald hf rfl rfl rfl (fun j3 hf => ?_)
  refine ry_nmi hf (fun w4 hf => ?_)
  refine ry_sw hf (fun hf => ?_) (fun n2 hf => ?_)
  · iterate 5 (refine ry_step rfl rfl ?_)
    obtain ⟨⟨u22, S21⟩, hv20, hf⟩ := Option.bind_eq_some_iff.mp hf
    dsimp only at hf
    refine ry_call rfl rfl rfl rfl rfl (tX12_bird hv20) ?_
    refine ry_step rfl rfl ?_
    refine ry_br hf (fun hc hf => ?_) (fun hc hf => ?_)
    · refine ry_step rfl rfl ?_
      cases hf
      exact ry_ret rfl rfl
    · iterate 2 (refine ry_step rfl rfl ?_)
      cases hf
      exact ry_ret rfl rfl
  · refine ry_sw hf (fun hf => ?_) (fun n3 hf => ?_)
    · iterate 4 (refine ry_step rfl rfl ?_)
      obtain ⟨⟨u19, S18⟩, hv17, hf⟩ := Option.bind_eq_some_iff.mp hf
      dsimp only at hf
      refine ry_call rfl rfl rfl rfl rfl (tX12_rhyme hv17) ?_
      exact ry_retz (S' := S) hf rfl rfl rfl (fun h => by cases h; rfl)
    · refine ry_sw hf (fun hf => ?_) (fun n4 hf => ?_)
      · iterate 3 (refine ry_step rfl rfl ?_)
        obtain ⟨⟨u16, S15⟩, hv14, hf⟩ := Option.bind_eq_some_iff.mp hf
        dsimp only at hf
        refine ry_call rfl rfl rfl rfl rfl (tX12_thin hv14) ?_
        exact ry_retz (S' := S) hf rfl rfl rfl (fun h => by cases h; rfl)
      · refine ry_sw hf (fun hf => ?_) (fun n5 hf => ?_)
        · iterate 3 (refine ry_step rfl rfl ?_)
          obtain ⟨⟨u13, S12⟩, hv11, hf⟩ := Option.bind_eq_some_iff.mp hf
          dsimp only at hf
          refine ry_call rfl rfl rfl rfl rfl (tX12_call hv11) ?_
          exact ry_retz (S' := S) hf rfl rfl rfl (fun h => by cases h; rfl)
        · refine ry_sw hf (fun hf => ?_) (fun n6 hf => ?_)
          · iterate 3 (refine ry_step rfl rfl ?_)
            obtain ⟨⟨u10, S9⟩, hv8, hf⟩ := Option.bind_eq_some_iff.mp hf
            dsimp only at hf
            refine ry_call rfl rfl rfl rfl rfl (tX12_grant hv8) ?_
            exact ry_retz (S' := S) hf rfl rfl rfl (fun h => by cases h; rfl)
          · refine ry_sw hf (fun hf => ?_) (fun n7 hf => ?_)
            · iterate 3 (refine ry_step rfl rfl ?_)
              obtain ⟨⟨u7, S6⟩, hv5, hf⟩ := Option.bind_eq_some_iff.mp hf
              dsimp only at hf
              refine ry_call rfl rfl rfl rfl rfl (tX12_arePassed hv5) ?_
              exact ry_retz (S' := S) hf rfl rfl rfl (fun h => by cases h; rfl)
            · have m2 := xne_toInt (k := 2) rfl n2
              have m3 := xne_toInt (k := 3) rfl n3
              have m4 := xne_toInt (k := 4) rfl n4
              have m5 := xne_toInt (k := 5) rfl n5
              have m6 := xne_toInt (k := 6) rfl n6
              have m7 := xne_toInt (k := 7) rfl n7
              refine ry_tb rfl (by omega) ?_
              refine ry_step rfl rfl ?_
              cases hf
              exact ry_ret rfl rfl
def lX12_played (N : Nat) : Nat → Int32 → Int32 → yS → Option (Int32 × yS)
  | 0, _, _, _ => none
  | n + 1, l1, l2, S => (ain 2724 ((Int32.ofInt 681) * l1)).bind fun j1 => (if (S.2.2.1 268 j1) ≤ l2 then some ((Int32.ofInt (-1)), S) else (fX12_isPlayed N ((((Int32.ofInt 681) * l1) + (Int32.ofInt 1)) + ((Int32.ofInt 3) * l2)) S).bind fun (u4, S3) => (if ¬ u4 = 0 then lX12_played N n l1 (l2 + (Int32.ofInt 1)) S3 else some (l2, S3)))
set_option maxRecDepth 4000 in
theorem uX12_played {ro : xRo} {T : yK} {d N : Nat} : ∀ n : Nat, (∀ (l1 : Int32) (l2 : Int32) (S : yS) {q : Int32} {S' : yS}, lX12_played N n l1 l2 S = some (q, S') → ∀ z, Ry ro xNo (yKx T) z (d + 8) mX12_played 21 [(0, .ref 265), (1, .int l1), (2, .int l2)] [] S (some (.int q), yH (yKx T) z S')) := by
  intro n
  induction n with
  | zero => exact (by intro _ _ _ _ _ hf; cases hf)
  | succ n ih =>
    intro l1 l2 S q S' hf z
    unfold lX12_played at hf
    iterate 6 (refine ry_step rfl rfl ?_)
    refine ry_iald hf rfl rfl rfl (fun j1 hf => ?_)
    refine ry_step rfl rfl ?_
    refine ry_br hf (fun hc hf => ?_) (fun hc hf => ?_)
    · refine ry_step rfl rfl ?_
      cases hf
      exact ry_ret rfl rfl
    · iterate 10 (refine ry_step rfl rfl ?_)
      obtain ⟨⟨u4, S3⟩, hv2, hf⟩ := Option.bind_eq_some_iff.mp hf
      dsimp only at hf
      refine ry_call rfl rfl rfl rfl rfl (tX12_isPlayed hv2) ?_
      refine ry_step rfl rfl ?_
      refine ry_br hf (fun hc hf => ?_) (fun hc hf => ?_)
      · iterate 2 (refine ry_step rfl rfl ?_)
        refine ry_sub [1, 2, 0] rfl rfl ?_
        exact ih l1 (l2 + (Int32.ofInt 1)) S3 hf _
      · refine ry_step rfl rfl ?_
        cases hf
        exact ry_ret rfl rfl
def fX12_played (N : Nat) (v0 : Int32) (S : yS) : Option (Int32 × yS) := (if ¬ (fX12_isIn v0 (Int32.ofInt 0) ((S.2.2.1 266 1) - (Int32.ofInt 1))) = 0 then lX12_played N N v0 (Int32.ofInt 0) S else some ((Int32.ofInt (-2)), S))
set_option maxRecDepth 4000 in
theorem tX12_played {ro : xRo} {T : yK} {S : yS} {d N : Nat} {v0 : Int32} {q : Int32} {S' : yS} (hf : fX12_played N v0 S = some (q, S')) : yEv ro xNo (yKx T) (d + 9) jX12_played [.ref 265, .int v0] S (some (.int q)) S' := by
  refine ry_meth pX12_played rfl (fun z => ?_)
  unfold fX12_played at hf
  iterate 8 (refine ry_step rfl rfl ?_)
  refine ry_call rfl rfl rfl rfl rfl tX12_isIn ?_
  refine ry_step rfl rfl ?_
  refine ry_br hf (fun hc hf => ?_) (fun hc hf => ?_)
  · iterate 2 (refine ry_step rfl rfl ?_)
    refine ry_sub [1, 2, 0] rfl rfl ?_
    exact uX12_played (ro := ro) _ v0 (Int32.ofInt 0) S hf _
  · refine ry_step rfl rfl ?_
    cases hf
    exact ry_ret rfl rfl
def fX12_happens (N : Nat) (v0 : Int32) (S : yS) : Option yS := pSt ((v0 / (Int32.ofInt 6)) - (v0 / (Int32.ofInt 6)) / (Int32.ofInt 8) * (Int32.ofInt 8)) fun w1 => pSt ((Int32.ofInt 1) + ((v0 / (Int32.ofInt 6)) - (v0 / (Int32.ofInt 6)) / (Int32.ofInt 50) * (Int32.ofInt 50))) fun w2 => pSt (v0 - v0 / (Int32.ofInt 6) * (Int32.ofInt 6)) fun w3 => (if w3 = (Int32.ofInt 0) then (if ¬ (v0 - v0 / (Int32.ofInt 4) * (Int32.ofInt 4)) = (Int32.ofInt 2) then some S else (fX12_isBird w1 S).bind fun u11 => (if u11 = 0 then some S else pSt (ySa S 266 (upd (S.2.2.1 266) 12 ((S.2.2.1 266 12) ||| ((Int32.ofInt 1) <<< (w1 &&& 31))))) fun S12 => some S12)) else (if w3 = (Int32.ofInt 1) then pSt (ySa S 266 (upd (S.2.2.1 266) 12 ((S.2.2.1 266 12) &&& (((Int32.ofInt 1) <<< (w1 &&& 31)) ^^^ (Int32.ofInt (-1)))))) fun S9 => some S9 else (if w3 = (Int32.ofInt 2) then (if ¬ (v0 - v0 / (Int32.ofInt 4) * (Int32.ofInt 4)) = 0 then some S else (fX12_canGrant w2 S).bind fun u7 => (if u7 = 0 then some S else pSt (ySa S 266 (upd (S.2.2.1 266) 8 ((S.2.2.1 266 8) + w2))) fun S8 => some S8)) else (if (Int32.ofInt 9999) ≤ (S.2.2.1 266 6) then some S else (fX12_pass N  S).bind fun S5 => some S5))))
set_option maxRecDepth 4000 in
theorem tX12_happens {ro : xRo} {T : yK} {S : yS} {d N : Nat} {v0 : Int32} {S' : yS} (hf : fX12_happens N v0 S = some S') : yEv ro xNo (yKx T) (d + 7) jX12_happens [.ref 265, .int v0] S (none) S' := by
  refine ry_meth pX12_happens rfl (fun z => ?_)
  unfold fX12_happens at hf
  iterate 5 (refine ry_step rfl rfl ?_)
  refine ry_nmi hf (fun w1 hf => ?_)
  iterate 8 (refine ry_step rfl rfl ?_)
  refine ry_nmi hf (fun w2 hf => ?_)
  iterate 4 (refine ry_step rfl rfl ?_)
  refine ry_nmi hf (fun w3 hf => ?_)
  refine ry_sw hf (fun hf => ?_) (fun n0 hf => ?_)
  · iterate 6 (refine ry_step rfl rfl ?_)
    refine ry_br hf (fun hc hf => ?_) (fun hc hf => ?_)
    · cases hf
      exact ry_ret rfl rfl
    · iterate 2 (refine ry_step rfl rfl ?_)
      obtain ⟨u11, hv10, hf⟩ := Option.bind_eq_some_iff.mp hf
      refine ry_call rfl rfl rfl rfl rfl (tX12_isBird hv10) ?_
      refine ry_step rfl rfl ?_
      refine ry_br hf (fun hc hf => ?_) (fun hc hf => ?_)
      · cases hf
        exact ry_ret rfl rfl
      · iterate 9 (refine ry_step rfl rfl ?_)
        refine ry_stepS hf rfl rfl (fun S12 hf => ?_)
        refine ry_step rfl rfl ?_
        cases hf
        exact ry_ret rfl rfl
  · refine ry_sw hf (fun hf => ?_) (fun n1 hf => ?_)
    · iterate 12 (refine ry_step rfl rfl ?_)
      refine ry_stepS hf rfl rfl (fun S9 hf => ?_)
      refine ry_step rfl rfl ?_
      cases hf
      exact ry_ret rfl rfl
    · refine ry_sw hf (fun hf => ?_) (fun n2 hf => ?_)
      · iterate 5 (refine ry_step rfl rfl ?_)
        refine ry_br hf (fun hc hf => ?_) (fun hc hf => ?_)
        · cases hf
          exact ry_ret rfl rfl
        · iterate 2 (refine ry_step rfl rfl ?_)
          obtain ⟨u7, hv6, hf⟩ := Option.bind_eq_some_iff.mp hf
          refine ry_call rfl rfl rfl rfl rfl (tX12_canGrant hv6) ?_
          refine ry_step rfl rfl ?_
          refine ry_br hf (fun hc hf => ?_) (fun hc hf => ?_)
          · cases hf
            exact ry_ret rfl rfl
          · iterate 7 (refine ry_step rfl rfl ?_)
            refine ry_stepS hf rfl rfl (fun S8 hf => ?_)
            refine ry_step rfl rfl ?_
            cases hf
            exact ry_ret rfl rfl
      · have m0 := xne_toInt (k := 0) rfl n0
        have m1 := xne_toInt (k := 1) rfl n1
        have m2 := xne_toInt (k := 2) rfl n2
        refine ry_tb rfl (by omega) ?_
        iterate 6 (refine ry_step rfl rfl ?_)
        refine ry_br hf (fun hc hf => ?_) (fun hc hf => ?_)
        · cases hf
          exact ry_ret rfl rfl
        · refine ry_step rfl rfl ?_
          obtain ⟨S5, hv4, hf⟩ := Option.bind_eq_some_iff.mp hf
          refine ry_call rfl rfl rfl rfl rfl (tX12_pass hv4) ?_
          cases hf
          exact ry_ret rfl rfl
def lX12_years (N : Nat) : Nat → Int32 → Int32 → yS → Option (Int32 × yS)
  | 0, _, _, _ => none
  | n + 1, l2, l3, S => (if l2 ≤ l3 then some ((S.2.2.1 266 6), S) else (fX12_anew  S).bind fun S5 => (fX12_happens N (S.2.2.1 266 7) S5).bind fun S7 => lX12_years N n l2 (l3 + (Int32.ofInt 1)) S7)
set_option maxRecDepth 4000 in
theorem uX12_years {ro : xRo} {T : yK} {d N : Nat} : ∀ n : Nat, (∀ (l2 : Int32) (l3 : Int32) (S : yS) {q : Int32} {S' : yS}, lX12_years N n l2 l3 S = some (q, S') → ∀ z, Ry ro xNo (yKx T) z (d + 7) mX12_years 43 [(0, .ref 265), (2, .int l2), (3, .int l3)] [] S (some (.int q), yH (yKx T) z S')) := by
  intro n
  induction n with
  | zero => exact (by intro _ _ _ _ _ hf; cases hf)
  | succ n ih =>
    intro l2 l3 S q S' hf z
    unfold lX12_years at hf
    iterate 3 (refine ry_step rfl rfl ?_)
    refine ry_br hf (fun hc hf => ?_) (fun hc hf => ?_)
    · iterate 4 (refine ry_step rfl rfl ?_)
      cases hf
      exact ry_ret rfl rfl
    · iterate 6 (refine ry_step rfl rfl ?_)
      obtain ⟨S5, hv4, hf⟩ := Option.bind_eq_some_iff.mp hf
      refine ry_call rfl rfl rfl rfl rfl (tX12_anew hv4) ?_
      iterate 2 (refine ry_step rfl rfl ?_)
      obtain ⟨S7, hv6, hf⟩ := Option.bind_eq_some_iff.mp hf
      refine ry_call rfl rfl rfl rfl rfl (tX12_happens hv6) ?_
      iterate 2 (refine ry_step rfl rfl ?_)
      refine ry_sub [2, 3, 0] rfl rfl ?_
      exact ih l2 (l3 + (Int32.ofInt 1)) S7 hf _
def fX12_years (N : Nat) (v0 : Int32) (v1 : Int32) (S : yS) : Option (Int32 × yS) := (if (fX12_isIn v0 (Int32.ofInt 0) (Int32.ofInt 9999)) = 0 then some ((Int32.ofInt (-1)), S) else (if ¬ (fX12_isIn v1 (Int32.ofInt 1) (Int32.ofInt 40)) = 0 then (fX12_keep N  S).bind fun S2 => pSt (ySa S2 266 (upd (S2.2.2.1 266) 7 ((v0 * (Int32.ofInt 2)) + (Int32.ofInt 419)))) fun S3 => lX12_years N N v1 (Int32.ofInt 0) S3 else some ((Int32.ofInt (-1)), S)))
set_option maxRecDepth 4000 in
theorem tX12_years {ro : xRo} {T : yK} {S : yS} {d N : Nat} {v0 : Int32} {v1 : Int32} {q : Int32} {S' : yS} (hf : fX12_years N v0 v1 S = some (q, S')) : yEv ro xNo (yKx T) (d + 8) jX12_years [.ref 265, .int v0, .int v1] S (some (.int q)) S' := by
  refine ry_meth pX12_years rfl (fun z => ?_)
  unfold fX12_years at hf
  iterate 3 (refine ry_step rfl rfl ?_)
  refine ry_call rfl rfl rfl rfl rfl tX12_isIn ?_
  refine ry_step rfl rfl ?_
  refine ry_br hf (fun hc hf => ?_) (fun hc hf => ?_)
  · refine ry_step rfl rfl ?_
    cases hf
    exact ry_ret rfl rfl
  · iterate 3 (refine ry_step rfl rfl ?_)
    refine ry_call rfl rfl rfl rfl rfl tX12_isIn ?_
    refine ry_step rfl rfl ?_
    refine ry_br hf (fun hc hf => ?_) (fun hc hf => ?_)
    · refine ry_step rfl rfl ?_
      obtain ⟨S2, hv1, hf⟩ := Option.bind_eq_some_iff.mp hf
      refine ry_call rfl rfl rfl rfl rfl (tX12_keep hv1) ?_
      iterate 8 (refine ry_step rfl rfl ?_)
      refine ry_stepS hf rfl rfl (fun S3 hf => ?_)
      iterate 2 (refine ry_step rfl rfl ?_)
      refine ry_sub [1, 3, 0] rfl rfl ?_
      exact uX12_years (ro := ro) _ v1 (Int32.ofInt 0) S3 hf _
    · refine ry_step rfl rfl ?_
      cases hf
      exact ry_ret rfl rfl
def lX12_foretold (N : Nat) : Nat → Nat → Int32 → Int32 → Int32 → Int32 → yS → Option (Int32 × yS)
  | 0, _, _, _, _, _, _ => none
  | n + 1, m, l1, l2, l3, l4, S => if m = 0 then (if (Int32.ofInt 21) ≤ l3 then pSt (ySi S 265 23 (Int32.ofInt 0)) fun S1 => lX12_foretold N n 1 l1 l2 (Int32.ofInt 0) 0 S1 else (ain 1338 l3).bind fun j2 => (ain 21 l3).bind fun j4 => pSt (ySa S 274 (upd (S.2.2.1 274) j4 (S.2.2.1 266 j2))) fun S3 => lX12_foretold N n 0 l1 l2 (l3 + (Int32.ofInt 1)) 0 S3) else if m = 1 then (if l1 ≤ l3 then (ain 1338 ((Int32.ofInt 8) + l2)).bind fun j5 => lX12_foretold N n 2 0 0 (S.2.2.1 266 j5) (Int32.ofInt 6) S else (if (Int32.ofInt 9999) ≤ (S.2.2.1 266 6) then lX12_foretold N n 1 l1 l2 (l3 + (Int32.ofInt 1)) 0 S else (fX12_pass N  S).bind fun S7 => lX12_foretold N n 1 l1 l2 (l3 + (Int32.ofInt 1)) 0 S7)) else (if (Int32.ofInt 21) ≤ l4 then pSt (ySi S 265 23 (Int32.ofInt 1)) fun S8 => some (l3, S8) else (ain 21 l4).bind fun j9 => (ain 1338 l4).bind fun j11 => pSt (ySa S 266 (upd (S.2.2.1 266) j11 (S.2.2.1 274 j9))) fun S10 => lX12_foretold N n 2 0 0 l3 (l4 + (Int32.ofInt 1)) S10)
set_option maxRecDepth 4000 in
theorem uX12_foretold {ro : xRo} {T : yK} {d N : Nat} : ∀ n : Nat, (∀ (l1 : Int32) (l2 : Int32) (l3 : Int32) (l4 : Int32) (S : yS) {q : Int32} {S' : yS}, lX12_foretold N n 0 l1 l2 l3 l4 S = some (q, S') → ∀ z, Ry ro xNo (yKx T) z (d + 6) mX12_foretold 26 [(0, .ref 265), (1, .int l1), (2, .int l2), (3, .int l3)] [] S (some (.int q), yH (yKx T) z S')) ∧ (∀ (l1 : Int32) (l2 : Int32) (l3 : Int32) (l4 : Int32) (S : yS) {q : Int32} {S' : yS}, lX12_foretold N n 1 l1 l2 l3 l4 S = some (q, S') → ∀ z, Ry ro xNo (yKx T) z (d + 6) mX12_foretold 57 [(0, .ref 265), (1, .int l1), (2, .int l2), (3, .int l3)] [] S (some (.int q), yH (yKx T) z S')) ∧ (∀ (l1 : Int32) (l2 : Int32) (l3 : Int32) (l4 : Int32) (S : yS) {q : Int32} {S' : yS}, lX12_foretold N n 2 l1 l2 l3 l4 S = some (q, S') → ∀ z, Ry ro xNo (yKx T) z (d + 6) mX12_foretold 99 [(0, .ref 265), (3, .int l3), (4, .int l4)] [] S (some (.int q), yH (yKx T) z S')) := by
  intro n
  induction n with
  | zero => exact ⟨(by intro _ _ _ _ _ _ _ hf; cases hf), (by intro _ _ _ _ _ _ _ hf; cases hf), (by intro _ _ _ _ _ _ _ hf; cases hf)⟩
  | succ n ih =>
    refine ⟨?_, ?_, ?_⟩
    · intro l1 l2 l3 l4 S q S' hf z
      unfold lX12_foretold at hf
      rw [if_pos rfl] at hf
      iterate 3 (refine ry_step rfl rfl ?_)
      refine ry_br hf (fun hc hf => ?_) (fun hc hf => ?_)
      · iterate 2 (refine ry_step rfl rfl ?_)
        refine ry_stepS hf rfl rfl (fun S1 hf => ?_)
        iterate 2 (refine ry_step rfl rfl ?_)
        refine ry_sub [1, 2, 3, 0] rfl rfl ?_
        exact ih.2.1 l1 l2 (Int32.ofInt 0) 0 S1 hf _
      · iterate 6 (refine ry_step rfl rfl ?_)
        refine ry_iald hf rfl rfl rfl (fun j2 hf => ?_)
        refine ry_iast hf rfl rfl (fun j4 S3 hf => ?_)
        iterate 2 (refine ry_step rfl rfl ?_)
        refine ry_sub [1, 2, 3, 0] rfl rfl ?_
        exact ih.1 l1 l2 (l3 + (Int32.ofInt 1)) 0 S3 hf _
    · intro l1 l2 l3 l4 S q S' hf z
      unfold lX12_foretold at hf
      rw [if_neg (by decide)] at hf; rw [if_pos rfl] at hf
      iterate 3 (refine ry_step rfl rfl ?_)
      refine ry_br hf (fun hc hf => ?_) (fun hc hf => ?_)
      · iterate 5 (refine ry_step rfl rfl ?_)
        refine ry_iald hf rfl rfl rfl (fun j5 hf => ?_)
        iterate 3 (refine ry_step rfl rfl ?_)
        refine ry_sub [2, 1, 0] rfl rfl ?_
        exact ih.2.2 0 0 (S.2.2.1 266 j5) (Int32.ofInt 6) S hf _
      · iterate 6 (refine ry_step rfl rfl ?_)
        refine ry_br hf (fun hc hf => ?_) (fun hc hf => ?_)
        · iterate 2 (refine ry_step rfl rfl ?_)
          refine ry_sub [1, 2, 3, 0] rfl rfl ?_
          exact ih.2.1 l1 l2 (l3 + (Int32.ofInt 1)) 0 S hf _
        · refine ry_step rfl rfl ?_
          obtain ⟨S7, hv6, hf⟩ := Option.bind_eq_some_iff.mp hf
          refine ry_call rfl rfl rfl rfl rfl (tX12_pass hv6) ?_
          iterate 2 (refine ry_step rfl rfl ?_)
          refine ry_sub [1, 2, 3, 0] rfl rfl ?_
          exact ih.2.1 l1 l2 (l3 + (Int32.ofInt 1)) 0 S7 hf _
    · intro l1 l2 l3 l4 S q S' hf z
      unfold lX12_foretold at hf
      rw [if_neg (by decide)] at hf; rw [if_neg (by decide)] at hf; skip
      iterate 3 (refine ry_step rfl rfl ?_)
      refine ry_br hf (fun hc hf => ?_) (fun hc hf => ?_)
      · iterate 2 (refine ry_step rfl rfl ?_)
        refine ry_stepS hf rfl rfl (fun S8 hf => ?_)
        refine ry_step rfl rfl ?_
        cases hf
        exact ry_ret rfl rfl
      · iterate 6 (refine ry_step rfl rfl ?_)
        refine ry_iald hf rfl rfl rfl (fun j9 hf => ?_)
        refine ry_iast hf rfl rfl (fun j11 S10 hf => ?_)
        iterate 2 (refine ry_step rfl rfl ?_)
        refine ry_sub [1, 2, 0] rfl rfl ?_
        exact ih.2.2 0 0 l3 (l4 + (Int32.ofInt 1)) S10 hf _
def fX12_foretold (N : Nat) (v0 : Int32) (v1 : Int32) (S : yS) : Option (Int32 × yS) := (if (fX12_isIn v0 (Int32.ofInt 1) (Int32.ofInt 60)) = 0 then some ((Int32.ofInt (-100000)), S) else (if ¬ (fX12_isIn v1 (Int32.ofInt 0) (Int32.ofInt 1)) = 0 then lX12_foretold N N 0 v0 v1 (Int32.ofInt 6) 0 S else some ((Int32.ofInt (-100000)), S)))
set_option maxRecDepth 4000 in
theorem tX12_foretold {ro : xRo} {T : yK} {S : yS} {d N : Nat} {v0 : Int32} {v1 : Int32} {q : Int32} {S' : yS} (hf : fX12_foretold N v0 v1 S = some (q, S')) : yEv ro xNo (yKx T) (d + 7) jX12_foretold [.ref 265, .int v0, .int v1] S (some (.int q)) S' := by
  refine ry_meth pX12_foretold rfl (fun z => ?_)
  unfold fX12_foretold at hf
  iterate 3 (refine ry_step rfl rfl ?_)
  refine ry_call rfl rfl rfl rfl rfl tX12_isIn ?_
  refine ry_step rfl rfl ?_
  refine ry_br hf (fun hc hf => ?_) (fun hc hf => ?_)
  · refine ry_step rfl rfl ?_
    cases hf
    exact ry_ret rfl rfl
  · iterate 3 (refine ry_step rfl rfl ?_)
    refine ry_call rfl rfl rfl rfl rfl tX12_isIn ?_
    refine ry_step rfl rfl ?_
    refine ry_br hf (fun hc hf => ?_) (fun hc hf => ?_)
    · iterate 2 (refine ry_step rfl rfl ?_)
      refine ry_sub [1, 2, 3, 0] rfl rfl ?_
      exact (uX12_foretold (ro := ro) _).1 v0 v1 (Int32.ofInt 6) 0 S hf _
    · refine ry_step rfl rfl ?_
      cases hf
      exact ry_ret rfl rfl
def lX11_gather (N : Nat) : Nat → Int32 → Int32 → Int32 → Int32 → yS → Option Int32
  | 0, _, _, _, _, _ => none
  | n + 1, l1, l2, l3, l4, S => (if (S.1 18 5) ≤ l4 then (if l3 = 0 then some (Int32.ofInt (-1)) else some l1) else (fX2_isGone l4 S).bind fun u2 => (if u2 = 0 then (ain 8 l4).bind fun j3 => (ain 8 l4).bind fun j4 => (fX11_firstOfHabit N l1 l2 (S.2.2.1 114 j3) (S.2.2.1 115 j4) S).bind fun u6 => (if ¬ u6 = (Int32.ofInt (-1)) then (ain 8 l4).bind fun j7 => (fX11_leastCommon N l2 (S.2.2.1 114 j7) S).bind fun u9 => lX11_gather N n u6 u9 (Int32.ofInt 1) (l4 + (Int32.ofInt 1)) S else some (Int32.ofInt (-1))) else lX11_gather N n l1 l2 l3 (l4 + (Int32.ofInt 1)) S))
set_option maxRecDepth 4000 in
theorem uX11_gather {ro : xRo} {T : yK} {d N : Nat} : ∀ n : Nat, (∀ (l1 : Int32) (l2 : Int32) (l3 : Int32) (l4 : Int32) (S : yS) {q : Int32}, lX11_gather N n l1 l2 l3 l4 S = some q → ∀ z, Ry ro xNo (yKx T) z (d + 2) mX11_gather 18 [(0, .ref 16), (1, .int l1), (2, .int l2), (3, .int l3), (4, .int l4)] [] S (some (.int q), yH (yKx T) z S)) := by
  intro n
  induction n with
  | zero => exact (by intro _ _ _ _ _ _ hf; cases hf)
  | succ n ih =>
    intro l1 l2 l3 l4 S q hf z
    unfold lX11_gather at hf
    iterate 5 (refine ry_step rfl rfl ?_)
    refine ry_br hf (fun hc hf => ?_) (fun hc hf => ?_)
    · iterate 2 (refine ry_step rfl rfl ?_)
      refine ry_br hf (fun hc hf => ?_) (fun hc hf => ?_)
      · refine ry_step rfl rfl ?_
        cases hf
        exact ry_ret rfl rfl
      · iterate 2 (refine ry_step rfl rfl ?_)
        cases hf
        exact ry_ret rfl rfl
    · iterate 4 (refine ry_step rfl rfl ?_)
      obtain ⟨u2, hv1, hf⟩ := Option.bind_eq_some_iff.mp hf
      refine ry_call rfl rfl rfl rfl rfl (tX2_isGone hv1) ?_
      refine ry_step rfl rfl ?_
      refine ry_br hf (fun hc hf => ?_) (fun hc hf => ?_)
      · iterate 8 (refine ry_step rfl rfl ?_)
        refine ry_iald hf rfl rfl rfl (fun j3 hf => ?_)
        iterate 4 (refine ry_step rfl rfl ?_)
        refine ry_iald hf rfl rfl rfl (fun j4 hf => ?_)
        obtain ⟨u6, hv5, hf⟩ := Option.bind_eq_some_iff.mp hf
        refine ry_call rfl rfl rfl rfl rfl (tX11_firstOfHabit hv5) ?_
        iterate 4 (refine ry_step rfl rfl ?_)
        refine ry_br hf (fun hc hf => ?_) (fun hc hf => ?_)
        · iterate 5 (refine ry_step rfl rfl ?_)
          refine ry_iald hf rfl rfl rfl (fun j7 hf => ?_)
          obtain ⟨u9, hv8, hf⟩ := Option.bind_eq_some_iff.mp hf
          refine ry_call rfl rfl rfl rfl rfl (tX11_leastCommon hv8) ?_
          iterate 3 (refine ry_step rfl rfl ?_)
          refine ry_sub [4, 2, 1, 3, 0] rfl rfl ?_
          exact ih u6 u9 (Int32.ofInt 1) (l4 + (Int32.ofInt 1)) S hf _
        · refine ry_step rfl rfl ?_
          cases hf
          exact ry_ret rfl rfl
      · iterate 3 (refine ry_step rfl rfl ?_)
        refine ry_sub [1, 2, 3, 4, 0] rfl rfl ?_
        exact ih l1 l2 l3 (l4 + (Int32.ofInt 1)) S hf _
def fX11_gather (N : Nat) (S : yS) : Option Int32 := lX11_gather N N (S.1 19 4) (Int32.ofInt 1) (Int32.ofInt 0) (Int32.ofInt 0) S
set_option maxRecDepth 4000 in
theorem tX11_gather {ro : xRo} {T : yK} {S : yS} {d N : Nat} {q : Int32} (hf : fX11_gather N  S = some q) : yEv ro xNo (yKx T) (d + 3) jX11_gather [.ref 16] S (some (.int q)) S := by
  refine ry_meth pX11_gather rfl (fun z => ?_)
  unfold fX11_gather at hf
  iterate 11 (refine ry_step rfl rfl ?_)
  refine ry_sub [4, 3, 2, 1, 0] rfl rfl ?_
  exact uX11_gather (ro := ro) _ (S.1 19 4) (Int32.ofInt 1) (Int32.ofInt 0) (Int32.ofInt 0) S hf _
def fX11_digits (N : Nat) (v0 : Int32) (v1 : Int32) (S : yS) : Option (Int32 × yS) := (if (fX11_within v0 (Int32.ofInt 0) (Int32.ofInt 99)) = 0 then some ((Int32.ofInt (-1)), S) else (if (fX11_within v1 (Int32.ofInt 0) (Int32.ofInt 50)) = 0 then some ((Int32.ofInt (-1)), S) else (fX11_raise N v0 v1 S).bind fun (u3, S2) => some (u3, S2)))
set_option maxRecDepth 4000 in
theorem tX11_digits {ro : xRo} {T : yK} {S : yS} {d N : Nat} {v0 : Int32} {v1 : Int32} {q : Int32} {S' : yS} (hf : fX11_digits N v0 v1 S = some (q, S')) : yEv ro xNo (yKx T) (d + 3) jX11_digits [.ref 16, .int v0, .int v1] S (some (.int q)) S' := by
  refine ry_meth pX11_digits rfl (fun z => ?_)
  unfold fX11_digits at hf
  iterate 3 (refine ry_step rfl rfl ?_)
  refine ry_call rfl rfl rfl rfl rfl tX11_within ?_
  refine ry_step rfl rfl ?_
  refine ry_br hf (fun hc hf => ?_) (fun hc hf => ?_)
  · refine ry_step rfl rfl ?_
    cases hf
    exact ry_ret rfl rfl
  · iterate 3 (refine ry_step rfl rfl ?_)
    refine ry_call rfl rfl rfl rfl rfl tX11_within ?_
    refine ry_step rfl rfl ?_
    refine ry_br hf (fun hc hf => ?_) (fun hc hf => ?_)
    · refine ry_step rfl rfl ?_
      cases hf
      exact ry_ret rfl rfl
    · iterate 3 (refine ry_step rfl rfl ?_)
      obtain ⟨⟨u3, S2⟩, hv1, hf⟩ := Option.bind_eq_some_iff.mp hf
      dsimp only at hf
      refine ry_call rfl rfl rfl rfl rfl (tX11_raise hv1) ?_
      refine ry_step rfl rfl ?_
      cases hf
      exact ry_ret rfl rfl
def fX11_digit (N : Nat) (v0 : Int32) (v1 : Int32) (v2 : Int32) (S : yS) : Option (Int32 × yS) := (if (fX11_within v0 (Int32.ofInt 0) (Int32.ofInt 99)) = 0 then some ((Int32.ofInt (-1)), S) else (if ¬ (fX11_within v1 (Int32.ofInt 0) (Int32.ofInt 50)) = 0 then (fX11_raise N v0 v1 S).bind fun (u3, S2) => (if (fX11_within v2 (Int32.ofInt 0) (u3 - (Int32.ofInt 1))) = 0 then some ((Int32.ofInt (-1)), S2) else (ain 101 ((u3 - (Int32.ofInt 1)) - v2)).bind fun j4 => some ((S2.2.2.1 264 j4), S2)) else some ((Int32.ofInt (-1)), S)))
set_option maxRecDepth 4000 in
theorem tX11_digit {ro : xRo} {T : yK} {S : yS} {d N : Nat} {v0 : Int32} {v1 : Int32} {v2 : Int32} {q : Int32} {S' : yS} (hf : fX11_digit N v0 v1 v2 S = some (q, S')) : yEv ro xNo (yKx T) (d + 3) jX11_digit [.ref 16, .int v0, .int v1, .int v2] S (some (.int q)) S' := by
  refine ry_meth pX11_digit rfl (fun z => ?_)
  unfold fX11_digit at hf
  iterate 3 (refine ry_step rfl rfl ?_)
  refine ry_call rfl rfl rfl rfl rfl tX11_within ?_
  refine ry_step rfl rfl ?_
  refine ry_br hf (fun hc hf => ?_) (fun hc hf => ?_)
  · refine ry_step rfl rfl ?_
    cases hf
    exact ry_ret rfl rfl
  · iterate 3 (refine ry_step rfl rfl ?_)
    refine ry_call rfl rfl rfl rfl rfl tX11_within ?_
    refine ry_step rfl rfl ?_
    refine ry_br hf (fun hc hf => ?_) (fun hc hf => ?_)
    · iterate 3 (refine ry_step rfl rfl ?_)
      obtain ⟨⟨u3, S2⟩, hv1, hf⟩ := Option.bind_eq_some_iff.mp hf
      dsimp only at hf
      refine ry_call rfl rfl rfl rfl rfl (tX11_raise hv1) ?_
      iterate 6 (refine ry_step rfl rfl ?_)
      refine ry_call rfl rfl rfl rfl rfl tX11_within ?_
      refine ry_step rfl rfl ?_
      refine ry_br hf (fun hc hf => ?_) (fun hc hf => ?_)
      · refine ry_step rfl rfl ?_
        cases hf
        exact ry_ret rfl rfl
      · iterate 7 (refine ry_step rfl rfl ?_)
        refine ry_iald hf rfl rfl rfl (fun j4 hf => ?_)
        refine ry_step rfl rfl ?_
        cases hf
        exact ry_ret rfl rfl
    · refine ry_step rfl rfl ?_
      cases hf
      exact ry_ret rfl rfl
