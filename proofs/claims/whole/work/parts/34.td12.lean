/-! ===== the reader: its nine methods at once, by how deep it may go ===== -/
def rd (N : Nat) : Nat → Nat → Int32 → Int32 → yS → Option yS
  | 0, _, _, _, _ => none
  | n + 1, m, a, b, S => if m = 0 then fX5_readSum N (rd N n) b S else if m = 1 then fX5_readProduct N (rd N n) b S else if m = 2 then fX5_readOne N (rd N n) b S else if m = 3 then fX5_readOpened N (rd N n) a b S else if m = 4 then fX5_readChoice N (rd N n) b S else if m = 5 then fX5_readEither N (rd N n) b S else if m = 6 then fX5_readBoth N (rd N n) b S else if m = 7 then fX5_readAsk N (rd N n) b S else if m = 8 then fX5_readCompared N (rd N n) b S else none
theorem tRd {ro : xRo} {T : yK} {N : Nat} : ∀ (n m : Nat) (a b : Int32) (S S' : yS), rd N n m a b S = some S' → ∀ {d}, yEv ro xNo (yKx T) (d + n + 10) (rdJ m) (rdA m a b) S none S' := by
  intro n
  induction n with
  | zero => intro m a b S S' hf; cases hf
  | succ n ih =>
    intro m a b S S' hf d
    have e : d + (n + 1) + 10 = (d + n) + 11 := by omega
    rw [e]
    have hR : ∀ m a b S S', rd N n m a b S = some S' → yEv ro xNo (yKx T) (d + n + 10) (rdJ m) (rdA m a b) S none S' := fun m a b S S' q => ih m a b S S' q
    unfold rd at hf
    by_cases h0 : m = 0
    · subst h0
      rw [if_pos rfl] at hf
      exact tX5_readSum hR hf
    rw [if_neg h0] at hf
    by_cases h1 : m = 1
    · subst h1
      rw [if_pos rfl] at hf
      exact tX5_readProduct hR hf
    rw [if_neg h1] at hf
    by_cases h2 : m = 2
    · subst h2
      rw [if_pos rfl] at hf
      exact tX5_readOne hR hf
    rw [if_neg h2] at hf
    by_cases h3 : m = 3
    · subst h3
      rw [if_pos rfl] at hf
      exact tX5_readOpened hR hf
    rw [if_neg h3] at hf
    by_cases h4 : m = 4
    · subst h4
      rw [if_pos rfl] at hf
      exact tX5_readChoice hR hf
    rw [if_neg h4] at hf
    by_cases h5 : m = 5
    · subst h5
      rw [if_pos rfl] at hf
      exact tX5_readEither hR hf
    rw [if_neg h5] at hf
    by_cases h6 : m = 6
    · subst h6
      rw [if_pos rfl] at hf
      exact tX5_readBoth hR hf
    rw [if_neg h6] at hf
    by_cases h7 : m = 7
    · subst h7
      rw [if_pos rfl] at hf
      exact tX5_readAsk hR hf
    rw [if_neg h7] at hf
    by_cases h8 : m = 8
    · subst h8
      rw [if_pos rfl] at hf
      exact tX5_readCompared hR hf
    rw [if_neg h8] at hf
    cases hf
def fX5_readLaw (N : Nat) (v0 : Int32) (S : yS) : Option yS := (if ¬ v0 = (Int32.ofInt 18) then pSt (ySi S 250 2 (Int32.ofInt 0)) fun S1 => (rd N 200 0 0 (Int32.ofInt 0) S1).bind fun S2 => (if (S2.1 250 2) = 0 then pSt (ySi S2 250 10 (S1.1 250 7)) fun S4 => pSt (ySi S4 250 11 (S4.1 250 7)) fun S5 => some S5 else pSt (ySi S2 250 8 (S1.1 250 7)) fun S6 => pSt (ySi S6 250 9 (S6.1 250 7)) fun S7 => some S7) else pSt (ySi S 250 2 (Int32.ofInt 1)) fun S8 => (rd N 200 0 0 (Int32.ofInt 0) S8).bind fun S9 => (if (S9.1 250 2) = 0 then pSt (ySi S9 250 10 (S8.1 250 7)) fun S11 => pSt (ySi S11 250 11 (S11.1 250 7)) fun S12 => some S12 else pSt (ySi S9 250 8 (S8.1 250 7)) fun S13 => pSt (ySi S13 250 9 (S13.1 250 7)) fun S14 => some S14))
set_option maxRecDepth 4000 in
theorem tX5_readLaw {ro : xRo} {T : yK} {S : yS} {d N : Nat} {v0 : Int32}  {S' : yS} (hf : fX5_readLaw N v0 S = some S') : yEv ro xNo (yKx T) (d + 211) jX5_readLaw [.ref 250, .int v0] S (none) S' := by
  refine ry_meth pX5_readLaw rfl (fun z => ?_)
  unfold fX5_readLaw at hf
  iterate 4 (refine ry_step rfl rfl ?_)
  refine ry_br hf (fun hc hf => ?_) (fun hc hf => ?_)
  · refine ry_step rfl rfl ?_
    refine ry_stepS hf rfl rfl (fun S1 hf => ?_)
    iterate 5 (refine ry_step rfl rfl ?_)
    obtain ⟨S2, hv3, hf⟩ := Option.bind_eq_some_iff.mp hf
    refine ry_call rfl rfl rfl rfl rfl (tRd 200 0 0 (Int32.ofInt 0) _ _ hv3) ?_
    iterate 3 (refine ry_step rfl rfl ?_)
    refine ry_br hf (fun hc hf => ?_) (fun hc hf => ?_)
    · iterate 2 (refine ry_step rfl rfl ?_)
      refine ry_stepS hf rfl rfl (fun S4 hf => ?_)
      iterate 3 (refine ry_step rfl rfl ?_)
      refine ry_stepS hf rfl rfl (fun S5 hf => ?_)
      cases hf
      exact ry_ret rfl rfl
    · iterate 2 (refine ry_step rfl rfl ?_)
      refine ry_stepS hf rfl rfl (fun S6 hf => ?_)
      iterate 3 (refine ry_step rfl rfl ?_)
      refine ry_stepS hf rfl rfl (fun S7 hf => ?_)
      refine ry_step rfl rfl ?_
      cases hf
      exact ry_ret rfl rfl
  · iterate 2 (refine ry_step rfl rfl ?_)
    refine ry_stepS hf rfl rfl (fun S8 hf => ?_)
    iterate 5 (refine ry_step rfl rfl ?_)
    obtain ⟨S9, hv10, hf⟩ := Option.bind_eq_some_iff.mp hf
    refine ry_call rfl rfl rfl rfl rfl (tRd 200 0 0 (Int32.ofInt 0) _ _ hv10) ?_
    iterate 3 (refine ry_step rfl rfl ?_)
    refine ry_br hf (fun hc hf => ?_) (fun hc hf => ?_)
    · iterate 2 (refine ry_step rfl rfl ?_)
      refine ry_stepS hf rfl rfl (fun S11 hf => ?_)
      iterate 3 (refine ry_step rfl rfl ?_)
      refine ry_stepS hf rfl rfl (fun S12 hf => ?_)
      cases hf
      exact ry_ret rfl rfl
    · iterate 2 (refine ry_step rfl rfl ?_)
      refine ry_stepS hf rfl rfl (fun S13 hf => ?_)
      iterate 3 (refine ry_step rfl rfl ?_)
      refine ry_stepS hf rfl rfl (fun S14 hf => ?_)
      refine ry_step rfl rfl ?_
      cases hf
      exact ry_ret rfl rfl
def fX5_readClause (N : Nat) (S : yS) : Option yS := (fX5_kind  S).bind fun u2 => (if ¬ (fX5_isVerb u2) = 0 then (if ¬ u2 = (Int32.ofInt 18) then (if ¬ u2 = (Int32.ofInt 19) then (if (S.1 250 15) < (Int32.ofInt 24) then pSt (ySi S 250 1 ((S.1 250 1) + (Int32.ofInt 1))) fun S3 => (ain 24 (S3.1 250 15)).bind fun j24 => pSt (ySa S3 258 (upd (S3.2.2.1 258) j24 u2)) fun S4 => (ain 24 (S4.1 250 15)).bind fun j23 => pSt (ySa S4 259 (upd (S4.2.2.1 259) j23 (Int32.ofInt 0))) fun S5 => (ain 24 (S5.1 250 15)).bind fun j22 => pSt (ySa S5 260 (upd (S5.2.2.1 260) j22 (Int32.ofInt 0))) fun S6 => (if u2 = (Int32.ofInt 18) then (fX5_readLaw N u2 S6).bind fun S8 => (fX5_expect (Int32.ofInt 35) S8).bind fun S10 => pSt (ySi S10 250 15 ((S10.1 250 15) + (Int32.ofInt 1))) fun S11 => some S11 else (if ¬ u2 = (Int32.ofInt 19) then (fX5_readNumbers u2 S6).bind fun S13 => (fX5_expect (Int32.ofInt 35) S13).bind fun S15 => pSt (ySi S15 250 15 ((S15.1 250 15) + (Int32.ofInt 1))) fun S16 => some S16 else (fX5_readLaw N u2 S6).bind fun S18 => (fX5_expect (Int32.ofInt 35) S18).bind fun S20 => pSt (ySi S20 250 15 ((S20.1 250 15) + (Int32.ofInt 1))) fun S21 => some S21)) else (fX5_fail (Int32.ofInt 6) S).bind fun S26 => some S26) else (if (S.1 250 10) = (Int32.ofInt (-1)) then (if (S.1 250 15) < (Int32.ofInt 24) then pSt (ySi S 250 1 ((S.1 250 1) + (Int32.ofInt 1))) fun S27 => (ain 24 (S27.1 250 15)).bind fun j48 => pSt (ySa S27 258 (upd (S27.2.2.1 258) j48 u2)) fun S28 => (ain 24 (S28.1 250 15)).bind fun j47 => pSt (ySa S28 259 (upd (S28.2.2.1 259) j47 (Int32.ofInt 0))) fun S29 => (ain 24 (S29.1 250 15)).bind fun j46 => pSt (ySa S29 260 (upd (S29.2.2.1 260) j46 (Int32.ofInt 0))) fun S30 => (if u2 = (Int32.ofInt 18) then (fX5_readLaw N u2 S30).bind fun S32 => (fX5_expect (Int32.ofInt 35) S32).bind fun S34 => pSt (ySi S34 250 15 ((S34.1 250 15) + (Int32.ofInt 1))) fun S35 => some S35 else (if ¬ u2 = (Int32.ofInt 19) then (fX5_readNumbers u2 S30).bind fun S37 => (fX5_expect (Int32.ofInt 35) S37).bind fun S39 => pSt (ySi S39 250 15 ((S39.1 250 15) + (Int32.ofInt 1))) fun S40 => some S40 else (fX5_readLaw N u2 S30).bind fun S42 => (fX5_expect (Int32.ofInt 35) S42).bind fun S44 => pSt (ySi S44 250 15 ((S44.1 250 15) + (Int32.ofInt 1))) fun S45 => some S45)) else (fX5_fail (Int32.ofInt 6) S).bind fun S50 => some S50) else (fX5_fail (Int32.ofInt 4) S).bind fun S52 => some S52)) else (if ¬ (S.1 250 8) = (Int32.ofInt (-1)) then (fX5_fail (Int32.ofInt 4) S).bind fun S54 => some S54 else (if ¬ u2 = (Int32.ofInt 19) then (if (S.1 250 15) < (Int32.ofInt 24) then pSt (ySi S 250 1 ((S.1 250 1) + (Int32.ofInt 1))) fun S55 => (ain 24 (S55.1 250 15)).bind fun j76 => pSt (ySa S55 258 (upd (S55.2.2.1 258) j76 u2)) fun S56 => (ain 24 (S56.1 250 15)).bind fun j75 => pSt (ySa S56 259 (upd (S56.2.2.1 259) j75 (Int32.ofInt 0))) fun S57 => (ain 24 (S57.1 250 15)).bind fun j74 => pSt (ySa S57 260 (upd (S57.2.2.1 260) j74 (Int32.ofInt 0))) fun S58 => (if u2 = (Int32.ofInt 18) then (fX5_readLaw N u2 S58).bind fun S60 => (fX5_expect (Int32.ofInt 35) S60).bind fun S62 => pSt (ySi S62 250 15 ((S62.1 250 15) + (Int32.ofInt 1))) fun S63 => some S63 else (if ¬ u2 = (Int32.ofInt 19) then (fX5_readNumbers u2 S58).bind fun S65 => (fX5_expect (Int32.ofInt 35) S65).bind fun S67 => pSt (ySi S67 250 15 ((S67.1 250 15) + (Int32.ofInt 1))) fun S68 => some S68 else (fX5_readLaw N u2 S58).bind fun S70 => (fX5_expect (Int32.ofInt 35) S70).bind fun S72 => pSt (ySi S72 250 15 ((S72.1 250 15) + (Int32.ofInt 1))) fun S73 => some S73)) else (fX5_fail (Int32.ofInt 6) S).bind fun S78 => some S78) else (if (S.1 250 10) = (Int32.ofInt (-1)) then (if (S.1 250 15) < (Int32.ofInt 24) then pSt (ySi S 250 1 ((S.1 250 1) + (Int32.ofInt 1))) fun S79 => (ain 24 (S79.1 250 15)).bind fun j100 => pSt (ySa S79 258 (upd (S79.2.2.1 258) j100 u2)) fun S80 => (ain 24 (S80.1 250 15)).bind fun j99 => pSt (ySa S80 259 (upd (S80.2.2.1 259) j99 (Int32.ofInt 0))) fun S81 => (ain 24 (S81.1 250 15)).bind fun j98 => pSt (ySa S81 260 (upd (S81.2.2.1 260) j98 (Int32.ofInt 0))) fun S82 => (if u2 = (Int32.ofInt 18) then (fX5_readLaw N u2 S82).bind fun S84 => (fX5_expect (Int32.ofInt 35) S84).bind fun S86 => pSt (ySi S86 250 15 ((S86.1 250 15) + (Int32.ofInt 1))) fun S87 => some S87 else (if ¬ u2 = (Int32.ofInt 19) then (fX5_readNumbers u2 S82).bind fun S89 => (fX5_expect (Int32.ofInt 35) S89).bind fun S91 => pSt (ySi S91 250 15 ((S91.1 250 15) + (Int32.ofInt 1))) fun S92 => some S92 else (fX5_readLaw N u2 S82).bind fun S94 => (fX5_expect (Int32.ofInt 35) S94).bind fun S96 => pSt (ySi S96 250 15 ((S96.1 250 15) + (Int32.ofInt 1))) fun S97 => some S97)) else (fX5_fail (Int32.ofInt 6) S).bind fun S102 => some S102) else (fX5_fail (Int32.ofInt 4) S).bind fun S104 => some S104)))) else (fX5_fail (Int32.ofInt 1) S).bind fun S106 => some S106)
set_option maxRecDepth 4000 in
theorem tX5_readClause {ro : xRo} {T : yK} {S : yS} {d N : Nat}  {S' : yS} (hf : fX5_readClause N  S = some S') : yEv ro xNo (yKx T) (d + 212) jX5_readClause [.ref 250] S (none) S' := by
  refine ry_meth pX5_readClause rfl (fun z => ?_)
  unfold fX5_readClause at hf
  refine ry_step rfl rfl ?_
  obtain ⟨u2, hv1, hf⟩ := Option.bind_eq_some_iff.mp hf
  refine ry_call rfl rfl rfl rfl rfl (tX5_kind hv1) ?_
  iterate 2 (refine ry_step rfl rfl ?_)
  refine ry_call rfl rfl rfl rfl rfl tX5_isVerb ?_
  refine ry_step rfl rfl ?_
  refine ry_br hf (fun hc hf => ?_) (fun hc hf => ?_)
  · iterate 3 (refine ry_step rfl rfl ?_)
    refine ry_br hf (fun hc hf => ?_) (fun hc hf => ?_)
    · iterate 3 (refine ry_step rfl rfl ?_)
      refine ry_br hf (fun hc hf => ?_) (fun hc hf => ?_)
      · iterate 4 (refine ry_step rfl rfl ?_)
        refine ry_br hf (fun hc hf => ?_) (fun hc hf => ?_)
        · iterate 5 (refine ry_step rfl rfl ?_)
          refine ry_stepS hf rfl rfl (fun S3 hf => ?_)
          iterate 5 (refine ry_step rfl rfl ?_)
          refine ry_iast hf rfl rfl (fun j24 S4 hf => ?_)
          iterate 5 (refine ry_step rfl rfl ?_)
          refine ry_iast hf rfl rfl (fun j23 S5 hf => ?_)
          iterate 5 (refine ry_step rfl rfl ?_)
          refine ry_iast hf rfl rfl (fun j22 S6 hf => ?_)
          iterate 3 (refine ry_step rfl rfl ?_)
          refine ry_br hf (fun hc hf => ?_) (fun hc hf => ?_)
          · iterate 2 (refine ry_step rfl rfl ?_)
            obtain ⟨S8, hv7, hf⟩ := Option.bind_eq_some_iff.mp hf
            refine ry_call rfl rfl rfl rfl rfl (tX5_readLaw hv7) ?_
            iterate 3 (refine ry_step rfl rfl ?_)
            obtain ⟨S10, hv9, hf⟩ := Option.bind_eq_some_iff.mp hf
            refine ry_call rfl rfl rfl rfl rfl (tX5_expect hv9) ?_
            iterate 5 (refine ry_step rfl rfl ?_)
            refine ry_stepS hf rfl rfl (fun S11 hf => ?_)
            cases hf
            exact ry_ret rfl rfl
          · iterate 3 (refine ry_step rfl rfl ?_)
            refine ry_br hf (fun hc hf => ?_) (fun hc hf => ?_)
            · iterate 2 (refine ry_step rfl rfl ?_)
              obtain ⟨S13, hv12, hf⟩ := Option.bind_eq_some_iff.mp hf
              refine ry_call rfl rfl rfl rfl rfl (tX5_readNumbers hv12) ?_
              iterate 2 (refine ry_step rfl rfl ?_)
              obtain ⟨S15, hv14, hf⟩ := Option.bind_eq_some_iff.mp hf
              refine ry_call rfl rfl rfl rfl rfl (tX5_expect hv14) ?_
              iterate 5 (refine ry_step rfl rfl ?_)
              refine ry_stepS hf rfl rfl (fun S16 hf => ?_)
              cases hf
              exact ry_ret rfl rfl
            · iterate 2 (refine ry_step rfl rfl ?_)
              obtain ⟨S18, hv17, hf⟩ := Option.bind_eq_some_iff.mp hf
              refine ry_call rfl rfl rfl rfl rfl (tX5_readLaw hv17) ?_
              iterate 3 (refine ry_step rfl rfl ?_)
              obtain ⟨S20, hv19, hf⟩ := Option.bind_eq_some_iff.mp hf
              refine ry_call rfl rfl rfl rfl rfl (tX5_expect hv19) ?_
              iterate 5 (refine ry_step rfl rfl ?_)
              refine ry_stepS hf rfl rfl (fun S21 hf => ?_)
              cases hf
              exact ry_ret rfl rfl
        · iterate 2 (refine ry_step rfl rfl ?_)
          obtain ⟨S26, hv25, hf⟩ := Option.bind_eq_some_iff.mp hf
          refine ry_call rfl rfl rfl rfl rfl (tX5_fail hv25) ?_
          refine ry_step rfl rfl ?_
          cases hf
          exact ry_ret rfl rfl
      · iterate 4 (refine ry_step rfl rfl ?_)
        refine ry_br hf (fun hc hf => ?_) (fun hc hf => ?_)
        · iterate 4 (refine ry_step rfl rfl ?_)
          refine ry_br hf (fun hc hf => ?_) (fun hc hf => ?_)
          · iterate 5 (refine ry_step rfl rfl ?_)
            refine ry_stepS hf rfl rfl (fun S27 hf => ?_)
            iterate 5 (refine ry_step rfl rfl ?_)
            refine ry_iast hf rfl rfl (fun j48 S28 hf => ?_)
            iterate 5 (refine ry_step rfl rfl ?_)
            refine ry_iast hf rfl rfl (fun j47 S29 hf => ?_)
            iterate 5 (refine ry_step rfl rfl ?_)
            refine ry_iast hf rfl rfl (fun j46 S30 hf => ?_)
            iterate 3 (refine ry_step rfl rfl ?_)
            refine ry_br hf (fun hc hf => ?_) (fun hc hf => ?_)
            · iterate 2 (refine ry_step rfl rfl ?_)
              obtain ⟨S32, hv31, hf⟩ := Option.bind_eq_some_iff.mp hf
              refine ry_call rfl rfl rfl rfl rfl (tX5_readLaw hv31) ?_
              iterate 3 (refine ry_step rfl rfl ?_)
              obtain ⟨S34, hv33, hf⟩ := Option.bind_eq_some_iff.mp hf
              refine ry_call rfl rfl rfl rfl rfl (tX5_expect hv33) ?_
              iterate 5 (refine ry_step rfl rfl ?_)
              refine ry_stepS hf rfl rfl (fun S35 hf => ?_)
              cases hf
              exact ry_ret rfl rfl
            · iterate 3 (refine ry_step rfl rfl ?_)
              refine ry_br hf (fun hc hf => ?_) (fun hc hf => ?_)
              · iterate 2 (refine ry_step rfl rfl ?_)
                obtain ⟨S37, hv36, hf⟩ := Option.bind_eq_some_iff.mp hf
                refine ry_call rfl rfl rfl rfl rfl (tX5_readNumbers hv36) ?_
                iterate 2 (refine ry_step rfl rfl ?_)
                obtain ⟨S39, hv38, hf⟩ := Option.bind_eq_some_iff.mp hf
                refine ry_call rfl rfl rfl rfl rfl (tX5_expect hv38) ?_
                iterate 5 (refine ry_step rfl rfl ?_)
                refine ry_stepS hf rfl rfl (fun S40 hf => ?_)
                cases hf
                exact ry_ret rfl rfl
              · iterate 2 (refine ry_step rfl rfl ?_)
                obtain ⟨S42, hv41, hf⟩ := Option.bind_eq_some_iff.mp hf
                refine ry_call rfl rfl rfl rfl rfl (tX5_readLaw hv41) ?_
                iterate 3 (refine ry_step rfl rfl ?_)
                obtain ⟨S44, hv43, hf⟩ := Option.bind_eq_some_iff.mp hf
                refine ry_call rfl rfl rfl rfl rfl (tX5_expect hv43) ?_
                iterate 5 (refine ry_step rfl rfl ?_)
                refine ry_stepS hf rfl rfl (fun S45 hf => ?_)
                cases hf
                exact ry_ret rfl rfl
          · iterate 2 (refine ry_step rfl rfl ?_)
            obtain ⟨S50, hv49, hf⟩ := Option.bind_eq_some_iff.mp hf
            refine ry_call rfl rfl rfl rfl rfl (tX5_fail hv49) ?_
            refine ry_step rfl rfl ?_
            cases hf
            exact ry_ret rfl rfl
        · iterate 2 (refine ry_step rfl rfl ?_)
          obtain ⟨S52, hv51, hf⟩ := Option.bind_eq_some_iff.mp hf
          refine ry_call rfl rfl rfl rfl rfl (tX5_fail hv51) ?_
          refine ry_step rfl rfl ?_
          cases hf
          exact ry_ret rfl rfl
    · iterate 4 (refine ry_step rfl rfl ?_)
      refine ry_br hf (fun hc hf => ?_) (fun hc hf => ?_)
      · iterate 2 (refine ry_step rfl rfl ?_)
        obtain ⟨S54, hv53, hf⟩ := Option.bind_eq_some_iff.mp hf
        refine ry_call rfl rfl rfl rfl rfl (tX5_fail hv53) ?_
        refine ry_step rfl rfl ?_
        cases hf
        exact ry_ret rfl rfl
      · iterate 3 (refine ry_step rfl rfl ?_)
        refine ry_br hf (fun hc hf => ?_) (fun hc hf => ?_)
        · iterate 4 (refine ry_step rfl rfl ?_)
          refine ry_br hf (fun hc hf => ?_) (fun hc hf => ?_)
          · iterate 5 (refine ry_step rfl rfl ?_)
            refine ry_stepS hf rfl rfl (fun S55 hf => ?_)
            iterate 5 (refine ry_step rfl rfl ?_)
            refine ry_iast hf rfl rfl (fun j76 S56 hf => ?_)
            iterate 5 (refine ry_step rfl rfl ?_)
            refine ry_iast hf rfl rfl (fun j75 S57 hf => ?_)
            iterate 5 (refine ry_step rfl rfl ?_)
            refine ry_iast hf rfl rfl (fun j74 S58 hf => ?_)
            iterate 3 (refine ry_step rfl rfl ?_)
            refine ry_br hf (fun hc hf => ?_) (fun hc hf => ?_)
            · iterate 2 (refine ry_step rfl rfl ?_)
              obtain ⟨S60, hv59, hf⟩ := Option.bind_eq_some_iff.mp hf
              refine ry_call rfl rfl rfl rfl rfl (tX5_readLaw hv59) ?_
              iterate 3 (refine ry_step rfl rfl ?_)
              obtain ⟨S62, hv61, hf⟩ := Option.bind_eq_some_iff.mp hf
              refine ry_call rfl rfl rfl rfl rfl (tX5_expect hv61) ?_
              iterate 5 (refine ry_step rfl rfl ?_)
              refine ry_stepS hf rfl rfl (fun S63 hf => ?_)
              cases hf
              exact ry_ret rfl rfl
            · iterate 3 (refine ry_step rfl rfl ?_)
              refine ry_br hf (fun hc hf => ?_) (fun hc hf => ?_)
              · iterate 2 (refine ry_step rfl rfl ?_)
                obtain ⟨S65, hv64, hf⟩ := Option.bind_eq_some_iff.mp hf
                refine ry_call rfl rfl rfl rfl rfl (tX5_readNumbers hv64) ?_
                iterate 2 (refine ry_step rfl rfl ?_)
                obtain ⟨S67, hv66, hf⟩ := Option.bind_eq_some_iff.mp hf
                refine ry_call rfl rfl rfl rfl rfl (tX5_expect hv66) ?_
                iterate 5 (refine ry_step rfl rfl ?_)
                refine ry_stepS hf rfl rfl (fun S68 hf => ?_)
                cases hf
                exact ry_ret rfl rfl
              · iterate 2 (refine ry_step rfl rfl ?_)
                obtain ⟨S70, hv69, hf⟩ := Option.bind_eq_some_iff.mp hf
                refine ry_call rfl rfl rfl rfl rfl (tX5_readLaw hv69) ?_
                iterate 3 (refine ry_step rfl rfl ?_)
                obtain ⟨S72, hv71, hf⟩ := Option.bind_eq_some_iff.mp hf
                refine ry_call rfl rfl rfl rfl rfl (tX5_expect hv71) ?_
                iterate 5 (refine ry_step rfl rfl ?_)
                refine ry_stepS hf rfl rfl (fun S73 hf => ?_)
                cases hf
                exact ry_ret rfl rfl
          · iterate 2 (refine ry_step rfl rfl ?_)
            obtain ⟨S78, hv77, hf⟩ := Option.bind_eq_some_iff.mp hf
            refine ry_call rfl rfl rfl rfl rfl (tX5_fail hv77) ?_
            refine ry_step rfl rfl ?_
            cases hf
            exact ry_ret rfl rfl
        · iterate 4 (refine ry_step rfl rfl ?_)
          refine ry_br hf (fun hc hf => ?_) (fun hc hf => ?_)
          · iterate 4 (refine ry_step rfl rfl ?_)
            refine ry_br hf (fun hc hf => ?_) (fun hc hf => ?_)
            · iterate 5 (refine ry_step rfl rfl ?_)
              refine ry_stepS hf rfl rfl (fun S79 hf => ?_)
              iterate 5 (refine ry_step rfl rfl ?_)
              refine ry_iast hf rfl rfl (fun j100 S80 hf => ?_)
              iterate 5 (refine ry_step rfl rfl ?_)
              refine ry_iast hf rfl rfl (fun j99 S81 hf => ?_)
              iterate 5 (refine ry_step rfl rfl ?_)
              refine ry_iast hf rfl rfl (fun j98 S82 hf => ?_)
              iterate 3 (refine ry_step rfl rfl ?_)
              refine ry_br hf (fun hc hf => ?_) (fun hc hf => ?_)
              · iterate 2 (refine ry_step rfl rfl ?_)
                obtain ⟨S84, hv83, hf⟩ := Option.bind_eq_some_iff.mp hf
                refine ry_call rfl rfl rfl rfl rfl (tX5_readLaw hv83) ?_
                iterate 3 (refine ry_step rfl rfl ?_)
                obtain ⟨S86, hv85, hf⟩ := Option.bind_eq_some_iff.mp hf
                refine ry_call rfl rfl rfl rfl rfl (tX5_expect hv85) ?_
                iterate 5 (refine ry_step rfl rfl ?_)
                refine ry_stepS hf rfl rfl (fun S87 hf => ?_)
                cases hf
                exact ry_ret rfl rfl
              · iterate 3 (refine ry_step rfl rfl ?_)
                refine ry_br hf (fun hc hf => ?_) (fun hc hf => ?_)
                · iterate 2 (refine ry_step rfl rfl ?_)
                  obtain ⟨S89, hv88, hf⟩ := Option.bind_eq_some_iff.mp hf
                  refine ry_call rfl rfl rfl rfl rfl (tX5_readNumbers hv88) ?_
                  iterate 2 (refine ry_step rfl rfl ?_)
                  obtain ⟨S91, hv90, hf⟩ := Option.bind_eq_some_iff.mp hf
                  refine ry_call rfl rfl rfl rfl rfl (tX5_expect hv90) ?_
                  iterate 5 (refine ry_step rfl rfl ?_)
                  refine ry_stepS hf rfl rfl (fun S92 hf => ?_)
                  cases hf
                  exact ry_ret rfl rfl
                · iterate 2 (refine ry_step rfl rfl ?_)
                  obtain ⟨S94, hv93, hf⟩ := Option.bind_eq_some_iff.mp hf
                  refine ry_call rfl rfl rfl rfl rfl (tX5_readLaw hv93) ?_
                  iterate 3 (refine ry_step rfl rfl ?_)
                  obtain ⟨S96, hv95, hf⟩ := Option.bind_eq_some_iff.mp hf
                  refine ry_call rfl rfl rfl rfl rfl (tX5_expect hv95) ?_
                  iterate 5 (refine ry_step rfl rfl ?_)
                  refine ry_stepS hf rfl rfl (fun S97 hf => ?_)
                  cases hf
                  exact ry_ret rfl rfl
            · iterate 2 (refine ry_step rfl rfl ?_)
              obtain ⟨S102, hv101, hf⟩ := Option.bind_eq_some_iff.mp hf
              refine ry_call rfl rfl rfl rfl rfl (tX5_fail hv101) ?_
              refine ry_step rfl rfl ?_
              cases hf
              exact ry_ret rfl rfl
          · iterate 2 (refine ry_step rfl rfl ?_)
            obtain ⟨S104, hv103, hf⟩ := Option.bind_eq_some_iff.mp hf
            refine ry_call rfl rfl rfl rfl rfl (tX5_fail hv103) ?_
            refine ry_step rfl rfl ?_
            cases hf
            exact ry_ret rfl rfl
  · iterate 2 (refine ry_step rfl rfl ?_)
    obtain ⟨S106, hv105, hf⟩ := Option.bind_eq_some_iff.mp hf
    refine ry_call rfl rfl rfl rfl rfl (tX5_fail hv105) ?_
    refine ry_step rfl rfl ?_
    cases hf
    exact ry_ret rfl rfl
