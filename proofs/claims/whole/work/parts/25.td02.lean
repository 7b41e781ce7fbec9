/-! ===== methods as functions, and their walks, by program ===== -/
def lX11_rests (N : Nat) : Nat → Int32 → Int32 → yS → Option Int32
  | 0, _, _, _ => none
  | n + 1, l2, l3, S => (if (Int32.ofInt 999) < l3 then some l3 else (if (fX11_deeper l2) = l2 then some l3 else lX11_rests N n (fX11_deeper l2) (l3 + (Int32.ofInt 1)) S))
set_option maxRecDepth 4000 in
theorem uX11_rests {ro : xRo} {T : yK} {d N : Nat} : ∀ n : Nat, (∀ (l2 : Int32) (l3 : Int32) (S : yS) {q : Int32}, lX11_rests N n l2 l3 S = some q → ∀ z, Ry ro xNo (yKx T) z (d + 1) mX11_rests 17 [(2, .int l2), (3, .int l3)] [] S (some (.int q), yH (yKx T) z S)) := by
  intro n
  induction n with
  | zero => exact (by intro _ _ _ _ hf; cases hf)
  | succ n ih =>
    intro l2 l3 S q hf z
    unfold lX11_rests at hf
    iterate 3 (refine ry_step rfl rfl ?_)
    refine ry_br hf (fun hc hf => ?_) (fun hc hf => ?_)
    · refine ry_step rfl rfl ?_
      cases hf
      exact ry_ret rfl rfl
    · refine ry_step rfl rfl ?_
      refine ry_call rfl rfl rfl rfl rfl tX11_deeper ?_
      iterate 2 (refine ry_step rfl rfl ?_)
      refine ry_br hf (fun hc hf => ?_) (fun hc hf => ?_)
      · refine ry_step rfl rfl ?_
        cases hf
        exact ry_ret rfl rfl
      · refine ry_step rfl rfl ?_
        refine ry_call rfl rfl rfl rfl rfl tX11_deeper ?_
        iterate 3 (refine ry_step rfl rfl ?_)
        refine ry_sub [1, 0] rfl rfl ?_
        exact ih (fX11_deeper l2) (l3 + (Int32.ofInt 1)) S hf _
def fX11_rests (N : Nat) (v0 : Int32) (S : yS) : Option Int32 := (if ¬ (fX11_within v0 (Int32.ofInt 0) (Int32.ofInt 999)) = 0 then lX11_rests N N v0 (Int32.ofInt 0) S else some (Int32.ofInt (-1)))
set_option maxRecDepth 4000 in
theorem tX11_rests {ro : xRo} {T : yK} {S : yS} {d N : Nat} {v0 : Int32} {q : Int32} (hf : fX11_rests N v0 S = some q) : yEv ro xNo (yKx T) (d + 2) jX11_rests [.ref 16, .int v0] S (some (.int q)) S := by
  refine ry_meth pX11_rests rfl (fun z => ?_)
  unfold fX11_rests at hf
  iterate 3 (refine ry_step rfl rfl ?_)
  refine ry_call rfl rfl rfl rfl rfl tX11_within ?_
  refine ry_step rfl rfl ?_
  refine ry_br hf (fun hc hf => ?_) (fun hc hf => ?_)
  · iterate 4 (refine ry_step rfl rfl ?_)
    refine ry_sub [1, 0] rfl rfl ?_
    exact uX11_rests (ro := ro) _ v0 (Int32.ofInt 0) S hf _
  · refine ry_step rfl rfl ?_
    cases hf
    exact ry_ret rfl rfl
def fX11_told (v0 : Int32) (v1 : Int32) (S : yS) : Option (Int32 × yS) := (if ¬ v0 = (Int32.ofInt (-1)) then (if (fX11_isCount v0) = 0 then some ((Int32.ofInt (-2)), S) else (if (fX11_within v1 (Int32.ofInt (-99)) (Int32.ofInt 99)) = 0 then some ((Int32.ofInt (-2)), S) else (if (S.1 18 15) < (Int32.ofInt 8) then (fX0_addTold v0 v1 S).bind fun (u3, S2) => some (u3, S2) else some ((Int32.ofInt (-2)), S)))) else pSt (ySi S 18 15 (Int32.ofInt 0)) fun S4 => some ((Int32.ofInt 0), S4))
set_option maxRecDepth 4000 in
theorem tX11_told {ro : xRo} {T : yK} {S : yS} {d : Nat} {v0 : Int32} {v1 : Int32} {q : Int32} {S' : yS} (hf : fX11_told v0 v1 S = some (q, S')) : yEv ro xNo (yKx T) (d + 2) jX11_told [.ref 16, .int v0, .int v1] S (some (.int q)) S' := by
  refine ry_meth pX11_told rfl (fun z => ?_)
  unfold fX11_told at hf
  iterate 3 (refine ry_step rfl rfl ?_)
  refine ry_br hf (fun hc hf => ?_) (fun hc hf => ?_)
  · refine ry_step rfl rfl ?_
    refine ry_call rfl rfl rfl rfl rfl tX11_isCount ?_
    refine ry_step rfl rfl ?_
    refine ry_br hf (fun hc hf => ?_) (fun hc hf => ?_)
    · refine ry_step rfl rfl ?_
      cases hf
      exact ry_ret rfl rfl
    · iterate 3 (refine ry_step rfl rfl ?_)
      refine ry_call rfl rfl rfl rfl rfl tX11_within ?_
      refine ry_step rfl rfl ?_
      refine ry_br hf (fun hc hf => ?_) (fun hc hf => ?_)
      · refine ry_step rfl rfl ?_
        cases hf
        exact ry_ret rfl rfl
      · iterate 5 (refine ry_step rfl rfl ?_)
        refine ry_br hf (fun hc hf => ?_) (fun hc hf => ?_)
        · iterate 4 (refine ry_step rfl rfl ?_)
          obtain ⟨⟨u3, S2⟩, hv1, hf⟩ := Option.bind_eq_some_iff.mp hf
          dsimp only at hf
          refine ry_call rfl rfl rfl rfl rfl (tX0_addTold hv1) ?_
          cases hf
          exact ry_ret rfl rfl
        · refine ry_step rfl rfl ?_
          cases hf
          exact ry_ret rfl rfl
  · iterate 3 (refine ry_step rfl rfl ?_)
    refine ry_stepS hf rfl rfl (fun S4 hf => ?_)
    refine ry_step rfl rfl ?_
    cases hf
    exact ry_ret rfl rfl
def lX11_eldest (N : Nat) : Nat → Int32 → Int32 → Int32 → yS → Option Int32
  | 0, _, _, _, _ => none
  | n + 1, l1, l2, l3, S => (if (S.1 18 5) ≤ l3 then some l1 else (ain 8 l3).bind fun j1 => (if (S.2.2.1 20 j1) ≤ l2 then lX11_eldest N n l1 l2 (l3 + (Int32.ofInt 1)) S else (ain 8 l3).bind fun j2 => lX11_eldest N n l3 (S.2.2.1 20 j2) (l3 + (Int32.ofInt 1)) S))
set_option maxRecDepth 4000 in
theorem uX11_eldest {ro : xRo} {T : yK} {d N : Nat} : ∀ n : Nat, (∀ (l1 : Int32) (l2 : Int32) (l3 : Int32) (S : yS) {q : Int32}, lX11_eldest N n l1 l2 l3 S = some q → ∀ z, Ry ro xNo (yKx T) z (d + 0) mX11_eldest 6 [(0, .ref 16), (1, .int l1), (2, .int l2), (3, .int l3)] [] S (some (.int q), yH (yKx T) z S)) := by
  intro n
  induction n with
  | zero => exact (by intro _ _ _ _ _ hf; cases hf)
  | succ n ih =>
    intro l1 l2 l3 S q hf z
    unfold lX11_eldest at hf
    iterate 5 (refine ry_step rfl rfl ?_)
    refine ry_br hf (fun hc hf => ?_) (fun hc hf => ?_)
    · refine ry_step rfl rfl ?_
      cases hf
      exact ry_ret rfl rfl
    · iterate 5 (refine ry_step rfl rfl ?_)
      refine ry_iald hf rfl rfl rfl (fun j1 hf => ?_)
      iterate 2 (refine ry_step rfl rfl ?_)
      refine ry_br hf (fun hc hf => ?_) (fun hc hf => ?_)
      · iterate 2 (refine ry_step rfl rfl ?_)
        refine ry_sub [1, 2, 3, 0] rfl rfl ?_
        exact ih l1 l2 (l3 + (Int32.ofInt 1)) S hf _
      · iterate 5 (refine ry_step rfl rfl ?_)
        refine ry_iald hf rfl rfl rfl (fun j2 hf => ?_)
        iterate 5 (refine ry_step rfl rfl ?_)
        refine ry_sub [3, 1, 2, 0] rfl rfl ?_
        exact ih l3 (S.2.2.1 20 j2) (l3 + (Int32.ofInt 1)) S hf _
def fX11_eldest (N : Nat) (S : yS) : Option Int32 := lX11_eldest N N (Int32.ofInt (-1)) (Int32.ofInt 0) (Int32.ofInt 0) S
set_option maxRecDepth 4000 in
theorem tX11_eldest {ro : xRo} {T : yK} {S : yS} {d N : Nat} {q : Int32} (hf : fX11_eldest N  S = some q) : yEv ro xNo (yKx T) (d + 1) jX11_eldest [.ref 16] S (some (.int q)) S := by
  refine ry_meth pX11_eldest rfl (fun z => ?_)
  unfold fX11_eldest at hf
  iterate 6 (refine ry_step rfl rfl ?_)
  refine ry_sub [3, 2, 1, 0] rfl rfl ?_
  exact uX11_eldest (ro := ro) _ (Int32.ofInt (-1)) (Int32.ofInt 0) (Int32.ofInt 0) S hf _
def fX11_ledger (N : Nat) (v0 : Int32) (S : yS) : Option Int32 := (if (fX11_within v0 (Int32.ofInt 0) (Int32.ofInt 9)) = 0 then some (Int32.ofInt (-2)) else (fX2_countWritten N v0 S).bind fun u2 => some u2)
set_option maxRecDepth 4000 in
theorem tX11_ledger {ro : xRo} {T : yK} {S : yS} {d N : Nat} {v0 : Int32} {q : Int32} (hf : fX11_ledger N v0 S = some q) : yEv ro xNo (yKx T) (d + 3) jX11_ledger [.ref 16, .int v0] S (some (.int q)) S := by
  refine ry_meth pX11_ledger rfl (fun z => ?_)
  unfold fX11_ledger at hf
  iterate 3 (refine ry_step rfl rfl ?_)
  refine ry_call rfl rfl rfl rfl rfl tX11_within ?_
  refine ry_step rfl rfl ?_
  refine ry_br hf (fun hc hf => ?_) (fun hc hf => ?_)
  · refine ry_step rfl rfl ?_
    cases hf
    exact ry_ret rfl rfl
  · iterate 4 (refine ry_step rfl rfl ?_)
    obtain ⟨u2, hv1, hf⟩ := Option.bind_eq_some_iff.mp hf
    refine ry_call rfl rfl rfl rfl rfl (tX2_countWritten hv1) ?_
    refine ry_step rfl rfl ?_
    cases hf
    exact ry_ret rfl rfl
def fX11_about (v0 : Int32) (S : yS) : Option Int32 := (if v0 = (Int32.ofInt 0) then some (S.1 18 5) else (if v0 = (Int32.ofInt 1) then some (S.1 18 8) else (if v0 = (Int32.ofInt 2) then some (S.1 18 9) else (if v0 = (Int32.ofInt 3) then some (S.1 22 2) else (if v0 = (Int32.ofInt 4) then some (S.1 119 2) else (if v0 = (Int32.ofInt 5) then some (S.1 18 15) else (if v0 = (Int32.ofInt 6) then some (S.1 251 1) else some (Int32.ofInt (-2)))))))))
set_option maxRecDepth 4000 in
theorem tX11_about {ro : xRo} {T : yK} {S : yS} {d : Nat} {v0 : Int32} {q : Int32} (hf : fX11_about v0 S = some q) : yEv ro xNo (yKx T) (d + 1) jX11_about [.ref 16, .int v0] S (some (.int q)) S := by
  refine ry_meth pX11_about rfl (fun z => ?_)
  unfold fX11_about at hf
  refine ry_step rfl rfl ?_
  refine ry_sw hf (fun hf => ?_) (fun n0 hf => ?_)
  · iterate 4 (refine ry_step rfl rfl ?_)
    cases hf
    exact ry_ret rfl rfl
  · refine ry_sw hf (fun hf => ?_) (fun n1 hf => ?_)
    · iterate 4 (refine ry_step rfl rfl ?_)
      cases hf
      exact ry_ret rfl rfl
    · refine ry_sw hf (fun hf => ?_) (fun n2 hf => ?_)
      · iterate 4 (refine ry_step rfl rfl ?_)
        cases hf
        exact ry_ret rfl rfl
      · refine ry_sw hf (fun hf => ?_) (fun n3 hf => ?_)
        · iterate 5 (refine ry_step rfl rfl ?_)
          cases hf
          exact ry_ret rfl rfl
        · refine ry_sw hf (fun hf => ?_) (fun n4 hf => ?_)
          · iterate 5 (refine ry_step rfl rfl ?_)
            cases hf
            exact ry_ret rfl rfl
          · refine ry_sw hf (fun hf => ?_) (fun n5 hf => ?_)
            · iterate 4 (refine ry_step rfl rfl ?_)
              cases hf
              exact ry_ret rfl rfl
            · refine ry_sw hf (fun hf => ?_) (fun n6 hf => ?_)
              · iterate 4 (refine ry_step rfl rfl ?_)
                cases hf
                exact ry_ret rfl rfl
              · have m0 := xne_toInt (k := 0) rfl n0
                have m1 := xne_toInt (k := 1) rfl n1
                have m2 := xne_toInt (k := 2) rfl n2
                have m3 := xne_toInt (k := 3) rfl n3
                have m4 := xne_toInt (k := 4) rfl n4
                have m5 := xne_toInt (k := 5) rfl n5
                have m6 := xne_toInt (k := 6) rfl n6
                refine ry_tb rfl (by omega) ?_
                refine ry_step rfl rfl ?_
                cases hf
                exact ry_ret rfl rfl
def lX11_canCome (N : Nat) : Nat → Int32 → Int32 → Int32 → Int32 → Int32 → yS → Option Int32
  | 0, _, _, _, _, _, _ => none
  | n + 1, l1, l2, l3, l4, l5, S => (if (Int32.ofInt 8) ≤ l5 then (if (fX11_within l2 l3 (l3 + l4)) = 0 ∨ (fX11_within l2 l3 (l3 + l4)) = 1 then some (fX11_within l2 l3 (l3 + l4)) else none) else (if (fX11_isIn l1 l5) = 0 then (if (fX11_isIn l1 l5) = 0 then lX11_canCome N n l1 l2 l3 l4 (l5 + (Int32.ofInt 1)) S else (ain 8 l5).bind fun j1 => (if (S.2.2.1 263 j1) ≤ 0 then lX11_canCome N n l1 l2 l3 l4 (l5 + (Int32.ofInt 1)) S else lX11_canCome N n l1 l2 l3 (l4 + (Int32.ofInt 1)) (l5 + (Int32.ofInt 1)) S)) else (ain 8 l5).bind fun j2 => (if ¬ (S.2.2.1 263 j2) = (Int32.ofInt 10) then (if (fX11_isIn l1 l5) = 0 then lX11_canCome N n l1 l2 l3 l4 (l5 + (Int32.ofInt 1)) S else (ain 8 l5).bind fun j3 => (if (S.2.2.1 263 j3) ≤ 0 then lX11_canCome N n l1 l2 l3 l4 (l5 + (Int32.ofInt 1)) S else lX11_canCome N n l1 l2 l3 (l4 + (Int32.ofInt 1)) (l5 + (Int32.ofInt 1)) S)) else lX11_canCome N n l1 l2 (l3 + (Int32.ofInt 1)) l4 (l5 + (Int32.ofInt 1)) S)))
set_option maxRecDepth 4000 in
theorem uX11_canCome {ro : xRo} {T : yK} {d N : Nat} : ∀ n : Nat, (∀ (l1 : Int32) (l2 : Int32) (l3 : Int32) (l4 : Int32) (l5 : Int32) (S : yS) {q : Int32}, lX11_canCome N n l1 l2 l3 l4 l5 S = some q → ∀ z, Ry ro xNo (yKx T) z (d + 1) mX11_canCome 8 [(0, .ref 16), (1, .int l1), (2, .int l2), (3, .int l3), (4, .int l4), (5, .int l5)] [] S (some (.int q), yH (yKx T) z S)) := by
  intro n
  induction n with
  | zero => exact (by intro _ _ _ _ _ _ _ hf; cases hf)
  | succ n ih =>
    intro l1 l2 l3 l4 l5 S q hf z
    unfold lX11_canCome at hf
    iterate 3 (refine ry_step rfl rfl ?_)
    refine ry_br hf (fun hc hf => ?_) (fun hc hf => ?_)
    · iterate 5 (refine ry_step rfl rfl ?_)
      refine ry_call rfl rfl rfl rfl rfl tX11_within ?_
      exact ry_retz (S' := S) hf rfl rfl rfl (fun h => by cases h; rfl)
    · iterate 2 (refine ry_step rfl rfl ?_)
      refine ry_call rfl rfl rfl rfl rfl tX11_isIn ?_
      refine ry_step rfl rfl ?_
      refine ry_br hf (fun hc hf => ?_) (fun hc hf => ?_)
      · iterate 2 (refine ry_step rfl rfl ?_)
        refine ry_call rfl rfl rfl rfl rfl tX11_isIn ?_
        refine ry_step rfl rfl ?_
        refine ry_br hf (fun hc hf => ?_) (fun hc hf => ?_)
        · iterate 2 (refine ry_step rfl rfl ?_)
          refine ry_sub [1, 2, 3, 4, 5, 0] rfl rfl ?_
          exact ih l1 l2 l3 l4 (l5 + (Int32.ofInt 1)) S hf _
        · iterate 3 (refine ry_step rfl rfl ?_)
          refine ry_iald hf rfl rfl rfl (fun j1 hf => ?_)
          refine ry_step rfl rfl ?_
          refine ry_br hf (fun hc hf => ?_) (fun hc hf => ?_)
          · iterate 2 (refine ry_step rfl rfl ?_)
            refine ry_sub [1, 2, 3, 4, 5, 0] rfl rfl ?_
            exact ih l1 l2 l3 l4 (l5 + (Int32.ofInt 1)) S hf _
          · iterate 3 (refine ry_step rfl rfl ?_)
            refine ry_sub [2, 3, 4, 5, 1, 0] rfl rfl ?_
            exact ih l1 l2 l3 (l4 + (Int32.ofInt 1)) (l5 + (Int32.ofInt 1)) S hf _
      · iterate 3 (refine ry_step rfl rfl ?_)
        refine ry_iald hf rfl rfl rfl (fun j2 hf => ?_)
        iterate 2 (refine ry_step rfl rfl ?_)
        refine ry_br hf (fun hc hf => ?_) (fun hc hf => ?_)
        · iterate 2 (refine ry_step rfl rfl ?_)
          refine ry_call rfl rfl rfl rfl rfl tX11_isIn ?_
          refine ry_step rfl rfl ?_
          refine ry_br hf (fun hc hf => ?_) (fun hc hf => ?_)
          · iterate 2 (refine ry_step rfl rfl ?_)
            refine ry_sub [1, 2, 3, 4, 5, 0] rfl rfl ?_
            exact ih l1 l2 l3 l4 (l5 + (Int32.ofInt 1)) S hf _
          · iterate 3 (refine ry_step rfl rfl ?_)
            refine ry_iald hf rfl rfl rfl (fun j3 hf => ?_)
            refine ry_step rfl rfl ?_
            refine ry_br hf (fun hc hf => ?_) (fun hc hf => ?_)
            · iterate 2 (refine ry_step rfl rfl ?_)
              refine ry_sub [1, 2, 3, 4, 5, 0] rfl rfl ?_
              exact ih l1 l2 l3 l4 (l5 + (Int32.ofInt 1)) S hf _
            · iterate 3 (refine ry_step rfl rfl ?_)
              refine ry_sub [2, 3, 4, 5, 1, 0] rfl rfl ?_
              exact ih l1 l2 l3 (l4 + (Int32.ofInt 1)) (l5 + (Int32.ofInt 1)) S hf _
        · iterate 4 (refine ry_step rfl rfl ?_)
          refine ry_sub [2, 3, 4, 1, 5, 0] rfl rfl ?_
          exact ih l1 l2 (l3 + (Int32.ofInt 1)) l4 (l5 + (Int32.ofInt 1)) S hf _
def fX11_canCome (N : Nat) (v0 : Int32) (v1 : Int32) (S : yS) : Option Int32 := lX11_canCome N N v0 v1 (Int32.ofInt 0) (Int32.ofInt 0) (Int32.ofInt 0) S
set_option maxRecDepth 4000 in
theorem tX11_canCome {ro : xRo} {T : yK} {S : yS} {d N : Nat} {v0 : Int32} {v1 : Int32} {q : Int32} (hf : fX11_canCome N v0 v1 S = some q) : yEv ro xNo (yKx T) (d + 2) jX11_canCome [.ref 16, .int v0, .int v1] S (some (.int q)) S := by
  refine ry_meth pX11_canCome rfl (fun z => ?_)
  unfold fX11_canCome at hf
  iterate 6 (refine ry_step rfl rfl ?_)
  refine ry_sub [3, 4, 5, 2, 1, 0] rfl rfl ?_
  exact uX11_canCome (ro := ro) _ v0 v1 (Int32.ofInt 0) (Int32.ofInt 0) (Int32.ofInt 0) S hf _
def lX11_multiply (N : Nat) : Nat → Int32 → Int32 → Int32 → Int32 → yS → Option (Int32 × yS)
  | 0, _, _, _, _, _ => none
  | n + 1, l1, l2, l3, l4, S => (if (Int32.ofInt 100) ≤ l4 then some (l4, S) else (if l4 < l2 then (if l2 ≤ l4 then (ain 101 l4).bind fun j3 => pSt (ySa S 264 (upd (S.2.2.1 264) j3 ((l3 + (Int32.ofInt 0)) - (l3 + (Int32.ofInt 0)) / (Int32.ofInt 10) * (Int32.ofInt 10)))) fun S1 => pSt ((l3 + (Int32.ofInt 0)) / (Int32.ofInt 10)) fun w2 => lX11_multiply N n l1 l2 w2 (l4 + (Int32.ofInt 1)) S1 else (ain 101 l4).bind fun j4 => pSt (l3 + ((S.2.2.1 264 j4) * l1)) fun w5 => (ain 101 l4).bind fun j7 => pSt (ySa S 264 (upd (S.2.2.1 264) j7 (w5 - w5 / (Int32.ofInt 10) * (Int32.ofInt 10)))) fun S6 => lX11_multiply N n l1 l2 (w5 / (Int32.ofInt 10)) (l4 + (Int32.ofInt 1)) S6) else (if l3 ≤ 0 then some (l4, S) else (if l2 ≤ l4 then (ain 101 l4).bind fun j10 => pSt (ySa S 264 (upd (S.2.2.1 264) j10 ((l3 + (Int32.ofInt 0)) - (l3 + (Int32.ofInt 0)) / (Int32.ofInt 10) * (Int32.ofInt 10)))) fun S8 => pSt ((l3 + (Int32.ofInt 0)) / (Int32.ofInt 10)) fun w9 => lX11_multiply N n l1 l2 w9 (l4 + (Int32.ofInt 1)) S8 else (ain 101 l4).bind fun j11 => pSt (l3 + ((S.2.2.1 264 j11) * l1)) fun w12 => (ain 101 l4).bind fun j14 => pSt (ySa S 264 (upd (S.2.2.1 264) j14 (w12 - w12 / (Int32.ofInt 10) * (Int32.ofInt 10)))) fun S13 => lX11_multiply N n l1 l2 (w12 / (Int32.ofInt 10)) (l4 + (Int32.ofInt 1)) S13))))
set_option maxRecDepth 4000 in
theorem uX11_multiply {ro : xRo} {T : yK} {d N : Nat} : ∀ n : Nat, (∀ (l1 : Int32) (l2 : Int32) (l3 : Int32) (l4 : Int32) (S : yS) {q : Int32} {S' : yS}, lX11_multiply N n l1 l2 l3 l4 S = some (q, S') → ∀ z, Ry ro xNo (yKx T) z (d + 0) mX11_multiply 5 [(0, .ref 16), (1, .int l1), (2, .int l2), (3, .int l3), (4, .int l4)] [] S (some (.int q), yH (yKx T) z S')) := by
  intro n
  induction n with
  | zero => exact (by intro _ _ _ _ _ _ _ hf; cases hf)
  | succ n ih =>
    intro l1 l2 l3 l4 S q S' hf z
    unfold lX11_multiply at hf
    iterate 3 (refine ry_step rfl rfl ?_)
    refine ry_br hf (fun hc hf => ?_) (fun hc hf => ?_)
    · refine ry_step rfl rfl ?_
      cases hf
      exact ry_ret rfl rfl
    · iterate 3 (refine ry_step rfl rfl ?_)
      refine ry_br hf (fun hc hf => ?_) (fun hc hf => ?_)
      · iterate 4 (refine ry_step rfl rfl ?_)
        refine ry_br hf (fun hc hf => ?_) (fun hc hf => ?_)
        · iterate 9 (refine ry_step rfl rfl ?_)
          refine ry_iast hf rfl rfl (fun j3 S1 hf => ?_)
          iterate 3 (refine ry_step rfl rfl ?_)
          refine ry_nmi hf (fun w2 hf => ?_)
          iterate 3 (refine ry_step rfl rfl ?_)
          refine ry_sub [3, 4, 5, 1, 0] rfl rfl ?_
          exact ih l1 l2 w2 (l4 + (Int32.ofInt 1)) S1 hf _
        · iterate 3 (refine ry_step rfl rfl ?_)
          refine ry_iald hf rfl rfl rfl (fun j4 hf => ?_)
          iterate 4 (refine ry_step rfl rfl ?_)
          refine ry_nmi hf (fun w5 hf => ?_)
          iterate 7 (refine ry_step rfl rfl ?_)
          refine ry_iast hf rfl rfl (fun j7 S6 hf => ?_)
          iterate 6 (refine ry_step rfl rfl ?_)
          refine ry_sub [3, 4, 5, 1, 0] rfl rfl ?_
          exact ih l1 l2 (w5 / (Int32.ofInt 10)) (l4 + (Int32.ofInt 1)) S6 hf _
      · iterate 2 (refine ry_step rfl rfl ?_)
        refine ry_br hf (fun hc hf => ?_) (fun hc hf => ?_)
        · refine ry_step rfl rfl ?_
          cases hf
          exact ry_ret rfl rfl
        · iterate 4 (refine ry_step rfl rfl ?_)
          refine ry_br hf (fun hc hf => ?_) (fun hc hf => ?_)
          · iterate 9 (refine ry_step rfl rfl ?_)
            refine ry_iast hf rfl rfl (fun j10 S8 hf => ?_)
            iterate 3 (refine ry_step rfl rfl ?_)
            refine ry_nmi hf (fun w9 hf => ?_)
            iterate 3 (refine ry_step rfl rfl ?_)
            refine ry_sub [3, 4, 5, 1, 0] rfl rfl ?_
            exact ih l1 l2 w9 (l4 + (Int32.ofInt 1)) S8 hf _
          · iterate 3 (refine ry_step rfl rfl ?_)
            refine ry_iald hf rfl rfl rfl (fun j11 hf => ?_)
            iterate 4 (refine ry_step rfl rfl ?_)
            refine ry_nmi hf (fun w12 hf => ?_)
            iterate 7 (refine ry_step rfl rfl ?_)
            refine ry_iast hf rfl rfl (fun j14 S13 hf => ?_)
            iterate 6 (refine ry_step rfl rfl ?_)
            refine ry_sub [3, 4, 5, 1, 0] rfl rfl ?_
            exact ih l1 l2 (w12 / (Int32.ofInt 10)) (l4 + (Int32.ofInt 1)) S13 hf _
def fX11_multiply (N : Nat) (v0 : Int32) (v1 : Int32) (S : yS) : Option (Int32 × yS) := lX11_multiply N N v0 v1 (Int32.ofInt 0) (Int32.ofInt 0) S
set_option maxRecDepth 4000 in
theorem tX11_multiply {ro : xRo} {T : yK} {S : yS} {d N : Nat} {v0 : Int32} {v1 : Int32} {q : Int32} {S' : yS} (hf : fX11_multiply N v0 v1 S = some (q, S')) : yEv ro xNo (yKx T) (d + 1) jX11_multiply [.ref 16, .int v0, .int v1] S (some (.int q)) S' := by
  refine ry_meth pX11_multiply rfl (fun z => ?_)
  unfold fX11_multiply at hf
  iterate 4 (refine ry_step rfl rfl ?_)
  refine ry_sub [2, 3, 4, 1, 0] rfl rfl ?_
  exact uX11_multiply (ro := ro) _ v0 v1 (Int32.ofInt 0) (Int32.ofInt 0) S hf _
def lX11_firstOfHabit (N : Nat) : Nat → Int32 → Int32 → Int32 → Int32 → Int32 → yS → Option Int32
  | 0, _, _, _, _, _, _ => none
  | n + 1, l0, l1, l2, l3, l4, S => (if l2 ≤ 0 then some (Int32.ofInt (-1)) else (if l2 ≤ l4 then some (Int32.ofInt (-1)) else (if l2 = 0 then none else (if ¬ ((l0 + (l4 * l1)) - (l0 + (l4 * l1)) / l2 * l2) = l3 then lX11_firstOfHabit N n l0 l1 l2 l3 (l4 + (Int32.ofInt 1)) S else some (l0 + (l4 * l1))))))
set_option maxRecDepth 4000 in
theorem uX11_firstOfHabit {ro : xRo} {T : yK} {d N : Nat} : ∀ n : Nat, (∀ (l0 : Int32) (l1 : Int32) (l2 : Int32) (l3 : Int32) (l4 : Int32) (S : yS) {q : Int32}, lX11_firstOfHabit N n l0 l1 l2 l3 l4 S = some q → ∀ z, Ry ro xNo (yKx T) z (d + 0) mX11_firstOfHabit 3 [(0, .int l0), (1, .int l1), (2, .int l2), (3, .int l3), (4, .int l4)] [] S (some (.int q), yH (yKx T) z S)) := by
  intro n
  induction n with
  | zero => exact (by intro _ _ _ _ _ _ _ hf; cases hf)
  | succ n ih =>
    intro l0 l1 l2 l3 l4 S q hf z
    unfold lX11_firstOfHabit at hf
    iterate 2 (refine ry_step rfl rfl ?_)
    refine ry_br hf (fun hc hf => ?_) (fun hc hf => ?_)
    · refine ry_step rfl rfl ?_
      cases hf
      exact ry_ret rfl rfl
    · iterate 3 (refine ry_step rfl rfl ?_)
      refine ry_br hf (fun hc hf => ?_) (fun hc hf => ?_)
      · refine ry_step rfl rfl ?_
        cases hf
        exact ry_ret rfl rfl
      · iterate 6 (refine ry_step rfl rfl ?_)
        refine ry_rem hf rfl (fun hf => ?_)
        iterate 2 (refine ry_step rfl rfl ?_)
        refine ry_br hf (fun hc hf => ?_) (fun hc hf => ?_)
        · iterate 2 (refine ry_step rfl rfl ?_)
          refine ry_sub [1, 2, 3, 4, 0] rfl rfl ?_
          exact ih l0 l1 l2 l3 (l4 + (Int32.ofInt 1)) S hf _
        · iterate 5 (refine ry_step rfl rfl ?_)
          cases hf
          exact ry_ret rfl rfl
def fX11_firstOfHabit (N : Nat) (v0 : Int32) (v1 : Int32) (v2 : Int32) (v3 : Int32) (S : yS) : Option Int32 := lX11_firstOfHabit N N v0 v1 v2 v3 (Int32.ofInt 0) S
set_option maxRecDepth 4000 in
theorem tX11_firstOfHabit {ro : xRo} {T : yK} {S : yS} {d N : Nat} {v0 : Int32} {v1 : Int32} {v2 : Int32} {v3 : Int32} {q : Int32} (hf : fX11_firstOfHabit N v0 v1 v2 v3 S = some q) : yEv ro xNo (yKx T) (d + 1) jX11_firstOfHabit [.int v0, .int v1, .int v2, .int v3] S (some (.int q)) S := by
  refine ry_meth pX11_firstOfHabit rfl (fun z => ?_)
  unfold fX11_firstOfHabit at hf
  iterate 2 (refine ry_step rfl rfl ?_)
  refine ry_sub [1, 2, 3, 4, 0] rfl rfl ?_
  exact uX11_firstOfHabit (ro := ro) _ v0 v1 v2 v3 (Int32.ofInt 0) S hf _
def lX11_greatestCommon (N : Nat) : Nat → Int64 → Int64 → Int32 → yS → Option Int64
  | 0, _, _, _, _ => none
  | n + 1, l4, l6, l8, S => (if (Int32.ofInt 100) ≤ l8 then some l4 else (if (lg_cmp l6 (Int64.ofNat 0)) = 0 then some l4 else (if l6 = 0 then none else lX11_greatestCommon N n l6 (l4 - l4 / l6 * l6) (l8 + (Int32.ofInt 1)) S)))
set_option maxRecDepth 4000 in
theorem uX11_greatestCommon {ro : xRo} {T : yK} {d N : Nat} : ∀ n : Nat, (∀ (l4 : Int64) (l6 : Int64) (l8 : Int32) (S : yS) {q : Int64}, lX11_greatestCommon N n l4 l6 l8 S = some q → ∀ z, Ry ro xNo (yKx T) z (d + 0) mX11_greatestCommon 9 [(4, .long l4), (6, .long l6), (8, .int l8)] [] S (some (.long q), yH (yKx T) z S)) := by
  intro n
  induction n with
  | zero => exact (by intro _ _ _ _ _ hf; cases hf)
  | succ n ih =>
    intro l4 l6 l8 S q hf z
    unfold lX11_greatestCommon at hf
    iterate 3 (refine ry_step rfl rfl ?_)
    refine ry_br hf (fun hc hf => ?_) (fun hc hf => ?_)
    · refine ry_step rfl rfl ?_
      cases hf
      exact ry_ret rfl rfl
    · iterate 4 (refine ry_step rfl rfl ?_)
      refine ry_br hf (fun hc hf => ?_) (fun hc hf => ?_)
      · refine ry_step rfl rfl ?_
        cases hf
        exact ry_ret rfl rfl
      · iterate 2 (refine ry_step rfl rfl ?_)
        refine ry_lrem hf rfl (fun hf => ?_)
        iterate 7 (refine ry_step rfl rfl ?_)
        refine ry_sub [2, 1, 0] rfl rfl ?_
        exact ih l6 (l4 - l4 / l6 * l6) (l8 + (Int32.ofInt 1)) S hf _
def fX11_greatestCommon (N : Nat) (v0 : Int64) (v1 : Int64) (S : yS) : Option Int64 := lX11_greatestCommon N N v0 v1 (Int32.ofInt 0) S
set_option maxRecDepth 4000 in
theorem tX11_greatestCommon {ro : xRo} {T : yK} {S : yS} {d N : Nat} {v0 : Int64} {v1 : Int64} {q : Int64} (hf : fX11_greatestCommon N v0 v1 S = some q) : yEv ro xNo (yKx T) (d + 1) jX11_greatestCommon [.long v0, .long v1] S (some (.long q)) S := by
  refine ry_meth pX11_greatestCommon rfl (fun z => ?_)
  unfold fX11_greatestCommon at hf
  iterate 6 (refine ry_step rfl rfl ?_)
  refine ry_sub [2, 1, 0] rfl rfl ?_
  exact uX11_greatestCommon (ro := ro) _ v0 v1 (Int32.ofInt 0) S hf _
def fX11_lowest (N : Nat) (v0 : Int64) (v1 : Int64) (v2 : Int32) (S : yS) : Option Int64 := (fX11_greatestCommon N v0 v1 S).bind fun u2 => (if ¬ (lg_cmp u2 (Int64.ofNat 0)) = 0 then (if v2 = 0 then (if u2 = 0 then none else some (v0 / u2)) else (if u2 = 0 then none else some (v1 / u2))) else some (Int64.ofInt (-1)))
set_option maxRecDepth 4000 in
theorem tX11_lowest {ro : xRo} {T : yK} {S : yS} {d N : Nat} {v0 : Int64} {v1 : Int64} {v2 : Int32} {q : Int64} (hf : fX11_lowest N v0 v1 v2 S = some q) : yEv ro xNo (yKx T) (d + 2) jX11_lowest [.long v0, .long v1, .int v2] S (some (.long q)) S := by
  refine ry_meth pX11_lowest rfl (fun z => ?_)
  unfold fX11_lowest at hf
  iterate 2 (refine ry_step rfl rfl ?_)
  obtain ⟨u2, hv1, hf⟩ := Option.bind_eq_some_iff.mp hf
  refine ry_call rfl rfl rfl rfl rfl (tX11_greatestCommon hv1) ?_
  iterate 5 (refine ry_step rfl rfl ?_)
  refine ry_br hf (fun hc hf => ?_) (fun hc hf => ?_)
  · iterate 2 (refine ry_step rfl rfl ?_)
    refine ry_br hf (fun hc hf => ?_) (fun hc hf => ?_)
    · iterate 2 (refine ry_step rfl rfl ?_)
      refine ry_ldiv hf rfl (fun hf => ?_)
      cases hf
      exact ry_ret rfl rfl
    · iterate 2 (refine ry_step rfl rfl ?_)
      refine ry_ldiv hf rfl (fun hf => ?_)
      refine ry_step rfl rfl ?_
      cases hf
      exact ry_ret rfl rfl
  · refine ry_step rfl rfl ?_
    cases hf
    exact ry_ret rfl rfl
def lX12_bits (N : Nat) : Nat → Int32 → Int32 → yS → Option Int32
  | 0, _, _, _ => none
  | n + 1, l1, l2, S => (if l2 = 0 then some l1 else pSt (l2 &&& (l2 - (Int32.ofInt 1))) fun w1 => lX12_bits N n (l1 + (Int32.ofInt 1)) w1 S)
set_option maxRecDepth 4000 in
theorem uX12_bits {ro : xRo} {T : yK} {d N : Nat} : ∀ n : Nat, (∀ (l1 : Int32) (l2 : Int32) (S : yS) {q : Int32}, lX12_bits N n l1 l2 S = some q → ∀ z, Ry ro xNo (yKx T) z (d + 0) mX12_bits 4 [(1, .int l1), (2, .int l2)] [] S (some (.int q), yH (yKx T) z S)) := by
  intro n
  induction n with
  | zero => exact (by intro _ _ _ _ hf; cases hf)
  | succ n ih =>
    intro l1 l2 S q hf z
    unfold lX12_bits at hf
    iterate 2 (refine ry_step rfl rfl ?_)
    refine ry_br hf (fun hc hf => ?_) (fun hc hf => ?_)
    · refine ry_step rfl rfl ?_
      cases hf
      exact ry_ret rfl rfl
    · iterate 6 (refine ry_step rfl rfl ?_)
      refine ry_nmi hf (fun w1 hf => ?_)
      iterate 2 (refine ry_step rfl rfl ?_)
      refine ry_sub [1, 0] rfl rfl ?_
      exact ih (l1 + (Int32.ofInt 1)) w1 S hf _
def fX12_bits (N : Nat) (v0 : Int32) (S : yS) : Option Int32 := lX12_bits N N (Int32.ofInt 0) v0 S
set_option maxRecDepth 4000 in
theorem tX12_bits {ro : xRo} {T : yK} {S : yS} {d N : Nat} {v0 : Int32} {q : Int32} (hf : fX12_bits N v0 S = some q) : yEv ro xNo (yKx T) (d + 1) jX12_bits [.int v0] S (some (.int q)) S := by
  refine ry_meth pX12_bits rfl (fun z => ?_)
  unfold fX12_bits at hf
  iterate 4 (refine ry_step rfl rfl ?_)
  refine ry_sub [1, 0] rfl rfl ?_
  exact uX12_bits (ro := ro) _ (Int32.ofInt 0) v0 S hf _
def fX12_isBird (v0 : Int32) (S : yS) : Option Int32 := (if (fX12_isIn v0 (Int32.ofInt 0) ((S.2.2.1 266 0) - (Int32.ofInt 1))) = 0 ∨ (fX12_isIn v0 (Int32.ofInt 0) ((S.2.2.1 266 0) - (Int32.ofInt 1))) = 1 then some (fX12_isIn v0 (Int32.ofInt 0) ((S.2.2.1 266 0) - (Int32.ofInt 1))) else none)
set_option maxRecDepth 4000 in
theorem tX12_isBird {ro : xRo} {T : yK} {S : yS} {d : Nat} {v0 : Int32} {q : Int32} (hf : fX12_isBird v0 S = some q) : yEv ro xNo (yKx T) (d + 2) jX12_isBird [.ref 265, .int v0] S (some (.int q)) S := by
  refine ry_meth pX12_isBird rfl (fun z => ?_)
  unfold fX12_isBird at hf
  iterate 8 (refine ry_step rfl rfl ?_)
  refine ry_call rfl rfl rfl rfl rfl tX12_isIn ?_
  exact ry_retz (S' := S) hf rfl rfl rfl (fun h => by cases h; rfl)
def fX12_isGone (v0 : Int32) (S : yS) : Option Int32 := (if (fX12_has (S.2.2.1 266 12) v0) = 0 ∨ (fX12_has (S.2.2.1 266 12) v0) = 1 then some (fX12_has (S.2.2.1 266 12) v0) else none)
set_option maxRecDepth 4000 in
theorem tX12_isGone {ro : xRo} {T : yK} {S : yS} {d : Nat} {v0 : Int32} {q : Int32} (hf : fX12_isGone v0 S = some q) : yEv ro xNo (yKx T) (d + 2) jX12_isGone [.ref 265, .int v0] S (some (.int q)) S := by
  refine ry_meth pX12_isGone rfl (fun z => ?_)
  unfold fX12_isGone at hf
  iterate 5 (refine ry_step rfl rfl ?_)
  refine ry_call rfl rfl rfl rfl rfl tX12_has ?_
  exact ry_retz (S' := S) hf rfl rfl rfl (fun h => by cases h; rfl)
def fX12_isDue (v0 : Int32) (v1 : Int32) (S : yS) : Option Int32 := (fX12_isGone v0 S).bind fun u2 => (if ¬ u2 = 0 then some (Int32.ofInt 0) else (ain 1338 ((Int32.ofInt 21) + v0)).bind fun j3 => (if (S.2.2.1 266 j3) = 0 then none else (ain 1338 ((Int32.ofInt 29) + v0)).bind fun j4 => (if ¬ (((S.2.2.1 266 6) + v1) - ((S.2.2.1 266 6) + v1) / (S.2.2.1 266 j3) * (S.2.2.1 266 j3)) = (S.2.2.1 266 j4) then some (Int32.ofInt 0) else some (Int32.ofInt 1))))
set_option maxRecDepth 4000 in
theorem tX12_isDue {ro : xRo} {T : yK} {S : yS} {d : Nat} {v0 : Int32} {v1 : Int32} {q : Int32} (hf : fX12_isDue v0 v1 S = some q) : yEv ro xNo (yKx T) (d + 3) jX12_isDue [.ref 265, .int v0, .int v1] S (some (.int q)) S := by
  refine ry_meth pX12_isDue rfl (fun z => ?_)
  unfold fX12_isDue at hf
  iterate 2 (refine ry_step rfl rfl ?_)
  obtain ⟨u2, hv1, hf⟩ := Option.bind_eq_some_iff.mp hf
  refine ry_call rfl rfl rfl rfl rfl (tX12_isGone hv1) ?_
  refine ry_step rfl rfl ?_
  refine ry_br hf (fun hc hf => ?_) (fun hc hf => ?_)
  · refine ry_step rfl rfl ?_
    cases hf
    exact ry_ret rfl rfl
  · iterate 11 (refine ry_step rfl rfl ?_)
    refine ry_iald hf rfl rfl rfl (fun j3 hf => ?_)
    refine ry_rem hf rfl (fun hf => ?_)
    iterate 5 (refine ry_step rfl rfl ?_)
    refine ry_iald hf rfl rfl rfl (fun j4 hf => ?_)
    refine ry_step rfl rfl ?_
    refine ry_br hf (fun hc hf => ?_) (fun hc hf => ?_)
    · refine ry_step rfl rfl ?_
      cases hf
      exact ry_ret rfl rfl
    · iterate 2 (refine ry_step rfl rfl ?_)
      cases hf
      exact ry_ret rfl rfl
def lX12_dueBy (N : Nat) : Nat → Int32 → Int32 → Int32 → yS → Option Int32
  | 0, _, _, _, _ => none
  | n + 1, l1, l2, l3, S => (if (S.2.2.1 266 0) ≤ l3 then some l2 else (fX12_isDue l3 l1 S).bind fun u2 => (if u2 = 0 then lX12_dueBy N n l1 (l2 ||| (Int32.ofInt 0)) (l3 + (Int32.ofInt 1)) S else pSt (l2 ||| ((Int32.ofInt 1) <<< (l3 &&& 31))) fun w3 => lX12_dueBy N n l1 w3 (l3 + (Int32.ofInt 1)) S))
set_option maxRecDepth 4000 in
theorem uX12_dueBy {ro : xRo} {T : yK} {d N : Nat} : ∀ n : Nat, (∀ (l1 : Int32) (l2 : Int32) (l3 : Int32) (S : yS) {q : Int32}, lX12_dueBy N n l1 l2 l3 S = some q → ∀ z, Ry ro xNo (yKx T) z (d + 3) mX12_dueBy 4 [(0, .ref 265), (1, .int l1), (2, .int l2), (3, .int l3)] [] S (some (.int q), yH (yKx T) z S)) := by
  intro n
  induction n with
  | zero => exact (by intro _ _ _ _ _ hf; cases hf)
  | succ n ih =>
    intro l1 l2 l3 S q hf z
    unfold lX12_dueBy at hf
    iterate 6 (refine ry_step rfl rfl ?_)
    refine ry_br hf (fun hc hf => ?_) (fun hc hf => ?_)
    · refine ry_step rfl rfl ?_
      cases hf
      exact ry_ret rfl rfl
    · iterate 4 (refine ry_step rfl rfl ?_)
      obtain ⟨u2, hv1, hf⟩ := Option.bind_eq_some_iff.mp hf
      refine ry_call rfl rfl rfl rfl rfl (tX12_isDue hv1) ?_
      refine ry_step rfl rfl ?_
      refine ry_br hf (fun hc hf => ?_) (fun hc hf => ?_)
      · iterate 5 (refine ry_step rfl rfl ?_)
        refine ry_sub [2, 3, 1, 0] rfl rfl ?_
        exact ih l1 (l2 ||| (Int32.ofInt 0)) (l3 + (Int32.ofInt 1)) S hf _
      · iterate 5 (refine ry_step rfl rfl ?_)
        refine ry_nmi hf (fun w3 hf => ?_)
        iterate 3 (refine ry_step rfl rfl ?_)
        refine ry_sub [2, 3, 1, 0] rfl rfl ?_
        exact ih l1 w3 (l3 + (Int32.ofInt 1)) S hf _
def fX12_dueBy (N : Nat) (v0 : Int32) (S : yS) : Option Int32 := lX12_dueBy N N v0 (Int32.ofInt 0) (Int32.ofInt 0) S
set_option maxRecDepth 4000 in
theorem tX12_dueBy {ro : xRo} {T : yK} {S : yS} {d N : Nat} {v0 : Int32} {q : Int32} (hf : fX12_dueBy N v0 S = some q) : yEv ro xNo (yKx T) (d + 4) jX12_dueBy [.ref 265, .int v0] S (some (.int q)) S := by
  refine ry_meth pX12_dueBy rfl (fun z => ?_)
  unfold fX12_dueBy at hf
  iterate 4 (refine ry_step rfl rfl ?_)
  refine ry_sub [2, 3, 1, 0] rfl rfl ?_
  exact uX12_dueBy (ro := ro) _ v0 (Int32.ofInt 0) (Int32.ofInt 0) S hf _
def fX12_dueNow (N : Nat) (S : yS) : Option Int32 := (fX12_dueBy N (Int32.ofInt 0) S).bind fun u2 => some u2
set_option maxRecDepth 4000 in
theorem tX12_dueNow {ro : xRo} {T : yK} {S : yS} {d N : Nat} {q : Int32} (hf : fX12_dueNow N  S = some q) : yEv ro xNo (yKx T) (d + 5) jX12_dueNow [.ref 265] S (some (.int q)) S := by
  refine ry_meth pX12_dueNow rfl (fun z => ?_)
  unfold fX12_dueNow at hf
  iterate 2 (refine ry_step rfl rfl ?_)
  obtain ⟨u2, hv1, hf⟩ := Option.bind_eq_some_iff.mp hf
  refine ry_call rfl rfl rfl rfl rfl (tX12_dueBy hv1) ?_
  cases hf
  exact ry_ret rfl rfl
def fX12_bird (v0 : Int32) (v1 : Int32) (v2 : Int32) (S : yS) : Option (Int32 × yS) := (if (fX12_isIn v0 (Int32.ofInt 1) (Int32.ofInt 12)) = 0 then some ((Int32.ofInt (-1)), S) else (if (fX12_isIn v1 (Int32.ofInt 0) (v0 - (Int32.ofInt 1))) = 0 then some ((Int32.ofInt (-1)), S) else (if (fX12_isIn v2 (Int32.ofInt 0) (Int32.ofInt 10)) = 0 then some ((Int32.ofInt (-1)), S) else (if ¬ (S.2.2.1 266 0) = (Int32.ofInt 8) then (ain 1338 ((Int32.ofInt 21) + (S.2.2.1 266 0))).bind fun j7 => pSt (ySa S 266 (upd (S.2.2.1 266) j7 v0)) fun S1 => (ain 1338 ((Int32.ofInt 29) + (S.2.2.1 266 0))).bind fun j6 => pSt (ySa S1 266 (upd (S1.2.2.1 266) j6 v1)) fun S2 => (ain 1338 ((Int32.ofInt 37) + (S.2.2.1 266 0))).bind fun j5 => pSt (ySa S2 266 (upd (S2.2.2.1 266) j5 v2)) fun S3 => pSt (ySa S3 266 (upd (S3.2.2.1 266) 0 ((S3.2.2.1 266 0) + (Int32.ofInt 1)))) fun S4 => some ((S.2.2.1 266 0), S4) else some ((Int32.ofInt (-1)), S)))))
set_option maxRecDepth 4000 in
theorem tX12_bird {ro : xRo} {T : yK} {S : yS} {d : Nat} {v0 : Int32} {v1 : Int32} {v2 : Int32} {q : Int32} {S' : yS} (hf : fX12_bird v0 v1 v2 S = some (q, S')) : yEv ro xNo (yKx T) (d + 2) jX12_bird [.ref 265, .int v0, .int v1, .int v2] S (some (.int q)) S' := by
  refine ry_meth pX12_bird rfl (fun z => ?_)
  unfold fX12_bird at hf
  iterate 3 (refine ry_step rfl rfl ?_)
  refine ry_call rfl rfl rfl rfl rfl tX12_isIn ?_
  refine ry_step rfl rfl ?_
  refine ry_br hf (fun hc hf => ?_) (fun hc hf => ?_)
  · refine ry_step rfl rfl ?_
    cases hf
    exact ry_ret rfl rfl
  · iterate 5 (refine ry_step rfl rfl ?_)
    refine ry_call rfl rfl rfl rfl rfl tX12_isIn ?_
    refine ry_step rfl rfl ?_
    refine ry_br hf (fun hc hf => ?_) (fun hc hf => ?_)
    · refine ry_step rfl rfl ?_
      cases hf
      exact ry_ret rfl rfl
    · iterate 3 (refine ry_step rfl rfl ?_)
      refine ry_call rfl rfl rfl rfl rfl tX12_isIn ?_
      refine ry_step rfl rfl ?_
      refine ry_br hf (fun hc hf => ?_) (fun hc hf => ?_)
      · refine ry_step rfl rfl ?_
        cases hf
        exact ry_ret rfl rfl
      · iterate 6 (refine ry_step rfl rfl ?_)
        refine ry_br hf (fun hc hf => ?_) (fun hc hf => ?_)
        · iterate 11 (refine ry_step rfl rfl ?_)
          refine ry_iast hf rfl rfl (fun j7 S1 hf => ?_)
          iterate 6 (refine ry_step rfl rfl ?_)
          refine ry_iast hf rfl rfl (fun j6 S2 hf => ?_)
          iterate 6 (refine ry_step rfl rfl ?_)
          refine ry_iast hf rfl rfl (fun j5 S3 hf => ?_)
          iterate 7 (refine ry_step rfl rfl ?_)
          refine ry_stepS hf rfl rfl (fun S4 hf => ?_)
          refine ry_step rfl rfl ?_
          cases hf
          exact ry_ret rfl rfl
        · refine ry_step rfl rfl ?_
          cases hf
          exact ry_ret rfl rfl
def fX12_rhyme (v0 : Int32) (v1 : Int32) (S : yS) : Option (Int32 × yS) := (if (fX12_isCount v0) = 0 then some ((Int32.ofInt 0), S) else (if ¬ (fX12_isIn v1 (Int32.ofInt 0) (Int32.ofInt 9)) = 0 then (ain 1338 ((Int32.ofInt 45) + v0)).bind fun j2 => pSt (ySa S 266 (upd (S.2.2.1 266) j2 v1)) fun S1 => some ((Int32.ofInt 1), S1) else some ((Int32.ofInt 0), S)))
set_option maxRecDepth 4000 in
theorem tX12_rhyme {ro : xRo} {T : yK} {S : yS} {d : Nat} {v0 : Int32} {v1 : Int32} {q : Int32} {S' : yS} (hf : fX12_rhyme v0 v1 S = some (q, S')) : yEv ro xNo (yKx T) (d + 3) jX12_rhyme [.ref 265, .int v0, .int v1] S (some (.int q)) S' := by
  refine ry_meth pX12_rhyme rfl (fun z => ?_)
  unfold fX12_rhyme at hf
  refine ry_step rfl rfl ?_
  refine ry_call rfl rfl rfl rfl rfl tX12_isCount ?_
  refine ry_step rfl rfl ?_
  refine ry_br hf (fun hc hf => ?_) (fun hc hf => ?_)
  · refine ry_step rfl rfl ?_
    cases hf
    exact ry_ret rfl rfl
  · iterate 3 (refine ry_step rfl rfl ?_)
    refine ry_call rfl rfl rfl rfl rfl tX12_isIn ?_
    refine ry_step rfl rfl ?_
    refine ry_br hf (fun hc hf => ?_) (fun hc hf => ?_)
    · iterate 6 (refine ry_step rfl rfl ?_)
      refine ry_iast hf rfl rfl (fun j2 S1 hf => ?_)
      refine ry_step rfl rfl ?_
      cases hf
      exact ry_ret rfl rfl
    · refine ry_step rfl rfl ?_
      cases hf
      exact ry_ret rfl rfl
def lX12_four (N : Nat) : Nat → Int32 → Int32 → yS → Option yS
  | 0, _, _, _ => none
  | n + 1, l1, l2, S => (if l2 < 0 then some S else (ain 300 (S.1 265 4)).bind fun j3 => pSt (ySa S 269 (upd (S.2.2.1 269) j3 ((l1 >>> (l2 &&& 31)) &&& (Int32.ofInt 255)))) fun S1 => pSt (ySi S1 265 4 ((S1.1 265 4) + (Int32.ofInt 1))) fun S2 => lX12_four N n l1 (l2 + (Int32.ofInt (-8))) S2)
set_option maxRecDepth 4000 in
theorem uX12_four {ro : xRo} {T : yK} {d N : Nat} : ∀ n : Nat, (∀ (l1 : Int32) (l2 : Int32) (S : yS) {S' : yS}, lX12_four N n l1 l2 S = some S' → ∀ z, Ry ro xNo (yKx T) z (d + 0) mX12_four 3 [(0, .ref 265), (1, .int l1), (2, .int l2)] [] S (none, yH (yKx T) z S')) := by
  intro n
  induction n with
  | zero => exact (by intro _ _ _ _ hf; cases hf)
  | succ n ih =>
    intro l1 l2 S S' hf z
    unfold lX12_four at hf
    iterate 2 (refine ry_step rfl rfl ?_)
    refine ry_br hf (fun hc hf => ?_) (fun hc hf => ?_)
    · cases hf
      exact ry_ret rfl rfl
    · iterate 9 (refine ry_step rfl rfl ?_)
      refine ry_iast hf rfl rfl (fun j3 S1 hf => ?_)
      iterate 5 (refine ry_step rfl rfl ?_)
      refine ry_stepS hf rfl rfl (fun S2 hf => ?_)
      iterate 2 (refine ry_step rfl rfl ?_)
      refine ry_sub [1, 2, 0] rfl rfl ?_
      exact ih l1 (l2 + (Int32.ofInt (-8))) S2 hf _
def fX12_four (N : Nat) (v0 : Int32) (S : yS) : Option yS := lX12_four N N v0 (Int32.ofInt 24) S
set_option maxRecDepth 4000 in
theorem tX12_four {ro : xRo} {T : yK} {S : yS} {d N : Nat} {v0 : Int32} {S' : yS} (hf : fX12_four N v0 S = some S') : yEv ro xNo (yKx T) (d + 1) jX12_four [.ref 265, .int v0] S (none) S' := by
  refine ry_meth pX12_four rfl (fun z => ?_)
  unfold fX12_four at hf
  iterate 2 (refine ry_step rfl rfl ?_)
  refine ry_sub [1, 2, 0] rfl rfl ?_
  exact uX12_four (ro := ro) _ v0 (Int32.ofInt 24) S hf _
def fX12_feed (N : Nat) (v0 : Int32) (v1 : Int32) (v2 : Int32) (v3 : Int32) (v4 : Int32) (S : yS) : Option (Int32 × yS) := (if ((S.1 265 4) + (Int32.ofInt 20)) ≤ (Int32.ofInt 300) then (fX12_four N v0 S).bind fun S2 => (fX12_four N v1 S2).bind fun S4 => (fX12_four N v2 S4).bind fun S6 => (fX12_four N v3 S6).bind fun S8 => (fX12_four N v4 S8).bind fun S10 => some ((S10.1 265 4), S10) else some ((Int32.ofInt (-1)), S))
set_option maxRecDepth 4000 in
theorem tX12_feed {ro : xRo} {T : yK} {S : yS} {d N : Nat} {v0 : Int32} {v1 : Int32} {v2 : Int32} {v3 : Int32} {v4 : Int32} {q : Int32} {S' : yS} (hf : fX12_feed N v0 v1 v2 v3 v4 S = some (q, S')) : yEv ro xNo (yKx T) (d + 2) jX12_feed [.ref 265, .int v0, .int v1, .int v2, .int v3, .int v4] S (some (.int q)) S' := by
  refine ry_meth pX12_feed rfl (fun z => ?_)
  unfold fX12_feed at hf
  iterate 6 (refine ry_step rfl rfl ?_)
  refine ry_br hf (fun hc hf => ?_) (fun hc hf => ?_)
  · iterate 2 (refine ry_step rfl rfl ?_)
    obtain ⟨S2, hv1, hf⟩ := Option.bind_eq_some_iff.mp hf
    refine ry_call rfl rfl rfl rfl rfl (tX12_four hv1) ?_
    iterate 2 (refine ry_step rfl rfl ?_)
    obtain ⟨S4, hv3, hf⟩ := Option.bind_eq_some_iff.mp hf
    refine ry_call rfl rfl rfl rfl rfl (tX12_four hv3) ?_
    iterate 2 (refine ry_step rfl rfl ?_)
    obtain ⟨S6, hv5, hf⟩ := Option.bind_eq_some_iff.mp hf
    refine ry_call rfl rfl rfl rfl rfl (tX12_four hv5) ?_
    iterate 2 (refine ry_step rfl rfl ?_)
    obtain ⟨S8, hv7, hf⟩ := Option.bind_eq_some_iff.mp hf
    refine ry_call rfl rfl rfl rfl rfl (tX12_four hv7) ?_
    iterate 2 (refine ry_step rfl rfl ?_)
    obtain ⟨S10, hv9, hf⟩ := Option.bind_eq_some_iff.mp hf
    refine ry_call rfl rfl rfl rfl rfl (tX12_four hv9) ?_
    iterate 2 (refine ry_step rfl rfl ?_)
    cases hf
    exact ry_ret rfl rfl
  · refine ry_step rfl rfl ?_
    cases hf
    exact ry_ret rfl rfl
def fX12_end (v0 : Int32) (S : yS) : Option (Int32 × yS) := (if ¬ (fX12_isIn v0 (Int32.ofInt 0) (S.1 265 4)) = 0 then pSt (ySi S 265 4 v0) fun S1 => some (v0, S1) else some ((Int32.ofInt (-1)), S))
set_option maxRecDepth 4000 in
theorem tX12_end {ro : xRo} {T : yK} {S : yS} {d : Nat} {v0 : Int32} {q : Int32} {S' : yS} (hf : fX12_end v0 S = some (q, S')) : yEv ro xNo (yKx T) (d + 2) jX12_end [.ref 265, .int v0] S (some (.int q)) S' := by
  refine ry_meth pX12_end rfl (fun z => ?_)
  unfold fX12_end at hf
  iterate 4 (refine ry_step rfl rfl ?_)
  refine ry_call rfl rfl rfl rfl rfl tX12_isIn ?_
  refine ry_step rfl rfl ?_
  refine ry_br hf (fun hc hf => ?_) (fun hc hf => ?_)
  · iterate 2 (refine ry_step rfl rfl ?_)
    refine ry_stepS hf rfl rfl (fun S1 hf => ?_)
    refine ry_step rfl rfl ?_
    cases hf
    exact ry_ret rfl rfl
  · refine ry_step rfl rfl ?_
    cases hf
    exact ry_ret rfl rfl
def fX12_byteAt (v0 : Int32) (S : yS) : Option Int32 := (if (S.1 265 4) ≤ v0 then some (Int32.ofInt (-1)) else (ain 300 v0).bind fun j1 => some (S.2.2.1 269 j1))
set_option maxRecDepth 4000 in
theorem tX12_byteAt {ro : xRo} {T : yK} {S : yS} {d : Nat} {v0 : Int32} {q : Int32} (hf : fX12_byteAt v0 S = some q) : yEv ro xNo (yKx T) (d + 1) jX12_byteAt [.ref 265, .int v0] S (some (.int q)) S := by
  refine ry_meth pX12_byteAt rfl (fun z => ?_)
  unfold fX12_byteAt at hf
  iterate 4 (refine ry_step rfl rfl ?_)
  refine ry_br hf (fun hc hf => ?_) (fun hc hf => ?_)
  · refine ry_step rfl rfl ?_
    cases hf
    exact ry_ret rfl rfl
  · iterate 3 (refine ry_step rfl rfl ?_)
    refine ry_iald hf rfl rfl rfl (fun j1 hf => ?_)
    refine ry_step rfl rfl ?_
    cases hf
    exact ry_ret rfl rfl
def fX12_isSign (v0 : Int32) (S : yS) : Option Int32 := (if v0 = (Int32.ofInt 35) then some (Int32.ofInt 1) else (if v0 = (Int32.ofInt 36) then some (Int32.ofInt 0) else (if v0 = (Int32.ofInt 37) then some (Int32.ofInt 0) else (if v0 = (Int32.ofInt 38) then some (Int32.ofInt 0) else (if v0 = (Int32.ofInt 39) then some (Int32.ofInt 0) else (if v0 = (Int32.ofInt 40) then some (Int32.ofInt 1) else (if v0 = (Int32.ofInt 41) then some (Int32.ofInt 1) else (if v0 = (Int32.ofInt 42) then some (Int32.ofInt 1) else (if v0 = (Int32.ofInt 43) then some (Int32.ofInt 1) else (if v0 = (Int32.ofInt 44) then some (Int32.ofInt 0) else (if v0 = (Int32.ofInt 45) then some (Int32.ofInt 1) else (if v0 = (Int32.ofInt 46) then some (Int32.ofInt 0) else (if v0 = (Int32.ofInt 47) then some (Int32.ofInt 1) else (if v0 = (Int32.ofInt 48) then some (Int32.ofInt 0) else (if v0 = (Int32.ofInt 49) then some (Int32.ofInt 0) else (if v0 = (Int32.ofInt 50) then some (Int32.ofInt 0) else (if v0 = (Int32.ofInt 51) then some (Int32.ofInt 0) else (if v0 = (Int32.ofInt 52) then some (Int32.ofInt 0) else (if v0 = (Int32.ofInt 53) then some (Int32.ofInt 0) else (if v0 = (Int32.ofInt 54) then some (Int32.ofInt 0) else (if v0 = (Int32.ofInt 55) then some (Int32.ofInt 0) else (if v0 = (Int32.ofInt 56) then some (Int32.ofInt 0) else (if v0 = (Int32.ofInt 57) then some (Int32.ofInt 0) else (if v0 = (Int32.ofInt 58) then some (Int32.ofInt 1) else (if v0 = (Int32.ofInt 59) then some (Int32.ofInt 1) else (if v0 = (Int32.ofInt 60) then some (Int32.ofInt 1) else (if v0 = (Int32.ofInt 61) then some (Int32.ofInt 1) else (if v0 = (Int32.ofInt 62) then some (Int32.ofInt 1) else some (Int32.ofInt 0)))))))))))))))))))))))))))))
set_option maxRecDepth 4000 in
theorem tX12_isSign {ro : xRo} {T : yK} {S : yS} {d : Nat} {v0 : Int32} {q : Int32} (hf : fX12_isSign v0 S = some q) : yEv ro xNo (yKx T) (d + 1) jX12_isSign [.int v0] S (some (.int q)) S := by
  refine ry_meth pX12_isSign rfl (fun z => ?_)
  unfold fX12_isSign at hf
  refine ry_step rfl rfl ?_
  refine ry_sw hf (fun hf => ?_) (fun n35 hf => ?_)
  · iterate 2 (refine ry_step rfl rfl ?_)
    cases hf
    exact ry_ret rfl rfl
  · refine ry_sw hf (fun hf => ?_) (fun n36 hf => ?_)
    · iterate 2 (refine ry_step rfl rfl ?_)
      cases hf
      exact ry_ret rfl rfl
    · refine ry_sw hf (fun hf => ?_) (fun n37 hf => ?_)
      · iterate 2 (refine ry_step rfl rfl ?_)
        cases hf
        exact ry_ret rfl rfl
      · refine ry_sw hf (fun hf => ?_) (fun n38 hf => ?_)
        · iterate 2 (refine ry_step rfl rfl ?_)
          cases hf
          exact ry_ret rfl rfl
        · refine ry_sw hf (fun hf => ?_) (fun n39 hf => ?_)
          · iterate 2 (refine ry_step rfl rfl ?_)
            cases hf
            exact ry_ret rfl rfl
          · refine ry_sw hf (fun hf => ?_) (fun n40 hf => ?_)
            · iterate 2 (refine ry_step rfl rfl ?_)
              cases hf
              exact ry_ret rfl rfl
            · refine ry_sw hf (fun hf => ?_) (fun n41 hf => ?_)
              · iterate 2 (refine ry_step rfl rfl ?_)
                cases hf
                exact ry_ret rfl rfl
              · refine ry_sw hf (fun hf => ?_) (fun n42 hf => ?_)
                · iterate 2 (refine ry_step rfl rfl ?_)
                  cases hf
                  exact ry_ret rfl rfl
                · refine ry_sw hf (fun hf => ?_) (fun n43 hf => ?_)
                  · iterate 2 (refine ry_step rfl rfl ?_)
                    cases hf
                    exact ry_ret rfl rfl
                  · refine ry_sw hf (fun hf => ?_) (fun n44 hf => ?_)
                    · iterate 2 (refine ry_step rfl rfl ?_)
                      cases hf
                      exact ry_ret rfl rfl
                    · refine ry_sw hf (fun hf => ?_) (fun n45 hf => ?_)
                      · iterate 2 (refine ry_step rfl rfl ?_)
                        cases hf
                        exact ry_ret rfl rfl
                      · refine ry_sw hf (fun hf => ?_) (fun n46 hf => ?_)
                        · iterate 2 (refine ry_step rfl rfl ?_)
                          cases hf
                          exact ry_ret rfl rfl
                        · refine ry_sw hf (fun hf => ?_) (fun n47 hf => ?_)
                          · iterate 2 (refine ry_step rfl rfl ?_)
                            cases hf
                            exact ry_ret rfl rfl
                          · refine ry_sw hf (fun hf => ?_) (fun n48 hf => ?_)
                            · iterate 2 (refine ry_step rfl rfl ?_)
                              cases hf
                              exact ry_ret rfl rfl
                            · refine ry_sw hf (fun hf => ?_) (fun n49 hf => ?_)
                              · iterate 2 (refine ry_step rfl rfl ?_)
                                cases hf
                                exact ry_ret rfl rfl
                              · refine ry_sw hf (fun hf => ?_) (fun n50 hf => ?_)
                                · iterate 2 (refine ry_step rfl rfl ?_)
                                  cases hf
                                  exact ry_ret rfl rfl
                                · refine ry_sw hf (fun hf => ?_) (fun n51 hf => ?_)
                                  · iterate 2 (refine ry_step rfl rfl ?_)
                                    cases hf
                                    exact ry_ret rfl rfl
                                  · refine ry_sw hf (fun hf => ?_) (fun n52 hf => ?_)
                                    · iterate 2 (refine ry_step rfl rfl ?_)
                                      cases hf
                                      exact ry_ret rfl rfl
                                    · refine ry_sw hf (fun hf => ?_) (fun n53 hf => ?_)
                                      · iterate 2 (refine ry_step rfl rfl ?_)
                                        cases hf
                                        exact ry_ret rfl rfl
                                      · refine ry_sw hf (fun hf => ?_) (fun n54 hf => ?_)
                                        · iterate 2 (refine ry_step rfl rfl ?_)
                                          cases hf
                                          exact ry_ret rfl rfl
                                        · refine ry_sw hf (fun hf => ?_) (fun n55 hf => ?_)
                                          · iterate 2 (refine ry_step rfl rfl ?_)
                                            cases hf
                                            exact ry_ret rfl rfl
                                          · refine ry_sw hf (fun hf => ?_) (fun n56 hf => ?_)
                                            · iterate 2 (refine ry_step rfl rfl ?_)
                                              cases hf
                                              exact ry_ret rfl rfl
                                            · refine ry_sw hf (fun hf => ?_) (fun n57 hf => ?_)
                                              · iterate 2 (refine ry_step rfl rfl ?_)
                                                cases hf
                                                exact ry_ret rfl rfl
                                              · refine ry_sw hf (fun hf => ?_) (fun n58 hf => ?_)
                                                · iterate 2 (refine ry_step rfl rfl ?_)
                                                  cases hf
                                                  exact ry_ret rfl rfl
                                                · refine ry_sw hf (fun hf => ?_) (fun n59 hf => ?_)
                                                  · iterate 2 (refine ry_step rfl rfl ?_)
                                                    cases hf
                                                    exact ry_ret rfl rfl
                                                  · refine ry_sw hf (fun hf => ?_) (fun n60 hf => ?_)
                                                    · iterate 2 (refine ry_step rfl rfl ?_)
                                                      cases hf
                                                      exact ry_ret rfl rfl
                                                    · refine ry_sw hf (fun hf => ?_) (fun n61 hf => ?_)
                                                      · iterate 2 (refine ry_step rfl rfl ?_)
                                                        cases hf
                                                        exact ry_ret rfl rfl
                                                      · refine ry_sw hf (fun hf => ?_) (fun n62 hf => ?_)
                                                        · iterate 2 (refine ry_step rfl rfl ?_)
                                                          cases hf
                                                          exact ry_ret rfl rfl
                                                        · have m35 := xne_toInt (k := 35) rfl n35
                                                          have m36 := xne_toInt (k := 36) rfl n36
                                                          have m37 := xne_toInt (k := 37) rfl n37
                                                          have m38 := xne_toInt (k := 38) rfl n38
                                                          have m39 := xne_toInt (k := 39) rfl n39
                                                          have m40 := xne_toInt (k := 40) rfl n40
                                                          have m41 := xne_toInt (k := 41) rfl n41
                                                          have m42 := xne_toInt (k := 42) rfl n42
                                                          have m43 := xne_toInt (k := 43) rfl n43
                                                          have m44 := xne_toInt (k := 44) rfl n44
                                                          have m45 := xne_toInt (k := 45) rfl n45
                                                          have m46 := xne_toInt (k := 46) rfl n46
                                                          have m47 := xne_toInt (k := 47) rfl n47
                                                          have m48 := xne_toInt (k := 48) rfl n48
                                                          have m49 := xne_toInt (k := 49) rfl n49
                                                          have m50 := xne_toInt (k := 50) rfl n50
                                                          have m51 := xne_toInt (k := 51) rfl n51
                                                          have m52 := xne_toInt (k := 52) rfl n52
                                                          have m53 := xne_toInt (k := 53) rfl n53
                                                          have m54 := xne_toInt (k := 54) rfl n54
                                                          have m55 := xne_toInt (k := 55) rfl n55
                                                          have m56 := xne_toInt (k := 56) rfl n56
                                                          have m57 := xne_toInt (k := 57) rfl n57
                                                          have m58 := xne_toInt (k := 58) rfl n58
                                                          have m59 := xne_toInt (k := 59) rfl n59
                                                          have m60 := xne_toInt (k := 60) rfl n60
                                                          have m61 := xne_toInt (k := 61) rfl n61
                                                          have m62 := xne_toInt (k := 62) rfl n62
                                                          refine ry_tb rfl (by omega) ?_
                                                          refine ry_step rfl rfl ?_
                                                          cases hf
                                                          exact ry_ret rfl rfl
def lX12_nextToken (N : Nat) : Nat → Nat → yS → Option yS
  | 0, _, _ => none
  | n + 1, m, S => if m = 0 then (fX12_byteAt (S.1 265 7) S).bind fun u2 => (if u2 = (Int32.ofInt 32) then pSt (ySi S 265 7 ((S.1 265 7) + (Int32.ofInt 1))) fun S3 => lX12_nextToken N n 0  S3 else (fX12_byteAt (S.1 265 7) S).bind fun u5 => (if ¬ u5 = (Int32.ofInt 10) then pSt (ySi S 265 8 (S.1 265 7)) fun S6 => (fX12_byteAt (S6.1 265 7) S6).bind fun u8 => (if 0 ≤ u8 then (if (fX12_isFigure u8) = 0 then (if (fX12_isLetterByte u8) = 0 then (fX12_isSign u8 S6).bind fun u10 => (if u10 = 0 then pSt (ySi S6 265 9 (Int32.ofInt 3)) fun S11 => pSt (ySi S11 265 7 ((S11.1 265 7) + (Int32.ofInt 1))) fun S12 => (if u8 = (Int32.ofInt 60) then (fX12_byteAt (S12.1 265 7) S12).bind fun u14 => (if ¬ u14 = (Int32.ofInt 61) then some S12 else (if ¬ u8 = (Int32.ofInt 60) then pSt (ySi S12 265 9 (Int32.ofInt 5)) fun S15 => pSt (ySi S15 265 7 ((S15.1 265 7) + (Int32.ofInt 1))) fun S16 => some S16 else pSt (ySi S12 265 9 (Int32.ofInt 4)) fun S17 => pSt (ySi S17 265 7 ((S17.1 265 7) + (Int32.ofInt 1))) fun S18 => some S18)) else (if ¬ u8 = (Int32.ofInt 62) then some S12 else (fX12_byteAt (S12.1 265 7) S12).bind fun u20 => (if ¬ u20 = (Int32.ofInt 61) then some S12 else (if ¬ u8 = (Int32.ofInt 60) then pSt (ySi S12 265 9 (Int32.ofInt 5)) fun S21 => pSt (ySi S21 265 7 ((S21.1 265 7) + (Int32.ofInt 1))) fun S22 => some S22 else pSt (ySi S12 265 9 (Int32.ofInt 4)) fun S23 => pSt (ySi S23 265 7 ((S23.1 265 7) + (Int32.ofInt 1))) fun S24 => some S24)))) else pSt (ySi S6 265 9 u8) fun S25 => pSt (ySi S25 265 7 ((S25.1 265 7) + (Int32.ofInt 1))) fun S26 => (if u8 = (Int32.ofInt 60) then (fX12_byteAt (S26.1 265 7) S26).bind fun u28 => (if ¬ u28 = (Int32.ofInt 61) then some S26 else (if ¬ u8 = (Int32.ofInt 60) then pSt (ySi S26 265 9 (Int32.ofInt 5)) fun S29 => pSt (ySi S29 265 7 ((S29.1 265 7) + (Int32.ofInt 1))) fun S30 => some S30 else pSt (ySi S26 265 9 (Int32.ofInt 4)) fun S31 => pSt (ySi S31 265 7 ((S31.1 265 7) + (Int32.ofInt 1))) fun S32 => some S32)) else (if ¬ u8 = (Int32.ofInt 62) then some S26 else (fX12_byteAt (S26.1 265 7) S26).bind fun u34 => (if ¬ u34 = (Int32.ofInt 61) then some S26 else (if ¬ u8 = (Int32.ofInt 60) then pSt (ySi S26 265 9 (Int32.ofInt 5)) fun S35 => pSt (ySi S35 265 7 ((S35.1 265 7) + (Int32.ofInt 1))) fun S36 => some S36 else pSt (ySi S26 265 9 (Int32.ofInt 4)) fun S37 => pSt (ySi S37 265 7 ((S37.1 265 7) + (Int32.ofInt 1))) fun S38 => some S38))))) else pSt (ySi S6 265 9 (Int32.ofInt 2)) fun S39 => pSt (ySj S39 265 11 (Int64.ofNat 0)) fun S40 => lX12_nextToken N n 2  S40) else pSt (ySi S6 265 9 (Int32.ofInt 1)) fun S41 => pSt (ySi S41 265 10 (Int32.ofInt 0)) fun S42 => lX12_nextToken N n 1  S42) else pSt (ySi S6 265 9 (Int32.ofInt 0)) fun S43 => some S43) else pSt (ySi S 265 7 ((S.1 265 7) + (Int32.ofInt 1))) fun S44 => lX12_nextToken N n 0  S44)) else if m = 1 then (fX12_byteAt (S.1 265 7) S).bind fun u46 => (if (fX12_isFigure u46) = 0 then some S else (if (S.1 265 10) ≤ (Int32.ofInt 99999) then (fX12_byteAt (S.1 265 7) S).bind fun u48 => pSt (ySi S 265 10 ((((Int32.ofInt 10) * (S.1 265 10)) + u48) - (Int32.ofInt 48))) fun S49 => pSt (ySi S49 265 7 ((S49.1 265 7) + (Int32.ofInt 1))) fun S50 => lX12_nextToken N n 1  S50 else pSt (ySi S 265 10 (S.1 265 10)) fun S51 => pSt (ySi S51 265 7 ((S51.1 265 7) + (Int32.ofInt 1))) fun S52 => lX12_nextToken N n 1  S52)) else (fX12_byteAt (S.1 265 7) S).bind fun u54 => (if (fX12_isLetterByte u54) = 0 then some S else (if (lg_cmp ((S.2.1 265 11) >>> (Int32.toInt64 (Int32.ofInt 48) &&& 63)) (Int64.ofNat 0)) = 0 then (fX12_byteAt (S.1 265 7) S).bind fun u56 => pSt (ySj S 265 11 (((S.2.1 265 11) <<< (Int32.toInt64 (Int32.ofInt 8) &&& 63)) ||| (Int32.toInt64 u56))) fun S57 => pSt (ySi S57 265 7 ((S57.1 265 7) + (Int32.ofInt 1))) fun S58 => lX12_nextToken N n 2  S58 else pSt (ySj S 265 11 (Int64.ofInt 1152921504606846976)) fun S59 => pSt (ySi S59 265 7 ((S59.1 265 7) + (Int32.ofInt 1))) fun S60 => lX12_nextToken N n 2  S60))
set_option maxRecDepth 4000 in
theorem uX12_nextToken {ro : xRo} {T : yK} {d N : Nat} : ∀ n : Nat, (∀  (S : yS) {S' : yS}, lX12_nextToken N n 0  S = some S' → ∀ z, Ry ro xNo (yKx T) z (d + 1) mX12_nextToken 0 [(0, .ref 265)] [] S (none, yH (yKx T) z S')) ∧ (∀  (S : yS) {S' : yS}, lX12_nextToken N n 1  S = some S' → ∀ z, Ry ro xNo (yKx T) z (d + 1) mX12_nextToken 85 [(0, .ref 265)] [] S (none, yH (yKx T) z S')) ∧ (∀  (S : yS) {S' : yS}, lX12_nextToken N n 2  S = some S' → ∀ z, Ry ro xNo (yKx T) z (d + 1) mX12_nextToken 168 [(0, .ref 265)] [] S (none, yH (yKx T) z S')) := by
  intro n
  induction n with
  | zero => exact ⟨(by intro _ _ hf; cases hf), (by intro _ _ hf; cases hf), (by intro _ _ hf; cases hf)⟩
  | succ n ih =>
    refine ⟨?_, ?_, ?_⟩
    · intro  S S' hf z
      unfold lX12_nextToken at hf
      rw [if_pos rfl] at hf
      iterate 3 (refine ry_step rfl rfl ?_)
      obtain ⟨u2, hv1, hf⟩ := Option.bind_eq_some_iff.mp hf
      refine ry_call rfl rfl rfl rfl rfl (tX12_byteAt hv1) ?_
      iterate 2 (refine ry_step rfl rfl ?_)
      refine ry_br hf (fun hc hf => ?_) (fun hc hf => ?_)
      · iterate 5 (refine ry_step rfl rfl ?_)
        refine ry_stepS hf rfl rfl (fun S3 hf => ?_)
        refine ry_step rfl rfl ?_
        refine ry_sub [0] rfl rfl ?_
        exact ih.1  S3 hf _
      · iterate 3 (refine ry_step rfl rfl ?_)
        obtain ⟨u5, hv4, hf⟩ := Option.bind_eq_some_iff.mp hf
        refine ry_call rfl rfl rfl rfl rfl (tX12_byteAt hv4) ?_
        iterate 2 (refine ry_step rfl rfl ?_)
        refine ry_br hf (fun hc hf => ?_) (fun hc hf => ?_)
        · iterate 3 (refine ry_step rfl rfl ?_)
          refine ry_stepS hf rfl rfl (fun S6 hf => ?_)
          iterate 3 (refine ry_step rfl rfl ?_)
          obtain ⟨u8, hv7, hf⟩ := Option.bind_eq_some_iff.mp hf
          refine ry_call rfl rfl rfl rfl rfl (tX12_byteAt hv7) ?_
          iterate 3 (refine ry_step rfl rfl ?_)
          refine ry_br hf (fun hc hf => ?_) (fun hc hf => ?_)
          · refine ry_step rfl rfl ?_
            refine ry_call rfl rfl rfl rfl rfl tX12_isFigure ?_
            refine ry_step rfl rfl ?_
            refine ry_br hf (fun hc hf => ?_) (fun hc hf => ?_)
            · refine ry_step rfl rfl ?_
              refine ry_call rfl rfl rfl rfl rfl tX12_isLetterByte ?_
              refine ry_step rfl rfl ?_
              refine ry_br hf (fun hc hf => ?_) (fun hc hf => ?_)
              · iterate 2 (refine ry_step rfl rfl ?_)
                obtain ⟨u10, hv9, hf⟩ := Option.bind_eq_some_iff.mp hf
                refine ry_call rfl rfl rfl rfl rfl (tX12_isSign hv9) ?_
                refine ry_step rfl rfl ?_
                refine ry_br hf (fun hc hf => ?_) (fun hc hf => ?_)
                · refine ry_step rfl rfl ?_
                  refine ry_stepS hf rfl rfl (fun S11 hf => ?_)
                  iterate 5 (refine ry_step rfl rfl ?_)
                  refine ry_stepS hf rfl rfl (fun S12 hf => ?_)
                  iterate 3 (refine ry_step rfl rfl ?_)
                  refine ry_br hf (fun hc hf => ?_) (fun hc hf => ?_)
                  · iterate 3 (refine ry_step rfl rfl ?_)
                    obtain ⟨u14, hv13, hf⟩ := Option.bind_eq_some_iff.mp hf
                    refine ry_call rfl rfl rfl rfl rfl (tX12_byteAt hv13) ?_
                    iterate 2 (refine ry_step rfl rfl ?_)
                    refine ry_br hf (fun hc hf => ?_) (fun hc hf => ?_)
                    · cases hf
                      exact ry_ret rfl rfl
                    · iterate 4 (refine ry_step rfl rfl ?_)
                      refine ry_br hf (fun hc hf => ?_) (fun hc hf => ?_)
                      · refine ry_step rfl rfl ?_
                        refine ry_stepS hf rfl rfl (fun S15 hf => ?_)
                        iterate 5 (refine ry_step rfl rfl ?_)
                        refine ry_stepS hf rfl rfl (fun S16 hf => ?_)
                        cases hf
                        exact ry_ret rfl rfl
                      · iterate 2 (refine ry_step rfl rfl ?_)
                        refine ry_stepS hf rfl rfl (fun S17 hf => ?_)
                        iterate 5 (refine ry_step rfl rfl ?_)
                        refine ry_stepS hf rfl rfl (fun S18 hf => ?_)
                        cases hf
                        exact ry_ret rfl rfl
                  · iterate 3 (refine ry_step rfl rfl ?_)
                    refine ry_br hf (fun hc hf => ?_) (fun hc hf => ?_)
                    · cases hf
                      exact ry_ret rfl rfl
                    · iterate 3 (refine ry_step rfl rfl ?_)
                      obtain ⟨u20, hv19, hf⟩ := Option.bind_eq_some_iff.mp hf
                      refine ry_call rfl rfl rfl rfl rfl (tX12_byteAt hv19) ?_
                      iterate 2 (refine ry_step rfl rfl ?_)
                      refine ry_br hf (fun hc hf => ?_) (fun hc hf => ?_)
                      · cases hf
                        exact ry_ret rfl rfl
                      · iterate 4 (refine ry_step rfl rfl ?_)
                        refine ry_br hf (fun hc hf => ?_) (fun hc hf => ?_)
                        · refine ry_step rfl rfl ?_
                          refine ry_stepS hf rfl rfl (fun S21 hf => ?_)
                          iterate 5 (refine ry_step rfl rfl ?_)
                          refine ry_stepS hf rfl rfl (fun S22 hf => ?_)
                          cases hf
                          exact ry_ret rfl rfl
                        · iterate 2 (refine ry_step rfl rfl ?_)
                          refine ry_stepS hf rfl rfl (fun S23 hf => ?_)
                          iterate 5 (refine ry_step rfl rfl ?_)
                          refine ry_stepS hf rfl rfl (fun S24 hf => ?_)
                          cases hf
                          exact ry_ret rfl rfl
                · iterate 2 (refine ry_step rfl rfl ?_)
                  refine ry_stepS hf rfl rfl (fun S25 hf => ?_)
                  iterate 5 (refine ry_step rfl rfl ?_)
                  refine ry_stepS hf rfl rfl (fun S26 hf => ?_)
                  iterate 3 (refine ry_step rfl rfl ?_)
                  refine ry_br hf (fun hc hf => ?_) (fun hc hf => ?_)
                  · iterate 3 (refine ry_step rfl rfl ?_)
                    obtain ⟨u28, hv27, hf⟩ := Option.bind_eq_some_iff.mp hf
                    refine ry_call rfl rfl rfl rfl rfl (tX12_byteAt hv27) ?_
                    iterate 2 (refine ry_step rfl rfl ?_)
                    refine ry_br hf (fun hc hf => ?_) (fun hc hf => ?_)
                    · cases hf
                      exact ry_ret rfl rfl
                    · iterate 4 (refine ry_step rfl rfl ?_)
                      refine ry_br hf (fun hc hf => ?_) (fun hc hf => ?_)
                      · refine ry_step rfl rfl ?_
                        refine ry_stepS hf rfl rfl (fun S29 hf => ?_)
                        iterate 5 (refine ry_step rfl rfl ?_)
                        refine ry_stepS hf rfl rfl (fun S30 hf => ?_)
                        cases hf
                        exact ry_ret rfl rfl
                      · iterate 2 (refine ry_step rfl rfl ?_)
                        refine ry_stepS hf rfl rfl (fun S31 hf => ?_)
                        iterate 5 (refine ry_step rfl rfl ?_)
                        refine ry_stepS hf rfl rfl (fun S32 hf => ?_)
                        cases hf
                        exact ry_ret rfl rfl
                  · iterate 3 (refine ry_step rfl rfl ?_)
                    refine ry_br hf (fun hc hf => ?_) (fun hc hf => ?_)
                    · cases hf
                      exact ry_ret rfl rfl
                    · iterate 3 (refine ry_step rfl rfl ?_)
                      obtain ⟨u34, hv33, hf⟩ := Option.bind_eq_some_iff.mp hf
                      refine ry_call rfl rfl rfl rfl rfl (tX12_byteAt hv33) ?_
                      iterate 2 (refine ry_step rfl rfl ?_)
                      refine ry_br hf (fun hc hf => ?_) (fun hc hf => ?_)
                      · cases hf
                        exact ry_ret rfl rfl
                      · iterate 4 (refine ry_step rfl rfl ?_)
                        refine ry_br hf (fun hc hf => ?_) (fun hc hf => ?_)
                        · refine ry_step rfl rfl ?_
                          refine ry_stepS hf rfl rfl (fun S35 hf => ?_)
                          iterate 5 (refine ry_step rfl rfl ?_)
                          refine ry_stepS hf rfl rfl (fun S36 hf => ?_)
                          cases hf
                          exact ry_ret rfl rfl
                        · iterate 2 (refine ry_step rfl rfl ?_)
                          refine ry_stepS hf rfl rfl (fun S37 hf => ?_)
                          iterate 5 (refine ry_step rfl rfl ?_)
                          refine ry_stepS hf rfl rfl (fun S38 hf => ?_)
                          cases hf
                          exact ry_ret rfl rfl
              · iterate 2 (refine ry_step rfl rfl ?_)
                refine ry_stepS hf rfl rfl (fun S39 hf => ?_)
                iterate 2 (refine ry_step rfl rfl ?_)
                refine ry_stepS hf rfl rfl (fun S40 hf => ?_)
                refine ry_sub [1] rfl rfl ?_
                exact ih.2.2  S40 hf _
            · iterate 2 (refine ry_step rfl rfl ?_)
              refine ry_stepS hf rfl rfl (fun S41 hf => ?_)
              iterate 2 (refine ry_step rfl rfl ?_)
              refine ry_stepS hf rfl rfl (fun S42 hf => ?_)
              refine ry_sub [1] rfl rfl ?_
              exact ih.2.1  S42 hf _
          · iterate 2 (refine ry_step rfl rfl ?_)
            refine ry_stepS hf rfl rfl (fun S43 hf => ?_)
            refine ry_step rfl rfl ?_
            cases hf
            exact ry_ret rfl rfl
        · iterate 5 (refine ry_step rfl rfl ?_)
          refine ry_stepS hf rfl rfl (fun S44 hf => ?_)
          refine ry_step rfl rfl ?_
          refine ry_sub [0] rfl rfl ?_
          exact ih.1  S44 hf _
    · intro  S S' hf z
      unfold lX12_nextToken at hf
      rw [if_neg (by decide)] at hf; rw [if_pos rfl] at hf
      iterate 3 (refine ry_step rfl rfl ?_)
      obtain ⟨u46, hv45, hf⟩ := Option.bind_eq_some_iff.mp hf
      refine ry_call rfl rfl rfl rfl rfl (tX12_byteAt hv45) ?_
      refine ry_call rfl rfl rfl rfl rfl tX12_isFigure ?_
      refine ry_step rfl rfl ?_
      refine ry_br hf (fun hc hf => ?_) (fun hc hf => ?_)
      · cases hf
        exact ry_ret rfl rfl
      · iterate 5 (refine ry_step rfl rfl ?_)
        refine ry_br hf (fun hc hf => ?_) (fun hc hf => ?_)
        · iterate 7 (refine ry_step rfl rfl ?_)
          obtain ⟨u48, hv47, hf⟩ := Option.bind_eq_some_iff.mp hf
          refine ry_call rfl rfl rfl rfl rfl (tX12_byteAt hv47) ?_
          iterate 3 (refine ry_step rfl rfl ?_)
          refine ry_stepS hf rfl rfl (fun S49 hf => ?_)
          iterate 5 (refine ry_step rfl rfl ?_)
          refine ry_stepS hf rfl rfl (fun S50 hf => ?_)
          refine ry_step rfl rfl ?_
          refine ry_sub [0] rfl rfl ?_
          exact ih.2.1  S50 hf _
        · iterate 3 (refine ry_step rfl rfl ?_)
          refine ry_stepS hf rfl rfl (fun S51 hf => ?_)
          iterate 5 (refine ry_step rfl rfl ?_)
          refine ry_stepS hf rfl rfl (fun S52 hf => ?_)
          refine ry_step rfl rfl ?_
          refine ry_sub [0] rfl rfl ?_
          exact ih.2.1  S52 hf _
    · intro  S S' hf z
      unfold lX12_nextToken at hf
      rw [if_neg (by decide)] at hf; rw [if_neg (by decide)] at hf; skip
      iterate 3 (refine ry_step rfl rfl ?_)
      obtain ⟨u54, hv53, hf⟩ := Option.bind_eq_some_iff.mp hf
      refine ry_call rfl rfl rfl rfl rfl (tX12_byteAt hv53) ?_
      refine ry_call rfl rfl rfl rfl rfl tX12_isLetterByte ?_
      refine ry_step rfl rfl ?_
      refine ry_br hf (fun hc hf => ?_) (fun hc hf => ?_)
      · cases hf
        exact ry_ret rfl rfl
      · iterate 8 (refine ry_step rfl rfl ?_)
        refine ry_br hf (fun hc hf => ?_) (fun hc hf => ?_)
        · iterate 7 (refine ry_step rfl rfl ?_)
          obtain ⟨u56, hv55, hf⟩ := Option.bind_eq_some_iff.mp hf
          refine ry_call rfl rfl rfl rfl rfl (tX12_byteAt hv55) ?_
          iterate 2 (refine ry_step rfl rfl ?_)
          refine ry_stepS hf rfl rfl (fun S57 hf => ?_)
          iterate 5 (refine ry_step rfl rfl ?_)
          refine ry_stepS hf rfl rfl (fun S58 hf => ?_)
          refine ry_step rfl rfl ?_
          refine ry_sub [0] rfl rfl ?_
          exact ih.2.2  S58 hf _
        · iterate 2 (refine ry_step rfl rfl ?_)
          refine ry_stepS hf rfl rfl (fun S59 hf => ?_)
          iterate 5 (refine ry_step rfl rfl ?_)
          refine ry_stepS hf rfl rfl (fun S60 hf => ?_)
          refine ry_step rfl rfl ?_
          refine ry_sub [0] rfl rfl ?_
          exact ih.2.2  S60 hf _
def fX12_nextToken (N : Nat) (S : yS) : Option yS := lX12_nextToken N N 0  S
set_option maxRecDepth 4000 in
theorem tX12_nextToken {ro : xRo} {T : yK} {S : yS} {d N : Nat} {S' : yS} (hf : fX12_nextToken N  S = some S') : yEv ro xNo (yKx T) (d + 2) jX12_nextToken [.ref 265] S (none) S' := by
  refine ry_meth pX12_nextToken rfl (fun z => ?_)
  unfold fX12_nextToken at hf
  refine ry_sub [0] rfl rfl ?_
  exact (uX12_nextToken (ro := ro) _).1  S hf _
def fX12_isWord (v0 : Int64) (S : yS) : Option Int32 := (if ¬ (S.1 265 9) = (Int32.ofInt 2) then some (Int32.ofInt 0) else (if ¬ (lg_cmp (S.2.1 265 11) v0) = 0 then some (Int32.ofInt 0) else some (Int32.ofInt 1)))
set_option maxRecDepth 4000 in
theorem tX12_isWord {ro : xRo} {T : yK} {S : yS} {d : Nat} {v0 : Int64} {q : Int32} (hf : fX12_isWord v0 S = some q) : yEv ro xNo (yKx T) (d + 1) jX12_isWord [.ref 265, .long v0] S (some (.int q)) S := by
  refine ry_meth pX12_isWord rfl (fun z => ?_)
  unfold fX12_isWord at hf
  iterate 4 (refine ry_step rfl rfl ?_)
  refine ry_br hf (fun hc hf => ?_) (fun hc hf => ?_)
  · refine ry_step rfl rfl ?_
    cases hf
    exact ry_ret rfl rfl
  · iterate 5 (refine ry_step rfl rfl ?_)
    refine ry_br hf (fun hc hf => ?_) (fun hc hf => ?_)
    · refine ry_step rfl rfl ?_
      cases hf
      exact ry_ret rfl rfl
    · iterate 2 (refine ry_step rfl rfl ?_)
      cases hf
      exact ry_ret rfl rfl
def fX12_emit (v0 : Int32) (v1 : Int32) (S : yS) : Option yS := (ain 2724 (((S.1 265 12) + (Int32.ofInt 73)) + ((Int32.ofInt 2) * (S.1 265 13)))).bind fun j5 => pSt (ySa S 268 (upd (S.2.2.1 268) j5 v0)) fun S1 => (ain 2724 ((((S1.1 265 12) + (Int32.ofInt 73)) + ((Int32.ofInt 2) * (S1.1 265 13))) + (Int32.ofInt 1))).bind fun j4 => pSt (ySa S1 268 (upd (S1.2.2.1 268) j4 v1)) fun S2 => pSt (ySi S2 265 13 ((S2.1 265 13) + (Int32.ofInt 1))) fun S3 => some S3
set_option maxRecDepth 4000 in
theorem tX12_emit {ro : xRo} {T : yK} {S : yS} {d : Nat} {v0 : Int32} {v1 : Int32} {S' : yS} (hf : fX12_emit v0 v1 S = some S') : yEv ro xNo (yKx T) (d + 1) jX12_emit [.ref 265, .int v0, .int v1] S (none) S' := by
  refine ry_meth pX12_emit rfl (fun z => ?_)
  unfold fX12_emit at hf
  iterate 12 (refine ry_step rfl rfl ?_)
  refine ry_iast hf rfl rfl (fun j5 S1 hf => ?_)
  iterate 14 (refine ry_step rfl rfl ?_)
  refine ry_iast hf rfl rfl (fun j4 S2 hf => ?_)
  iterate 5 (refine ry_step rfl rfl ?_)
  refine ry_stepS hf rfl rfl (fun S3 hf => ?_)
  cases hf
  exact ry_ret rfl rfl
def fX12_nameOf (S : yS) : Option Int32 := (if (S.1 265 9) = (Int32.ofInt 2) then (if ¬ (lg_cmp (S.2.1 265 11) (fX12_w3 (Int32.ofInt 100) (Int32.ofInt 97) (Int32.ofInt 121))) = 0 then (if ¬ (lg_cmp (S.2.1 265 11) (fX12_w4 (Int32.ofInt 102) (Int32.ofInt 117) (Int32.ofInt 110) (Int32.ofInt 100))) = 0 then (if ¬ (lg_cmp (S.2.1 265 11) (fX12_w4 (Int32.ofInt 108) (Int32.ofInt 97) (Int32.ofInt 115) (Int32.ofInt 116))) = 0 then (if ¬ (lg_cmp (S.2.1 265 11) (fX12_w4 (Int32.ofInt 103) (Int32.ofInt 111) (Int32.ofInt 110) (Int32.ofInt 101))) = 0 then (if ¬ (lg_cmp (S.2.1 265 11) (fX12_w6 (Int32.ofInt 110) (Int32.ofInt 117) (Int32.ofInt 109) (Int32.ofInt 98) (Int32.ofInt 101) (Int32.ofInt 114))) = 0 then (if ¬ (lg_cmp (S.2.1 265 11) (fX12_w4 (Int32.ofInt 111) (Int32.ofInt 100) (Int32.ofInt 100) (Int32.ofInt 115))) = 0 then (if ¬ (lg_cmp (S.2.1 265 11) (fX12_w6 (Int32.ofInt 112) (Int32.ofInt 101) (Int32.ofInt 114) (Int32.ofInt 105) (Int32.ofInt 111) (Int32.ofInt 100))) = 0 then (if ¬ (lg_cmp (S.2.1 265 11) (fX12_w5 (Int32.ofInt 99) (Int32.ofInt 111) (Int32.ofInt 117) (Int32.ofInt 110) (Int32.ofInt 116))) = 0 then (if ¬ (lg_cmp (S.2.1 265 11) (fX12_w5 (Int32.ofInt 116) (Int32.ofInt 104) (Int32.ofInt 105) (Int32.ofInt 110) (Int32.ofInt 103))) = 0 then some (Int32.ofInt (-1)) else some (Int32.ofInt 8)) else some (Int32.ofInt 7)) else some (Int32.ofInt 6)) else some (Int32.ofInt 5)) else some (Int32.ofInt 4)) else some (Int32.ofInt 3)) else some (Int32.ofInt 2)) else some (Int32.ofInt 1)) else some (Int32.ofInt 0)) else some (Int32.ofInt (-1)))
set_option maxRecDepth 4000 in
theorem tX12_nameOf {ro : xRo} {T : yK} {S : yS} {d : Nat} {q : Int32} (hf : fX12_nameOf  S = some q) : yEv ro xNo (yKx T) (d + 6) jX12_nameOf [.ref 265] S (some (.int q)) S := by
  refine ry_meth pX12_nameOf rfl (fun z => ?_)
  unfold fX12_nameOf at hf
  iterate 4 (refine ry_step rfl rfl ?_)
  refine ry_br hf (fun hc hf => ?_) (fun hc hf => ?_)
  · iterate 5 (refine ry_step rfl rfl ?_)
    refine ry_call rfl rfl rfl rfl rfl tX12_w3 ?_
    iterate 2 (refine ry_step rfl rfl ?_)
    refine ry_br hf (fun hc hf => ?_) (fun hc hf => ?_)
    · iterate 6 (refine ry_step rfl rfl ?_)
      refine ry_call rfl rfl rfl rfl rfl tX12_w4 ?_
      iterate 2 (refine ry_step rfl rfl ?_)
      refine ry_br hf (fun hc hf => ?_) (fun hc hf => ?_)
      · iterate 6 (refine ry_step rfl rfl ?_)
        refine ry_call rfl rfl rfl rfl rfl tX12_w4 ?_
        iterate 2 (refine ry_step rfl rfl ?_)
        refine ry_br hf (fun hc hf => ?_) (fun hc hf => ?_)
        · iterate 6 (refine ry_step rfl rfl ?_)
          refine ry_call rfl rfl rfl rfl rfl tX12_w4 ?_
          iterate 2 (refine ry_step rfl rfl ?_)
          refine ry_br hf (fun hc hf => ?_) (fun hc hf => ?_)
          · iterate 8 (refine ry_step rfl rfl ?_)
            refine ry_call rfl rfl rfl rfl rfl tX12_w6 ?_
            iterate 2 (refine ry_step rfl rfl ?_)
            refine ry_br hf (fun hc hf => ?_) (fun hc hf => ?_)
            · iterate 6 (refine ry_step rfl rfl ?_)
              refine ry_call rfl rfl rfl rfl rfl tX12_w4 ?_
              iterate 2 (refine ry_step rfl rfl ?_)
              refine ry_br hf (fun hc hf => ?_) (fun hc hf => ?_)
              · iterate 8 (refine ry_step rfl rfl ?_)
                refine ry_call rfl rfl rfl rfl rfl tX12_w6 ?_
                iterate 2 (refine ry_step rfl rfl ?_)
                refine ry_br hf (fun hc hf => ?_) (fun hc hf => ?_)
                · iterate 7 (refine ry_step rfl rfl ?_)
                  refine ry_call rfl rfl rfl rfl rfl tX12_w5 ?_
                  iterate 2 (refine ry_step rfl rfl ?_)
                  refine ry_br hf (fun hc hf => ?_) (fun hc hf => ?_)
                  · iterate 7 (refine ry_step rfl rfl ?_)
                    refine ry_call rfl rfl rfl rfl rfl tX12_w5 ?_
                    iterate 2 (refine ry_step rfl rfl ?_)
                    refine ry_br hf (fun hc hf => ?_) (fun hc hf => ?_)
                    · refine ry_step rfl rfl ?_
                      cases hf
                      exact ry_ret rfl rfl
                    · iterate 2 (refine ry_step rfl rfl ?_)
                      cases hf
                      exact ry_ret rfl rfl
                  · iterate 2 (refine ry_step rfl rfl ?_)
                    cases hf
                    exact ry_ret rfl rfl
                · refine ry_step rfl rfl ?_
                  cases hf
                  exact ry_ret rfl rfl
              · refine ry_step rfl rfl ?_
                cases hf
                exact ry_ret rfl rfl
            · refine ry_step rfl rfl ?_
              cases hf
              exact ry_ret rfl rfl
          · refine ry_step rfl rfl ?_
            cases hf
            exact ry_ret rfl rfl
        · refine ry_step rfl rfl ?_
          cases hf
          exact ry_ret rfl rfl
      · refine ry_step rfl rfl ?_
        cases hf
        exact ry_ret rfl rfl
    · refine ry_step rfl rfl ?_
      cases hf
      exact ry_ret rfl rfl
  · refine ry_step rfl rfl ?_
    cases hf
    exact ry_ret rfl rfl
def fX12_isOf (v0 : Int32) (S : yS) : Option Int32 := (if v0 < (Int32.ofInt 4) then some (Int32.ofInt 1) else (if (Int32.ofInt 7) ≤ v0 then (if ¬ (S.1 265 14) = (Int32.ofInt 1) then some (Int32.ofInt 0) else some (Int32.ofInt 1)) else (if ¬ (S.1 265 14) = 0 then some (Int32.ofInt 0) else some (Int32.ofInt 1))))
set_option maxRecDepth 4000 in
theorem tX12_isOf {ro : xRo} {T : yK} {S : yS} {d : Nat} {v0 : Int32} {q : Int32} (hf : fX12_isOf v0 S = some q) : yEv ro xNo (yKx T) (d + 1) jX12_isOf [.ref 265, .int v0] S (some (.int q)) S := by
  refine ry_meth pX12_isOf rfl (fun z => ?_)
  unfold fX12_isOf at hf
  iterate 3 (refine ry_step rfl rfl ?_)
  refine ry_br hf (fun hc hf => ?_) (fun hc hf => ?_)
  · iterate 2 (refine ry_step rfl rfl ?_)
    cases hf
    exact ry_ret rfl rfl
  · iterate 3 (refine ry_step rfl rfl ?_)
    refine ry_br hf (fun hc hf => ?_) (fun hc hf => ?_)
    · iterate 4 (refine ry_step rfl rfl ?_)
      refine ry_br hf (fun hc hf => ?_) (fun hc hf => ?_)
      · refine ry_step rfl rfl ?_
        cases hf
        exact ry_ret rfl rfl
      · iterate 2 (refine ry_step rfl rfl ?_)
        cases hf
        exact ry_ret rfl rfl
    · iterate 3 (refine ry_step rfl rfl ?_)
      refine ry_br hf (fun hc hf => ?_) (fun hc hf => ?_)
      · refine ry_step rfl rfl ?_
        cases hf
        exact ry_ret rfl rfl
      · iterate 3 (refine ry_step rfl rfl ?_)
        cases hf
        exact ry_ret rfl rfl
def lX12_settle (N : Nat) : Nat → Int32 → yS → Option yS
  | 0, _, _ => none
  | n + 1, l1, S => (if (S.1 265 16) ≤ 0 then some S else (ain 160 ((S.1 265 16) - (Int32.ofInt 1))).bind fun j1 => (if (fX12_rank (S.2.2.1 270 j1)) < l1 then some S else pSt (ySi S 265 16 ((S.1 265 16) - (Int32.ofInt 1))) fun S2 => (ain 160 (S2.1 265 16)).bind fun j3 => (fX12_emit (S2.2.2.1 270 j3) (Int32.ofInt 0) S2).bind fun S5 => (ain 160 (S5.1 265 16)).bind fun j6 => (if (fX12_rank (S5.2.2.1 270 j6)) = (Int32.ofInt 7) then pSt (ySi S5 265 17 ((S5.1 265 17) - (Int32.ofInt 1))) fun S7 => lX12_settle N n l1 S7 else (ain 160 (S5.1 265 16)).bind fun j8 => (if ¬ (S5.2.2.1 270 j8) = (Int32.ofInt 20) then lX12_settle N n l1 S5 else pSt (ySi S5 265 17 ((S5.1 265 17) - (Int32.ofInt 1))) fun S9 => lX12_settle N n l1 S9))))
set_option maxRecDepth 4000 in
theorem uX12_settle {ro : xRo} {T : yK} {d N : Nat} : ∀ n : Nat, (∀ (l1 : Int32) (S : yS) {S' : yS}, lX12_settle N n l1 S = some S' → ∀ z, Ry ro xNo (yKx T) z (d + 1) mX12_settle 0 [(0, .ref 265), (1, .int l1)] [] S (none, yH (yKx T) z S')) := by
  intro n
  induction n with
  | zero => exact (by intro _ _ _ hf; cases hf)
  | succ n ih =>
    intro l1 S S' hf z
    unfold lX12_settle at hf
    iterate 3 (refine ry_step rfl rfl ?_)
    refine ry_br hf (fun hc hf => ?_) (fun hc hf => ?_)
    · cases hf
      exact ry_ret rfl rfl
    · iterate 6 (refine ry_step rfl rfl ?_)
      refine ry_iald hf rfl rfl rfl (fun j1 hf => ?_)
      refine ry_call rfl rfl rfl rfl rfl tX12_rank ?_
      iterate 2 (refine ry_step rfl rfl ?_)
      refine ry_br hf (fun hc hf => ?_) (fun hc hf => ?_)
      · cases hf
        exact ry_ret rfl rfl
      · iterate 5 (refine ry_step rfl rfl ?_)
        refine ry_stepS hf rfl rfl (fun S2 hf => ?_)
        iterate 5 (refine ry_step rfl rfl ?_)
        refine ry_iald hf rfl rfl rfl (fun j3 hf => ?_)
        refine ry_step rfl rfl ?_
        obtain ⟨S5, hv4, hf⟩ := Option.bind_eq_some_iff.mp hf
        refine ry_call rfl rfl rfl rfl rfl (tX12_emit hv4) ?_
        iterate 4 (refine ry_step rfl rfl ?_)
        refine ry_iald hf rfl rfl rfl (fun j6 hf => ?_)
        refine ry_call rfl rfl rfl rfl rfl tX12_rank ?_
        iterate 2 (refine ry_step rfl rfl ?_)
        refine ry_br hf (fun hc hf => ?_) (fun hc hf => ?_)
        · iterate 5 (refine ry_step rfl rfl ?_)
          refine ry_stepS hf rfl rfl (fun S7 hf => ?_)
          refine ry_step rfl rfl ?_
          refine ry_sub [0, 1] rfl rfl ?_
          exact ih l1 S7 hf _
        · iterate 4 (refine ry_step rfl rfl ?_)
          refine ry_iald hf rfl rfl rfl (fun j8 hf => ?_)
          iterate 2 (refine ry_step rfl rfl ?_)
          refine ry_br hf (fun hc hf => ?_) (fun hc hf => ?_)
          · refine ry_sub [0, 1] rfl rfl ?_
            exact ih l1 S5 hf _
          · iterate 5 (refine ry_step rfl rfl ?_)
            refine ry_stepS hf rfl rfl (fun S9 hf => ?_)
            refine ry_step rfl rfl ?_
            refine ry_sub [0, 1] rfl rfl ?_
            exact ih l1 S9 hf _
def fX12_settle (N : Nat) (v0 : Int32) (S : yS) : Option yS := lX12_settle N N v0 S
set_option maxRecDepth 4000 in
theorem tX12_settle {ro : xRo} {T : yK} {S : yS} {d N : Nat} {v0 : Int32} {S' : yS} (hf : fX12_settle N v0 S = some S') : yEv ro xNo (yKx T) (d + 2) jX12_settle [.ref 265, .int v0] S (none) S' := by
  refine ry_meth pX12_settle rfl (fun z => ?_)
  unfold fX12_settle at hf
  refine ry_sub [0, 1] rfl rfl ?_
  exact uX12_settle (ro := ro) _ v0 S hf _
def lX12_openAt (N : Nat) : Nat → Int32 → yS → Option Int32
  | 0, _, _ => none
  | n + 1, l1, S => (if l1 < 0 then some l1 else (ain 160 l1).bind fun j2 => (if (Int32.ofInt 40) ≤ (S.2.2.1 270 j2) then some l1 else lX12_openAt N n (l1 + (Int32.ofInt (-1))) S))
set_option maxRecDepth 4000 in
theorem uX12_openAt {ro : xRo} {T : yK} {d N : Nat} : ∀ n : Nat, (∀ (l1 : Int32) (S : yS) {q : Int32}, lX12_openAt N n l1 S = some q → ∀ z, Ry ro xNo (yKx T) z (d + 0) mX12_openAt 7 [(0, .ref 265), (1, .int l1)] [] S (some (.int q), yH (yKx T) z S)) := by
  intro n
  induction n with
  | zero => exact (by intro _ _ _ hf; cases hf)
  | succ n ih =>
    intro l1 S q hf z
    unfold lX12_openAt at hf
    iterate 2 (refine ry_step rfl rfl ?_)
    refine ry_br hf (fun hc hf => ?_) (fun hc hf => ?_)
    · refine ry_step rfl rfl ?_
      cases hf
      exact ry_ret rfl rfl
    · iterate 3 (refine ry_step rfl rfl ?_)
      refine ry_iald hf rfl rfl rfl (fun j2 hf => ?_)
      iterate 2 (refine ry_step rfl rfl ?_)
      refine ry_br hf (fun hc hf => ?_) (fun hc hf => ?_)
      · refine ry_step rfl rfl ?_
        cases hf
        exact ry_ret rfl rfl
      · iterate 2 (refine ry_step rfl rfl ?_)
        refine ry_sub [1, 0] rfl rfl ?_
        exact ih (l1 + (Int32.ofInt (-1))) S hf _
def fX12_openAt (N : Nat) (S : yS) : Option Int32 := pSt ((S.1 265 16) - (Int32.ofInt 1)) fun w1 => lX12_openAt N N w1 S
set_option maxRecDepth 4000 in
theorem tX12_openAt {ro : xRo} {T : yK} {S : yS} {d N : Nat} {q : Int32} (hf : fX12_openAt N  S = some q) : yEv ro xNo (yKx T) (d + 1) jX12_openAt [.ref 265] S (some (.int q)) S := by
  refine ry_meth pX12_openAt rfl (fun z => ?_)
  unfold fX12_openAt at hf
  iterate 4 (refine ry_step rfl rfl ?_)
  refine ry_nmi hf (fun w1 hf => ?_)
  refine ry_step rfl rfl ?_
  refine ry_sub [1, 0] rfl rfl ?_
  exact uX12_openAt (ro := ro) _ w1 S hf _
