/-! ===== methods as functions, and their walks, by program ===== -/
def lX12_layFigures (N : Nat) : Nat → Nat → Int32 → Int32 → Int32 → Int32 → Int32 → Int32 → yS → Option (Int32 × yS)
  | 0, _, _, _, _, _, _, _, _ => none
  | n + 1, m, l1, l2, l3, l4, l5, l6, S => if m = 0 then (if l2 ≤ l4 then lX12_layFigures N n 3 0 0 l3 0 0 0 S else lX12_layFigures N n 1 l1 l2 l3 l4 (Int32.ofInt 0) (Int32.ofInt 0) S) else if m = 1 then (if l3 ≤ l6 then lX12_layFigures N n 2 l1 l2 l3 l4 l5 0 S else (ain 104 l6).bind fun j2 => pSt (l5 + ((S.2.2.1 279 j2) * l1)) fun w3 => (ain 104 l6).bind fun j5 => pSt (ySa S 279 (upd (S.2.2.1 279) j5 (w3 - w3 / (Int32.ofInt 10) * (Int32.ofInt 10)))) fun S4 => lX12_layFigures N n 1 l1 l2 l3 l4 (w3 / (Int32.ofInt 10)) (l6 + (Int32.ofInt 1)) S4) else if m = 2 then (if l5 ≤ 0 then lX12_layFigures N n 0 l1 l2 l3 (l4 + (Int32.ofInt 1)) 0 0 S else (ain 104 l3).bind fun j7 => pSt (ySa S 279 (upd (S.2.2.1 279) j7 (l5 - l5 / (Int32.ofInt 10) * (Int32.ofInt 10)))) fun S6 => lX12_layFigures N n 2 l1 l2 (l3 + (Int32.ofInt 1)) l4 (l5 / (Int32.ofInt 10)) 0 S6) else (if l3 ≤ (Int32.ofInt 1) then some (l3, S) else (ain 104 (l3 - (Int32.ofInt 1))).bind fun j8 => (if ¬ (S.2.2.1 279 j8) = 0 then some (l3, S) else lX12_layFigures N n 3 0 0 (l3 + (Int32.ofInt (-1))) 0 0 0 S))
set_option maxRecDepth 4000 in
theorem uX12_layFigures {ro : xRo} {T : yK} {d N : Nat} : ∀ n : Nat, (∀ (l1 : Int32) (l2 : Int32) (l3 : Int32) (l4 : Int32) (l5 : Int32) (l6 : Int32) (S : yS) {q : Int32} {S' : yS}, lX12_layFigures N n 0 l1 l2 l3 l4 l5 l6 S = some (q, S') → ∀ z, Ry ro xNo (yKx T) z (d + 0) mX12_layFigures 12 [(0, .ref 265), (1, .int l1), (2, .int l2), (3, .int l3), (4, .int l4)] [] S (some (.int q), yH (yKx T) z S')) ∧ (∀ (l1 : Int32) (l2 : Int32) (l3 : Int32) (l4 : Int32) (l5 : Int32) (l6 : Int32) (S : yS) {q : Int32} {S' : yS}, lX12_layFigures N n 1 l1 l2 l3 l4 l5 l6 S = some (q, S') → ∀ z, Ry ro xNo (yKx T) z (d + 0) mX12_layFigures 24 [(0, .ref 265), (1, .int l1), (2, .int l2), (3, .int l3), (4, .int l4), (5, .int l5), (6, .int l6)] [] S (some (.int q), yH (yKx T) z S')) ∧ (∀ (l1 : Int32) (l2 : Int32) (l3 : Int32) (l4 : Int32) (l5 : Int32) (l6 : Int32) (S : yS) {q : Int32} {S' : yS}, lX12_layFigures N n 2 l1 l2 l3 l4 l5 l6 S = some (q, S') → ∀ z, Ry ro xNo (yKx T) z (d + 0) mX12_layFigures 69 [(0, .ref 265), (1, .int l1), (2, .int l2), (3, .int l3), (4, .int l4), (5, .int l5)] [] S (some (.int q), yH (yKx T) z S')) ∧ (∀ (l1 : Int32) (l2 : Int32) (l3 : Int32) (l4 : Int32) (l5 : Int32) (l6 : Int32) (S : yS) {q : Int32} {S' : yS}, lX12_layFigures N n 3 l1 l2 l3 l4 l5 l6 S = some (q, S') → ∀ z, Ry ro xNo (yKx T) z (d + 0) mX12_layFigures 104 [(0, .ref 265), (3, .int l3)] [] S (some (.int q), yH (yKx T) z S')) := by
  intro n
  induction n with
  | zero => exact ⟨(by intro _ _ _ _ _ _ _ _ _ hf; cases hf), (by intro _ _ _ _ _ _ _ _ _ hf; cases hf), (by intro _ _ _ _ _ _ _ _ _ hf; cases hf), (by intro _ _ _ _ _ _ _ _ _ hf; cases hf)⟩
  | succ n ih =>
    refine ⟨?_, ?_, ?_, ?_⟩
    · intro l1 l2 l3 l4 l5 l6 S q S' hf z
      unfold lX12_layFigures at hf
      rw [if_pos rfl] at hf
      iterate 3 (refine ry_step rfl rfl ?_)
      refine ry_br hf (fun hc hf => ?_) (fun hc hf => ?_)
      · refine ry_sub [0, 3] rfl rfl ?_
        exact ih.2.2.2 0 0 l3 0 0 0 S hf _
      · iterate 4 (refine ry_step rfl rfl ?_)
        refine ry_sub [2, 3, 4, 5, 6, 1, 0] rfl rfl ?_
        exact ih.2.1 l1 l2 l3 l4 (Int32.ofInt 0) (Int32.ofInt 0) S hf _
    · intro l1 l2 l3 l4 l5 l6 S q S' hf z
      unfold lX12_layFigures at hf
      rw [if_neg (by decide)] at hf; rw [if_pos rfl] at hf
      iterate 3 (refine ry_step rfl rfl ?_)
      refine ry_br hf (fun hc hf => ?_) (fun hc hf => ?_)
      · refine ry_sub [0, 1, 2, 3, 4, 5] rfl rfl ?_
        exact ih.2.2.1 l1 l2 l3 l4 l5 0 S hf _
      · iterate 4 (refine ry_step rfl rfl ?_)
        refine ry_iald hf rfl rfl rfl (fun j2 hf => ?_)
        iterate 3 (refine ry_step rfl rfl ?_)
        refine ry_nmi hf (fun w3 hf => ?_)
        iterate 7 (refine ry_step rfl rfl ?_)
        refine ry_iast hf rfl rfl (fun j5 S4 hf => ?_)
        iterate 6 (refine ry_step rfl rfl ?_)
        refine ry_sub [2, 3, 4, 5, 6, 1, 0] rfl rfl ?_
        exact ih.2.1 l1 l2 l3 l4 (w3 / (Int32.ofInt 10)) (l6 + (Int32.ofInt 1)) S4 hf _
    · intro l1 l2 l3 l4 l5 l6 S q S' hf z
      unfold lX12_layFigures at hf
      rw [if_neg (by decide)] at hf; rw [if_neg (by decide)] at hf; rw [if_pos rfl] at hf
      iterate 2 (refine ry_step rfl rfl ?_)
      refine ry_br hf (fun hc hf => ?_) (fun hc hf => ?_)
      · iterate 2 (refine ry_step rfl rfl ?_)
        refine ry_sub [1, 2, 3, 4, 0] rfl rfl ?_
        exact ih.1 l1 l2 l3 (l4 + (Int32.ofInt 1)) 0 0 S hf _
      · iterate 6 (refine ry_step rfl rfl ?_)
        refine ry_iast hf rfl rfl (fun j7 S6 hf => ?_)
        iterate 6 (refine ry_step rfl rfl ?_)
        refine ry_sub [2, 3, 4, 0, 5, 1] rfl rfl ?_
        exact ih.2.2.1 l1 l2 (l3 + (Int32.ofInt 1)) l4 (l5 / (Int32.ofInt 10)) 0 S6 hf _
    · intro l1 l2 l3 l4 l5 l6 S q S' hf z
      unfold lX12_layFigures at hf
      rw [if_neg (by decide)] at hf; rw [if_neg (by decide)] at hf; rw [if_neg (by decide)] at hf; skip
      iterate 3 (refine ry_step rfl rfl ?_)
      refine ry_br hf (fun hc hf => ?_) (fun hc hf => ?_)
      · refine ry_step rfl rfl ?_
        cases hf
        exact ry_ret rfl rfl
      · iterate 5 (refine ry_step rfl rfl ?_)
        refine ry_iald hf rfl rfl rfl (fun j8 hf => ?_)
        refine ry_step rfl rfl ?_
        refine ry_br hf (fun hc hf => ?_) (fun hc hf => ?_)
        · refine ry_step rfl rfl ?_
          cases hf
          exact ry_ret rfl rfl
        · iterate 2 (refine ry_step rfl rfl ?_)
          refine ry_sub [1, 0] rfl rfl ?_
          exact ih.2.2.2 0 0 (l3 + (Int32.ofInt (-1))) 0 0 0 S hf _
def fX12_layFigures (N : Nat) (v0 : Int32) (v1 : Int32) (S : yS) : Option (Int32 × yS) := pSt (ySa S 279 (upd (S.2.2.1 279) 0 (Int32.ofInt 1))) fun S1 => lX12_layFigures N N 0 v0 v1 (Int32.ofInt 1) (Int32.ofInt 0) 0 0 S1
set_option maxRecDepth 4000 in
theorem tX12_layFigures {ro : xRo} {T : yK} {S : yS} {d N : Nat} {v0 : Int32} {v1 : Int32} {q : Int32} {S' : yS} (hf : fX12_layFigures N v0 v1 S = some (q, S')) : yEv ro xNo (yKx T) (d + 1) jX12_layFigures [.ref 265, .int v0, .int v1] S (some (.int q)) S' := by
  refine ry_meth pX12_layFigures rfl (fun z => ?_)
  unfold fX12_layFigures at hf
  iterate 6 (refine ry_step rfl rfl ?_)
  refine ry_stepS hf rfl rfl (fun S1 hf => ?_)
  iterate 2 (refine ry_step rfl rfl ?_)
  refine ry_sub [2, 3, 4, 1, 0] rfl rfl ?_
  exact (uX12_layFigures (ro := ro) _).1 v0 v1 (Int32.ofInt 1) (Int32.ofInt 0) 0 0 S1 hf _
def fX12_digits (N : Nat) (v0 : Int32) (v1 : Int32) (S : yS) : Option (Int32 × yS) := (if (fX12_areTimes v0 v1) = 0 then some ((Int32.ofInt (-1)), S) else (fX12_layFigures N v0 v1 S).bind fun (u3, S2) => some (u3, S2))
set_option maxRecDepth 4000 in
theorem tX12_digits {ro : xRo} {T : yK} {S : yS} {d N : Nat} {v0 : Int32} {v1 : Int32} {q : Int32} {S' : yS} (hf : fX12_digits N v0 v1 S = some (q, S')) : yEv ro xNo (yKx T) (d + 3) jX12_digits [.ref 265, .int v0, .int v1] S (some (.int q)) S' := by
  refine ry_meth pX12_digits rfl (fun z => ?_)
  unfold fX12_digits at hf
  iterate 2 (refine ry_step rfl rfl ?_)
  refine ry_call rfl rfl rfl rfl rfl tX12_areTimes ?_
  refine ry_step rfl rfl ?_
  refine ry_br hf (fun hc hf => ?_) (fun hc hf => ?_)
  · refine ry_step rfl rfl ?_
    cases hf
    exact ry_ret rfl rfl
  · iterate 3 (refine ry_step rfl rfl ?_)
    obtain ⟨⟨u3, S2⟩, hv1, hf⟩ := Option.bind_eq_some_iff.mp hf
    dsimp only at hf
    refine ry_call rfl rfl rfl rfl rfl (tX12_layFigures hv1) ?_
    refine ry_step rfl rfl ?_
    cases hf
    exact ry_ret rfl rfl
def fX12_digit (N : Nat) (v0 : Int32) (v1 : Int32) (v2 : Int32) (S : yS) : Option (Int32 × yS) := (if ¬ (fX12_areTimes v0 v1) = 0 then (fX12_layFigures N v0 v1 S).bind fun (u3, S2) => (if (fX12_isIn v2 (Int32.ofInt 0) (u3 - (Int32.ofInt 1))) = 0 then some ((Int32.ofInt (-1)), S2) else (ain 104 ((u3 - (Int32.ofInt 1)) - v2)).bind fun j4 => some ((S2.2.2.1 279 j4), S2)) else some ((Int32.ofInt (-1)), S))
set_option maxRecDepth 4000 in
theorem tX12_digit {ro : xRo} {T : yK} {S : yS} {d N : Nat} {v0 : Int32} {v1 : Int32} {v2 : Int32} {q : Int32} {S' : yS} (hf : fX12_digit N v0 v1 v2 S = some (q, S')) : yEv ro xNo (yKx T) (d + 3) jX12_digit [.ref 265, .int v0, .int v1, .int v2] S (some (.int q)) S' := by
  refine ry_meth pX12_digit rfl (fun z => ?_)
  unfold fX12_digit at hf
  iterate 2 (refine ry_step rfl rfl ?_)
  refine ry_call rfl rfl rfl rfl rfl tX12_areTimes ?_
  refine ry_step rfl rfl ?_
  refine ry_br hf (fun hc hf => ?_) (fun hc hf => ?_)
  · iterate 3 (refine ry_step rfl rfl ?_)
    obtain ⟨⟨u3, S2⟩, hv1, hf⟩ := Option.bind_eq_some_iff.mp hf
    dsimp only at hf
    refine ry_call rfl rfl rfl rfl rfl (tX12_layFigures hv1) ?_
    iterate 6 (refine ry_step rfl rfl ?_)
    refine ry_call rfl rfl rfl rfl rfl tX12_isIn ?_
    refine ry_step rfl rfl ?_
    refine ry_br hf (fun hc hf => ?_) (fun hc hf => ?_)
    · refine ry_step rfl rfl ?_
      cases hf
      exact ry_ret rfl rfl
    · iterate 7 (refine ry_step rfl rfl ?_)
      refine ry_iald hf rfl rfl rfl (fun j4 hf => ?_)
      refine ry_step rfl rfl ?_
      cases hf
      exact ry_ret rfl rfl
  · refine ry_step rfl rfl ?_
    cases hf
    exact ry_ret rfl rfl
def lX12_depth (N : Nat) : Nat → Int32 → Int32 → Int32 → yS → Option Int32
  | 0, _, _, _, _ => none
  | n + 1, l2, l3, l4, S => (if l2 ≤ l4 then some l3 else pSt ((l3 * (Int32.ofInt 2)) / (Int32.ofInt 3)) fun w1 => lX12_depth N n l2 w1 (l4 + (Int32.ofInt 1)) S)
set_option maxRecDepth 4000 in
theorem uX12_depth {ro : xRo} {T : yK} {d N : Nat} : ∀ n : Nat, (∀ (l2 : Int32) (l3 : Int32) (l4 : Int32) (S : yS) {q : Int32}, lX12_depth N n l2 l3 l4 S = some q → ∀ z, Ry ro xNo (yKx T) z (d + 2) mX12_depth 24 [(2, .int l2), (3, .int l3), (4, .int l4)] [] S (some (.int q), yH (yKx T) z S)) := by
  intro n
  induction n with
  | zero => exact (by intro _ _ _ _ _ hf; cases hf)
  | succ n ih =>
    intro l2 l3 l4 S q hf z
    unfold lX12_depth at hf
    iterate 3 (refine ry_step rfl rfl ?_)
    refine ry_br hf (fun hc hf => ?_) (fun hc hf => ?_)
    · refine ry_step rfl rfl ?_
      cases hf
      exact ry_ret rfl rfl
    · iterate 5 (refine ry_step rfl rfl ?_)
      refine ry_nmi hf (fun w1 hf => ?_)
      iterate 3 (refine ry_step rfl rfl ?_)
      refine ry_sub [2, 1, 0] rfl rfl ?_
      exact ih l2 w1 (l4 + (Int32.ofInt 1)) S hf _
def fX12_depth (N : Nat) (v0 : Int32) (v1 : Int32) (S : yS) : Option Int32 := (if (fX12_isGuess v0) = 0 then some (Int32.ofInt (-1)) else (if ¬ (fX12_isIn v1 (Int32.ofInt 0) (Int32.ofInt 99)) = 0 then lX12_depth N N v1 v0 (Int32.ofInt 0) S else some (Int32.ofInt (-1))))
set_option maxRecDepth 4000 in
theorem tX12_depth {ro : xRo} {T : yK} {S : yS} {d N : Nat} {v0 : Int32} {v1 : Int32} {q : Int32} (hf : fX12_depth N v0 v1 S = some q) : yEv ro xNo (yKx T) (d + 3) jX12_depth [.ref 265, .int v0, .int v1] S (some (.int q)) S := by
  refine ry_meth pX12_depth rfl (fun z => ?_)
  unfold fX12_depth at hf
  refine ry_step rfl rfl ?_
  refine ry_call rfl rfl rfl rfl rfl tX12_isGuess ?_
  refine ry_step rfl rfl ?_
  refine ry_br hf (fun hc hf => ?_) (fun hc hf => ?_)
  · refine ry_step rfl rfl ?_
    cases hf
    exact ry_ret rfl rfl
  · iterate 3 (refine ry_step rfl rfl ?_)
    refine ry_call rfl rfl rfl rfl rfl tX12_isIn ?_
    refine ry_step rfl rfl ?_
    refine ry_br hf (fun hc hf => ?_) (fun hc hf => ?_)
    · iterate 4 (refine ry_step rfl rfl ?_)
      refine ry_sub [4, 1, 0] rfl rfl ?_
      exact uX12_depth (ro := ro) _ v1 v0 (Int32.ofInt 0) S hf _
    · refine ry_step rfl rfl ?_
      cases hf
      exact ry_ret rfl rfl
def lX12_rests (N : Nat) : Nat → Int32 → Int32 → yS → Option Int32
  | 0, _, _, _ => none
  | n + 1, l1, l2, S => (fX12_depth N l1 l2 S).bind fun u2 => (fX12_depth N l1 (l2 + (Int32.ofInt 1)) S).bind fun u4 => (if u2 = u4 then some l2 else lX12_rests N n l1 (l2 + (Int32.ofInt 1)) S)
set_option maxRecDepth 4000 in
theorem uX12_rests {ro : xRo} {T : yK} {d N : Nat} : ∀ n : Nat, (∀ (l1 : Int32) (l2 : Int32) (S : yS) {q : Int32}, lX12_rests N n l1 l2 S = some q → ∀ z, Ry ro xNo (yKx T) z (d + 3) mX12_rests 11 [(0, .ref 265), (1, .int l1), (2, .int l2)] [] S (some (.int q), yH (yKx T) z S)) := by
  intro n
  induction n with
  | zero => exact (by intro _ _ _ _ hf; cases hf)
  | succ n ih =>
    intro l1 l2 S q hf z
    unfold lX12_rests at hf
    iterate 3 (refine ry_step rfl rfl ?_)
    obtain ⟨u2, hv1, hf⟩ := Option.bind_eq_some_iff.mp hf
    refine ry_call rfl rfl rfl rfl rfl (tX12_depth hv1) ?_
    iterate 5 (refine ry_step rfl rfl ?_)
    obtain ⟨u4, hv3, hf⟩ := Option.bind_eq_some_iff.mp hf
    refine ry_call rfl rfl rfl rfl rfl (tX12_depth hv3) ?_
    refine ry_step rfl rfl ?_
    refine ry_br hf (fun hc hf => ?_) (fun hc hf => ?_)
    · refine ry_step rfl rfl ?_
      cases hf
      exact ry_ret rfl rfl
    · iterate 2 (refine ry_step rfl rfl ?_)
      refine ry_sub [1, 2, 0] rfl rfl ?_
      exact ih l1 (l2 + (Int32.ofInt 1)) S hf _
def fX12_rests (N : Nat) (v0 : Int32) (S : yS) : Option Int32 := (if ¬ (fX12_isGuess v0) = 0 then lX12_rests N N v0 (Int32.ofInt 0) S else some (Int32.ofInt (-1)))
set_option maxRecDepth 4000 in
theorem tX12_rests {ro : xRo} {T : yK} {S : yS} {d N : Nat} {v0 : Int32} {q : Int32} (hf : fX12_rests N v0 S = some q) : yEv ro xNo (yKx T) (d + 4) jX12_rests [.ref 265, .int v0] S (some (.int q)) S := by
  refine ry_meth pX12_rests rfl (fun z => ?_)
  unfold fX12_rests at hf
  refine ry_step rfl rfl ?_
  refine ry_call rfl rfl rfl rfl rfl tX12_isGuess ?_
  refine ry_step rfl rfl ?_
  refine ry_br hf (fun hc hf => ?_) (fun hc hf => ?_)
  · iterate 2 (refine ry_step rfl rfl ?_)
    refine ry_sub [1, 2, 0] rfl rfl ?_
    exact uX12_rests (ro := ro) _ v0 (Int32.ofInt 0) S hf _
  · refine ry_step rfl rfl ?_
    cases hf
    exact ry_ret rfl rfl
def lX12_takeOf (N : Nat) : Nat → Int32 → Int32 → Int32 → yS → Option Int32
  | 0, _, _, _, _ => none
  | n + 1, l1, l2, l3, S => (if l2 < l3 then some (Int32.ofInt (-1)) else (if l1 < l3 then some (Int32.ofInt (-1)) else (ain 3321 (fX12_winAt (l1 - l3) ((Int32.ofInt 2) * l3))).bind fun j1 => (if ¬ (S.2.2.1 280 j1) = 0 then lX12_takeOf N n l1 l2 (l3 + (Int32.ofInt 1)) S else some l3)))
set_option maxRecDepth 4000 in
theorem uX12_takeOf {ro : xRo} {T : yK} {d N : Nat} : ∀ n : Nat, (∀ (l1 : Int32) (l2 : Int32) (l3 : Int32) (S : yS) {q : Int32}, lX12_takeOf N n l1 l2 l3 S = some q → ∀ z, Ry ro xNo (yKx T) z (d + 1) mX12_takeOf 2 [(0, .ref 265), (1, .int l1), (2, .int l2), (3, .int l3)] [] S (some (.int q), yH (yKx T) z S)) := by
  intro n
  induction n with
  | zero => exact (by intro _ _ _ _ _ hf; cases hf)
  | succ n ih =>
    intro l1 l2 l3 S q hf z
    unfold lX12_takeOf at hf
    iterate 3 (refine ry_step rfl rfl ?_)
    refine ry_br hf (fun hc hf => ?_) (fun hc hf => ?_)
    · refine ry_step rfl rfl ?_
      cases hf
      exact ry_ret rfl rfl
    · iterate 3 (refine ry_step rfl rfl ?_)
      refine ry_br hf (fun hc hf => ?_) (fun hc hf => ?_)
      · refine ry_step rfl rfl ?_
        cases hf
        exact ry_ret rfl rfl
      · iterate 8 (refine ry_step rfl rfl ?_)
        refine ry_call rfl rfl rfl rfl rfl tX12_winAt ?_
        refine ry_zald hf rfl rfl rfl (fun j1 hf => ?_)
        refine ry_step rfl rfl ?_
        refine ry_br hf (fun hc hf => ?_) (fun hc hf => ?_)
        · iterate 2 (refine ry_step rfl rfl ?_)
          refine ry_sub [1, 2, 3, 0] rfl rfl ?_
          exact ih l1 l2 (l3 + (Int32.ofInt 1)) S hf _
        · refine ry_step rfl rfl ?_
          cases hf
          exact ry_ret rfl rfl
def fX12_takeOf (N : Nat) (v0 : Int32) (v1 : Int32) (S : yS) : Option Int32 := lX12_takeOf N N v0 v1 (Int32.ofInt 1) S
set_option maxRecDepth 4000 in
theorem tX12_takeOf {ro : xRo} {T : yK} {S : yS} {d N : Nat} {v0 : Int32} {v1 : Int32} {q : Int32} (hf : fX12_takeOf N v0 v1 S = some q) : yEv ro xNo (yKx T) (d + 2) jX12_takeOf [.ref 265, .int v0, .int v1] S (some (.int q)) S := by
  refine ry_meth pX12_takeOf rfl (fun z => ?_)
  unfold fX12_takeOf at hf
  iterate 2 (refine ry_step rfl rfl ?_)
  refine ry_sub [1, 2, 3, 0] rfl rfl ?_
  exact uX12_takeOf (ro := ro) _ v0 v1 (Int32.ofInt 1) S hf _
def lX12_layWins (N : Nat) : Nat → Nat → Int32 → Int32 → Int32 → yS → Option yS
  | 0, _, _, _, _, _ => none
  | n + 1, m, l1, l2, l3, S => if m = 0 then (if l1 ≤ l2 then some S else lX12_layWins N n 1 l1 l2 (Int32.ofInt 0) S) else (if (Int32.ofInt 80) < l3 then lX12_layWins N n 0 l1 (l2 + (Int32.ofInt 1)) 0 S else (fX12_takeOf N l2 l3 S).bind fun u2 => (if u2 = (Int32.ofInt (-1)) then (ain 3321 (fX12_winAt l2 l3)).bind fun j4 => if (Int32.ofInt 0) = 0 ∨ (Int32.ofInt 0) = 1 then pSt (ySa S 280 (upd (S.2.2.1 280) j4 (Int32.ofInt 0))) fun S3 => lX12_layWins N n 1 l1 l2 (l3 + (Int32.ofInt 1)) S3 else none else (ain 3321 (fX12_winAt l2 l3)).bind fun j6 => if (Int32.ofInt 1) = 0 ∨ (Int32.ofInt 1) = 1 then pSt (ySa S 280 (upd (S.2.2.1 280) j6 (Int32.ofInt 1))) fun S5 => lX12_layWins N n 1 l1 l2 (l3 + (Int32.ofInt 1)) S5 else none))
set_option maxRecDepth 4000 in
theorem uX12_layWins {ro : xRo} {T : yK} {d N : Nat} : ∀ n : Nat, (∀ (l1 : Int32) (l2 : Int32) (l3 : Int32) (S : yS) {S' : yS}, lX12_layWins N n 0 l1 l2 l3 S = some S' → ∀ z, Ry ro xNo (yKx T) z (d + 2) mX12_layWins 2 [(0, .ref 265), (1, .int l1), (2, .int l2)] [] S (none, yH (yKx T) z S')) ∧ (∀ (l1 : Int32) (l2 : Int32) (l3 : Int32) (S : yS) {S' : yS}, lX12_layWins N n 1 l1 l2 l3 S = some S' → ∀ z, Ry ro xNo (yKx T) z (d + 2) mX12_layWins 9 [(0, .ref 265), (1, .int l1), (2, .int l2), (3, .int l3)] [] S (none, yH (yKx T) z S')) := by
  intro n
  induction n with
  | zero => exact ⟨(by intro _ _ _ _ _ hf; cases hf), (by intro _ _ _ _ _ hf; cases hf)⟩
  | succ n ih =>
    refine ⟨?_, ?_⟩
    · intro l1 l2 l3 S S' hf z
      unfold lX12_layWins at hf
      rw [if_pos rfl] at hf
      iterate 3 (refine ry_step rfl rfl ?_)
      refine ry_br hf (fun hc hf => ?_) (fun hc hf => ?_)
      · cases hf
        exact ry_ret rfl rfl
      · iterate 2 (refine ry_step rfl rfl ?_)
        refine ry_sub [1, 2, 3, 0] rfl rfl ?_
        exact ih.2 l1 l2 (Int32.ofInt 0) S hf _
    · intro l1 l2 l3 S S' hf z
      unfold lX12_layWins at hf
      rw [if_neg (by decide)] at hf; skip
      iterate 3 (refine ry_step rfl rfl ?_)
      refine ry_br hf (fun hc hf => ?_) (fun hc hf => ?_)
      · iterate 2 (refine ry_step rfl rfl ?_)
        refine ry_sub [1, 2, 0] rfl rfl ?_
        exact ih.1 l1 (l2 + (Int32.ofInt 1)) 0 S hf _
      · iterate 4 (refine ry_step rfl rfl ?_)
        refine ry_call rfl rfl rfl rfl rfl tX12_winAt ?_
        iterate 3 (refine ry_step rfl rfl ?_)
        obtain ⟨u2, hv1, hf⟩ := Option.bind_eq_some_iff.mp hf
        refine ry_call rfl rfl rfl rfl rfl (tX12_takeOf hv1) ?_
        iterate 2 (refine ry_step rfl rfl ?_)
        refine ry_br hf (fun hc hf => ?_) (fun hc hf => ?_)
        · refine ry_step rfl rfl ?_
          refine ry_zast (E := fun j4 S3 => lX12_layWins N n 1 l1 l2 (l3 + (Int32.ofInt 1)) S3) hf rfl rfl (fun j4 S3 hf => ?_)
          iterate 2 (refine ry_step rfl rfl ?_)
          refine ry_sub [1, 2, 3, 0] rfl rfl ?_
          exact ih.2 l1 l2 (l3 + (Int32.ofInt 1)) S3 hf _
        · iterate 2 (refine ry_step rfl rfl ?_)
          refine ry_zast (E := fun j6 S5 => lX12_layWins N n 1 l1 l2 (l3 + (Int32.ofInt 1)) S5) hf rfl rfl (fun j6 S5 hf => ?_)
          iterate 2 (refine ry_step rfl rfl ?_)
          refine ry_sub [1, 2, 3, 0] rfl rfl ?_
          exact ih.2 l1 l2 (l3 + (Int32.ofInt 1)) S5 hf _
def fX12_layWins (N : Nat) (v0 : Int32) (S : yS) : Option yS := lX12_layWins N N 0 v0 (Int32.ofInt 0) 0 S
set_option maxRecDepth 4000 in
theorem tX12_layWins {ro : xRo} {T : yK} {S : yS} {d N : Nat} {v0 : Int32} {S' : yS} (hf : fX12_layWins N v0 S = some S') : yEv ro xNo (yKx T) (d + 3) jX12_layWins [.ref 265, .int v0] S (none) S' := by
  refine ry_meth pX12_layWins rfl (fun z => ?_)
  unfold fX12_layWins at hf
  iterate 2 (refine ry_step rfl rfl ?_)
  refine ry_sub [1, 2, 0] rfl rfl ?_
  exact (uX12_layWins (ro := ro) _).1 v0 (Int32.ofInt 0) 0 S hf _
def fX12_game (N : Nat) (v0 : Int32) (S : yS) : Option (Int32 × yS) := (if ¬ (fX12_isIn v0 (Int32.ofInt 0) (Int32.ofInt 40)) = 0 then (fX12_layWins N v0 S).bind fun S2 => (if v0 = (Int32.ofInt 1) then some ((Int32.ofInt 1), S2) else (fX12_takeOf N v0 (v0 - (Int32.ofInt 1)) S2).bind fun u4 => (if u4 = (Int32.ofInt (-1)) then some ((Int32.ofInt 0), S2) else some ((Int32.ofInt 1), S2))) else some ((Int32.ofInt (-1)), S))
set_option maxRecDepth 4000 in
theorem tX12_game {ro : xRo} {T : yK} {S : yS} {d N : Nat} {v0 : Int32} {q : Int32} {S' : yS} (hf : fX12_game N v0 S = some (q, S')) : yEv ro xNo (yKx T) (d + 4) jX12_game [.ref 265, .int v0] S (some (.int q)) S' := by
  refine ry_meth pX12_game rfl (fun z => ?_)
  unfold fX12_game at hf
  iterate 3 (refine ry_step rfl rfl ?_)
  refine ry_call rfl rfl rfl rfl rfl tX12_isIn ?_
  refine ry_step rfl rfl ?_
  refine ry_br hf (fun hc hf => ?_) (fun hc hf => ?_)
  · iterate 2 (refine ry_step rfl rfl ?_)
    obtain ⟨S2, hv1, hf⟩ := Option.bind_eq_some_iff.mp hf
    refine ry_call rfl rfl rfl rfl rfl (tX12_layWins hv1) ?_
    iterate 3 (refine ry_step rfl rfl ?_)
    refine ry_br hf (fun hc hf => ?_) (fun hc hf => ?_)
    · iterate 2 (refine ry_step rfl rfl ?_)
      cases hf
      exact ry_ret rfl rfl
    · iterate 5 (refine ry_step rfl rfl ?_)
      obtain ⟨u4, hv3, hf⟩ := Option.bind_eq_some_iff.mp hf
      refine ry_call rfl rfl rfl rfl rfl (tX12_takeOf hv3) ?_
      iterate 2 (refine ry_step rfl rfl ?_)
      refine ry_br hf (fun hc hf => ?_) (fun hc hf => ?_)
      · refine ry_step rfl rfl ?_
        cases hf
        exact ry_ret rfl rfl
      · iterate 2 (refine ry_step rfl rfl ?_)
        cases hf
        exact ry_ret rfl rfl
  · refine ry_step rfl rfl ?_
    cases hf
    exact ry_ret rfl rfl
def fX12_take (N : Nat) (v0 : Int32) (v1 : Int32) (S : yS) : Option (Int32 × yS) := (if (fX12_isIn v0 (Int32.ofInt 0) (Int32.ofInt 40)) = 0 then some ((Int32.ofInt (-1)), S) else (if ¬ (fX12_isIn v1 (Int32.ofInt 1) (Int32.ofInt 40)) = 0 then (fX12_layWins N v0 S).bind fun S2 => (fX12_takeOf N v0 v1 S2).bind fun u4 => some (u4, S2) else some ((Int32.ofInt (-1)), S)))
set_option maxRecDepth 4000 in
theorem tX12_take {ro : xRo} {T : yK} {S : yS} {d N : Nat} {v0 : Int32} {v1 : Int32} {q : Int32} {S' : yS} (hf : fX12_take N v0 v1 S = some (q, S')) : yEv ro xNo (yKx T) (d + 4) jX12_take [.ref 265, .int v0, .int v1] S (some (.int q)) S' := by
  refine ry_meth pX12_take rfl (fun z => ?_)
  unfold fX12_take at hf
  iterate 3 (refine ry_step rfl rfl ?_)
  refine ry_call rfl rfl rfl rfl rfl tX12_isIn ?_
  refine ry_step rfl rfl ?_
  refine ry_br hf (fun hc hf => ?_) (fun hc hf => ?_)
  · refine ry_step rfl rfl ?_
    cases hf
    exact ry_ret rfl rfl
  · iterate 3 (refine ry_step rfl rfl ?_)
    refine ry_call rfl rfl rfl rfl rfl tX12_isIn ?_
    refine ry_step rfl rfl ?_
    refine ry_br hf (fun hc hf => ?_) (fun hc hf => ?_)
    · iterate 2 (refine ry_step rfl rfl ?_)
      obtain ⟨S2, hv1, hf⟩ := Option.bind_eq_some_iff.mp hf
      refine ry_call rfl rfl rfl rfl rfl (tX12_layWins hv1) ?_
      iterate 3 (refine ry_step rfl rfl ?_)
      obtain ⟨u4, hv3, hf⟩ := Option.bind_eq_some_iff.mp hf
      refine ry_call rfl rfl rfl rfl rfl (tX12_takeOf hv3) ?_
      cases hf
      exact ry_ret rfl rfl
    · refine ry_step rfl rfl ?_
      cases hf
      exact ry_ret rfl rfl
def fX12_told (v0 : Int32) (v1 : Int32) (S : yS) : Option (Int32 × yS) := (if ¬ v0 = (Int32.ofInt (-1)) then (if (fX12_isCount v0) = 0 then some ((Int32.ofInt (-2)), S) else (if (fX12_isIn v1 (Int32.ofInt (-99)) (Int32.ofInt 99)) = 0 then some ((Int32.ofInt (-2)), S) else (if ¬ (S.2.2.1 266 5) = (Int32.ofInt 8) then (ain 1338 ((Int32.ofInt 92) + ((Int32.ofInt 2) * (S.2.2.1 266 5)))).bind fun j5 => pSt (ySa S 266 (upd (S.2.2.1 266) j5 v0)) fun S1 => (ain 1338 (((Int32.ofInt 92) + ((Int32.ofInt 2) * (S1.2.2.1 266 5))) + (Int32.ofInt 1))).bind fun j4 => pSt (ySa S1 266 (upd (S1.2.2.1 266) j4 v1)) fun S2 => pSt (ySa S2 266 (upd (S2.2.2.1 266) 5 ((S2.2.2.1 266 5) + (Int32.ofInt 1)))) fun S3 => some ((S3.2.2.1 266 5), S3) else some ((Int32.ofInt (-2)), S)))) else pSt (ySa S 266 (upd (S.2.2.1 266) 5 (Int32.ofInt 0))) fun S6 => some ((Int32.ofInt 0), S6))
set_option maxRecDepth 4000 in
theorem tX12_told {ro : xRo} {T : yK} {S : yS} {d : Nat} {v0 : Int32} {v1 : Int32} {q : Int32} {S' : yS} (hf : fX12_told v0 v1 S = some (q, S')) : yEv ro xNo (yKx T) (d + 3) jX12_told [.ref 265, .int v0, .int v1] S (some (.int q)) S' := by
  refine ry_meth pX12_told rfl (fun z => ?_)
  unfold fX12_told at hf
  iterate 3 (refine ry_step rfl rfl ?_)
  refine ry_br hf (fun hc hf => ?_) (fun hc hf => ?_)
  · refine ry_step rfl rfl ?_
    refine ry_call rfl rfl rfl rfl rfl tX12_isCount ?_
    refine ry_step rfl rfl ?_
    refine ry_br hf (fun hc hf => ?_) (fun hc hf => ?_)
    · refine ry_step rfl rfl ?_
      cases hf
      exact ry_ret rfl rfl
    · iterate 3 (refine ry_step rfl rfl ?_)
      refine ry_call rfl rfl rfl rfl rfl tX12_isIn ?_
      refine ry_step rfl rfl ?_
      refine ry_br hf (fun hc hf => ?_) (fun hc hf => ?_)
      · refine ry_step rfl rfl ?_
        cases hf
        exact ry_ret rfl rfl
      · iterate 6 (refine ry_step rfl rfl ?_)
        refine ry_br hf (fun hc hf => ?_) (fun hc hf => ?_)
        · iterate 11 (refine ry_step rfl rfl ?_)
          refine ry_iast hf rfl rfl (fun j5 S1 hf => ?_)
          iterate 13 (refine ry_step rfl rfl ?_)
          refine ry_iast hf rfl rfl (fun j4 S2 hf => ?_)
          iterate 7 (refine ry_step rfl rfl ?_)
          refine ry_stepS hf rfl rfl (fun S3 hf => ?_)
          iterate 4 (refine ry_step rfl rfl ?_)
          cases hf
          exact ry_ret rfl rfl
        · refine ry_step rfl rfl ?_
          cases hf
          exact ry_ret rfl rfl
  · iterate 4 (refine ry_step rfl rfl ?_)
    refine ry_stepS hf rfl rfl (fun S6 hf => ?_)
    refine ry_step rfl rfl ?_
    cases hf
    exact ry_ret rfl rfl
def lX12_whose (N : Nat) : Nat → Nat → Int32 → Int32 → Int32 → Int32 → yS → Option (Int32 × yS)
  | 0, _, _, _, _, _, _ => none
  | n + 1, m, l1, l2, l3, l4, S => if m = 0 then (if (S.2.2.1 266 1) ≤ l2 then some (l1, S) else lX12_whose N n 1 l1 l2 (Int32.ofInt 1) (Int32.ofInt 92) S) else (if ((Int32.ofInt 92) + ((Int32.ofInt 2) * (S.2.2.1 266 5))) ≤ l4 then (if l3 = 0 then lX12_whose N n 0 (l1 ||| (Int32.ofInt 0)) (l2 + (Int32.ofInt 1)) 0 0 S else pSt (l1 ||| ((Int32.ofInt 1) <<< (l2 &&& 31))) fun w1 => lX12_whose N n 0 w1 (l2 + (Int32.ofInt 1)) 0 0 S) else (if l3 = 0 then lX12_whose N n 1 l1 l2 (Int32.ofInt 0) (l4 + (Int32.ofInt 2)) S else (ain 1338 l4).bind fun j2 => (fX12_bringsOf N l2 (S.2.2.1 266 j2) S).bind fun (u5, S4) => (ain 1338 (l4 + (Int32.ofInt 1))).bind fun j6 => (if ¬ u5 = (S4.2.2.1 266 j6) then lX12_whose N n 1 l1 l2 (Int32.ofInt 0) (l4 + (Int32.ofInt 2)) S4 else lX12_whose N n 1 l1 l2 (Int32.ofInt 1) (l4 + (Int32.ofInt 2)) S4)))
set_option maxRecDepth 4000 in
theorem uX12_whose {ro : xRo} {T : yK} {d N : Nat} : ∀ n : Nat, (∀ (l1 : Int32) (l2 : Int32) (l3 : Int32) (l4 : Int32) (S : yS) {q : Int32} {S' : yS}, lX12_whose N n 0 l1 l2 l3 l4 S = some (q, S') → ∀ z, Ry ro xNo (yKx T) z (d + 5) mX12_whose 4 [(0, .ref 265), (1, .int l1), (2, .int l2)] [] S (some (.int q), yH (yKx T) z S')) ∧ (∀ (l1 : Int32) (l2 : Int32) (l3 : Int32) (l4 : Int32) (S : yS) {q : Int32} {S' : yS}, lX12_whose N n 1 l1 l2 l3 l4 S = some (q, S') → ∀ z, Ry ro xNo (yKx T) z (d + 5) mX12_whose 20 [(0, .ref 265), (1, .int l1), (2, .int l2), (3, .int l3), (4, .int l4)] [] S (some (.int q), yH (yKx T) z S')) := by
  intro n
  induction n with
  | zero => exact ⟨(by intro _ _ _ _ _ _ _ hf; cases hf), (by intro _ _ _ _ _ _ _ hf; cases hf)⟩
  | succ n ih =>
    refine ⟨?_, ?_⟩
    · intro l1 l2 l3 l4 S q S' hf z
      unfold lX12_whose at hf
      rw [if_pos rfl] at hf
      iterate 6 (refine ry_step rfl rfl ?_)
      refine ry_br hf (fun hc hf => ?_) (fun hc hf => ?_)
      · refine ry_step rfl rfl ?_
        cases hf
        exact ry_ret rfl rfl
      · iterate 4 (refine ry_step rfl rfl ?_)
        refine ry_sub [2, 3, 4, 1, 0] rfl rfl ?_
        exact ih.2 l1 l2 (Int32.ofInt 1) (Int32.ofInt 92) S hf _
    · intro l1 l2 l3 l4 S q S' hf z
      unfold lX12_whose at hf
      rw [if_neg (by decide)] at hf; skip
      iterate 10 (refine ry_step rfl rfl ?_)
      refine ry_br hf (fun hc hf => ?_) (fun hc hf => ?_)
      · iterate 3 (refine ry_step rfl rfl ?_)
        refine ry_br hf (fun hc hf => ?_) (fun hc hf => ?_)
        · iterate 5 (refine ry_step rfl rfl ?_)
          refine ry_sub [2, 1, 0] rfl rfl ?_
          exact ih.1 (l1 ||| (Int32.ofInt 0)) (l2 + (Int32.ofInt 1)) 0 0 S hf _
        · iterate 5 (refine ry_step rfl rfl ?_)
          refine ry_nmi hf (fun w1 hf => ?_)
          iterate 3 (refine ry_step rfl rfl ?_)
          refine ry_sub [2, 1, 0] rfl rfl ?_
          exact ih.1 w1 (l2 + (Int32.ofInt 1)) 0 0 S hf _
      · iterate 2 (refine ry_step rfl rfl ?_)
        refine ry_br hf (fun hc hf => ?_) (fun hc hf => ?_)
        · iterate 4 (refine ry_step rfl rfl ?_)
          refine ry_sub [2, 3, 4, 1, 0] rfl rfl ?_
          exact ih.2 l1 l2 (Int32.ofInt 0) (l4 + (Int32.ofInt 2)) S hf _
        · iterate 5 (refine ry_step rfl rfl ?_)
          refine ry_iald hf rfl rfl rfl (fun j2 hf => ?_)
          obtain ⟨⟨u5, S4⟩, hv3, hf⟩ := Option.bind_eq_some_iff.mp hf
          dsimp only at hf
          refine ry_call rfl rfl rfl rfl rfl (tX12_bringsOf hv3) ?_
          iterate 5 (refine ry_step rfl rfl ?_)
          refine ry_iald hf rfl rfl rfl (fun j6 hf => ?_)
          refine ry_step rfl rfl ?_
          refine ry_br hf (fun hc hf => ?_) (fun hc hf => ?_)
          · iterate 4 (refine ry_step rfl rfl ?_)
            refine ry_sub [2, 3, 4, 1, 0] rfl rfl ?_
            exact ih.2 l1 l2 (Int32.ofInt 0) (l4 + (Int32.ofInt 2)) S4 hf _
          · iterate 5 (refine ry_step rfl rfl ?_)
            refine ry_sub [2, 3, 4, 1, 0] rfl rfl ?_
            exact ih.2 l1 l2 (Int32.ofInt 1) (l4 + (Int32.ofInt 2)) S4 hf _
def fX12_whose (N : Nat) (S : yS) : Option (Int32 × yS) := lX12_whose N N 0 (Int32.ofInt 0) (Int32.ofInt 0) 0 0 S
set_option maxRecDepth 4000 in
theorem tX12_whose {ro : xRo} {T : yK} {S : yS} {d N : Nat} {q : Int32} {S' : yS} (hf : fX12_whose N  S = some (q, S')) : yEv ro xNo (yKx T) (d + 6) jX12_whose [.ref 265] S (some (.int q)) S' := by
  refine ry_meth pX12_whose rfl (fun z => ?_)
  unfold fX12_whose at hf
  iterate 4 (refine ry_step rfl rfl ?_)
  refine ry_sub [2, 1, 0] rfl rfl ?_
  exact (uX12_whose (ro := ro) _).1 (Int32.ofInt 0) (Int32.ofInt 0) 0 0 S hf _
def fX12_about (v0 : Int32) (S : yS) : Option Int32 := (if (fX12_isIn v0 (Int32.ofInt 0) (Int32.ofInt 5)) = 0 then (if ¬ v0 = (Int32.ofInt 6) then some (Int32.ofInt (-2)) else some (S.1 265 4)) else (ain 1338 v0).bind fun j1 => some (S.2.2.1 266 j1))
set_option maxRecDepth 4000 in
theorem tX12_about {ro : xRo} {T : yK} {S : yS} {d : Nat} {v0 : Int32} {q : Int32} (hf : fX12_about v0 S = some q) : yEv ro xNo (yKx T) (d + 2) jX12_about [.ref 265, .int v0] S (some (.int q)) S := by
  refine ry_meth pX12_about rfl (fun z => ?_)
  unfold fX12_about at hf
  iterate 3 (refine ry_step rfl rfl ?_)
  refine ry_call rfl rfl rfl rfl rfl tX12_isIn ?_
  refine ry_step rfl rfl ?_
  refine ry_br hf (fun hc hf => ?_) (fun hc hf => ?_)
  · iterate 3 (refine ry_step rfl rfl ?_)
    refine ry_br hf (fun hc hf => ?_) (fun hc hf => ?_)
    · refine ry_step rfl rfl ?_
      cases hf
      exact ry_ret rfl rfl
    · iterate 3 (refine ry_step rfl rfl ?_)
      cases hf
      exact ry_ret rfl rfl
  · iterate 3 (refine ry_step rfl rfl ?_)
    refine ry_iald hf rfl rfl rfl (fun j1 hf => ?_)
    refine ry_step rfl rfl ?_
    cases hf
    exact ry_ret rfl rfl
def fX0_isDue (v0 : Int32) (v1 : Int32) (S : yS) : Option Int32 := (fX2_isGone v0 S).bind fun u2 => (if ¬ u2 = 0 then some (Int32.ofInt 0) else (ain 8 v0).bind fun j3 => (if (S.2.2.1 114 j3) ≤ 0 then some (Int32.ofInt 0) else (ain 8 v0).bind fun j4 => (if (S.2.2.1 114 j4) = 0 then none else (ain 8 v0).bind fun j5 => (if ¬ (v1 - v1 / (S.2.2.1 114 j4) * (S.2.2.1 114 j4)) = (S.2.2.1 115 j5) then some (Int32.ofInt 0) else some (Int32.ofInt 1)))))
set_option maxRecDepth 4000 in
theorem tX0_isDue {ro : xRo} {T : yK} {S : yS} {d : Nat} {v0 : Int32} {v1 : Int32} {q : Int32} (hf : fX0_isDue v0 v1 S = some q) : yEv ro xNo (yKx T) (d + 3) jX0_isDue [.ref 18, .int v0, .int v1] S (some (.int q)) S := by
  refine ry_meth pX0_isDue rfl (fun z => ?_)
  unfold fX0_isDue at hf
  iterate 3 (refine ry_step rfl rfl ?_)
  obtain ⟨u2, hv1, hf⟩ := Option.bind_eq_some_iff.mp hf
  refine ry_call rfl rfl rfl rfl rfl (tX2_isGone hv1) ?_
  refine ry_step rfl rfl ?_
  refine ry_br hf (fun hc hf => ?_) (fun hc hf => ?_)
  · refine ry_step rfl rfl ?_
    cases hf
    exact ry_ret rfl rfl
  · iterate 3 (refine ry_step rfl rfl ?_)
    refine ry_iald hf rfl rfl rfl (fun j3 hf => ?_)
    refine ry_step rfl rfl ?_
    refine ry_br hf (fun hc hf => ?_) (fun hc hf => ?_)
    · refine ry_step rfl rfl ?_
      cases hf
      exact ry_ret rfl rfl
    · iterate 4 (refine ry_step rfl rfl ?_)
      refine ry_iald hf rfl rfl rfl (fun j4 hf => ?_)
      refine ry_rem hf rfl (fun hf => ?_)
      iterate 3 (refine ry_step rfl rfl ?_)
      refine ry_iald hf rfl rfl rfl (fun j5 hf => ?_)
      refine ry_step rfl rfl ?_
      refine ry_br hf (fun hc hf => ?_) (fun hc hf => ?_)
      · refine ry_step rfl rfl ?_
        cases hf
        exact ry_ret rfl rfl
      · iterate 2 (refine ry_step rfl rfl ?_)
        cases hf
        exact ry_ret rfl rfl
def lX0_dueOn (N : Nat) : Nat → Int32 → Int32 → Int32 → yS → Option Int32
  | 0, _, _, _, _ => none
  | n + 1, l1, l2, l3, S => (if (S.1 18 5) ≤ l3 then some l2 else (fX0_isDue l3 l1 S).bind fun u2 => (if u2 = 0 then lX0_dueOn N n l1 l2 (l3 + (Int32.ofInt 1)) S else pSt (l2 ||| ((Int32.ofInt 1) <<< (l3 &&& 31))) fun w3 => lX0_dueOn N n l1 w3 (l3 + (Int32.ofInt 1)) S))
set_option maxRecDepth 4000 in
theorem uX0_dueOn {ro : xRo} {T : yK} {d N : Nat} : ∀ n : Nat, (∀ (l1 : Int32) (l2 : Int32) (l3 : Int32) (S : yS) {q : Int32}, lX0_dueOn N n l1 l2 l3 S = some q → ∀ z, Ry ro xNo (yKx T) z (d + 3) mX0_dueOn 4 [(0, .ref 18), (1, .int l1), (2, .int l2), (3, .int l3)] [] S (some (.int q), yH (yKx T) z S)) := by
  intro n
  induction n with
  | zero => exact (by intro _ _ _ _ _ hf; cases hf)
  | succ n ih =>
    intro l1 l2 l3 S q hf z
    unfold lX0_dueOn at hf
    iterate 4 (refine ry_step rfl rfl ?_)
    refine ry_br hf (fun hc hf => ?_) (fun hc hf => ?_)
    · refine ry_step rfl rfl ?_
      cases hf
      exact ry_ret rfl rfl
    · iterate 3 (refine ry_step rfl rfl ?_)
      obtain ⟨u2, hv1, hf⟩ := Option.bind_eq_some_iff.mp hf
      refine ry_call rfl rfl rfl rfl rfl (tX0_isDue hv1) ?_
      refine ry_step rfl rfl ?_
      refine ry_br hf (fun hc hf => ?_) (fun hc hf => ?_)
      · iterate 2 (refine ry_step rfl rfl ?_)
        refine ry_sub [1, 2, 3, 0] rfl rfl ?_
        exact ih l1 l2 (l3 + (Int32.ofInt 1)) S hf _
      · iterate 5 (refine ry_step rfl rfl ?_)
        refine ry_nmi hf (fun w3 hf => ?_)
        iterate 3 (refine ry_step rfl rfl ?_)
        refine ry_sub [2, 3, 1, 0] rfl rfl ?_
        exact ih l1 w3 (l3 + (Int32.ofInt 1)) S hf _
def fX0_dueOn (N : Nat) (v0 : Int32) (S : yS) : Option Int32 := lX0_dueOn N N v0 (Int32.ofInt 0) (Int32.ofInt 0) S
set_option maxRecDepth 4000 in
theorem tX0_dueOn {ro : xRo} {T : yK} {S : yS} {d N : Nat} {v0 : Int32} {q : Int32} (hf : fX0_dueOn N v0 S = some q) : yEv ro xNo (yKx T) (d + 4) jX0_dueOn [.ref 18, .int v0] S (some (.int q)) S := by
  refine ry_meth pX0_dueOn rfl (fun z => ?_)
  unfold fX0_dueOn at hf
  iterate 4 (refine ry_step rfl rfl ?_)
  refine ry_sub [2, 3, 1, 0] rfl rfl ?_
  exact uX0_dueOn (ro := ro) _ v0 (Int32.ofInt 0) (Int32.ofInt 0) S hf _
def fX0_canThin (v0 : Int32) (S : yS) : Option Int32 := (fX0_hasBird v0 S).bind fun u2 => (if u2 = 0 then some (Int32.ofInt 0) else (fX2_isGone v0 S).bind fun u4 => (if ¬ u4 = 0 then some (Int32.ofInt 0) else some (Int32.ofInt 1)))
set_option maxRecDepth 4000 in
theorem tX0_canThin {ro : xRo} {T : yK} {S : yS} {d : Nat} {v0 : Int32} {q : Int32} (hf : fX0_canThin v0 S = some q) : yEv ro xNo (yKx T) (d + 3) jX0_canThin [.ref 18, .int v0] S (some (.int q)) S := by
  refine ry_meth pX0_canThin rfl (fun z => ?_)
  unfold fX0_canThin at hf
  iterate 2 (refine ry_step rfl rfl ?_)
  obtain ⟨u2, hv1, hf⟩ := Option.bind_eq_some_iff.mp hf
  refine ry_call rfl rfl rfl rfl rfl (tX0_hasBird hv1) ?_
  refine ry_step rfl rfl ?_
  refine ry_br hf (fun hc hf => ?_) (fun hc hf => ?_)
  · refine ry_step rfl rfl ?_
    cases hf
    exact ry_ret rfl rfl
  · iterate 3 (refine ry_step rfl rfl ?_)
    obtain ⟨u4, hv3, hf⟩ := Option.bind_eq_some_iff.mp hf
    refine ry_call rfl rfl rfl rfl rfl (tX2_isGone hv3) ?_
    refine ry_step rfl rfl ?_
    refine ry_br hf (fun hc hf => ?_) (fun hc hf => ?_)
    · refine ry_step rfl rfl ?_
      cases hf
      exact ry_ret rfl rfl
    · iterate 2 (refine ry_step rfl rfl ?_)
      cases hf
      exact ry_ret rfl rfl
def fX0_canCall (v0 : Int32) (S : yS) : Option Int32 := (fX0_hasBird v0 S).bind fun u2 => (if u2 = 0 then some (Int32.ofInt 0) else (fX2_isGone v0 S).bind fun u4 => (if u4 = 0 then some (Int32.ofInt 0) else some (Int32.ofInt 1)))
set_option maxRecDepth 4000 in
theorem tX0_canCall {ro : xRo} {T : yK} {S : yS} {d : Nat} {v0 : Int32} {q : Int32} (hf : fX0_canCall v0 S = some q) : yEv ro xNo (yKx T) (d + 3) jX0_canCall [.ref 18, .int v0] S (some (.int q)) S := by
  refine ry_meth pX0_canCall rfl (fun z => ?_)
  unfold fX0_canCall at hf
  iterate 2 (refine ry_step rfl rfl ?_)
  obtain ⟨u2, hv1, hf⟩ := Option.bind_eq_some_iff.mp hf
  refine ry_call rfl rfl rfl rfl rfl (tX0_hasBird hv1) ?_
  refine ry_step rfl rfl ?_
  refine ry_br hf (fun hc hf => ?_) (fun hc hf => ?_)
  · refine ry_step rfl rfl ?_
    cases hf
    exact ry_ret rfl rfl
  · iterate 3 (refine ry_step rfl rfl ?_)
    obtain ⟨u4, hv3, hf⟩ := Option.bind_eq_some_iff.mp hf
    refine ry_call rfl rfl rfl rfl rfl (tX2_isGone hv3) ?_
    refine ry_step rfl rfl ?_
    refine ry_br hf (fun hc hf => ?_) (fun hc hf => ?_)
    · refine ry_step rfl rfl ?_
      cases hf
      exact ry_ret rfl rfl
    · iterate 2 (refine ry_step rfl rfl ?_)
      cases hf
      exact ry_ret rfl rfl
def fX1_ofTwo (v0 : Int32) (v1 : Int32) (v2 : Int32) (S : yS) : Option Int32 := (if v0 = (Int32.ofInt 12) then some (v1 &&& v2) else (if v0 = (Int32.ofInt 13) then some (v1 ||| v2) else (if v0 = (Int32.ofInt 29) then some (fX11_held (v1 + v2) (Int32.ofInt (-1000000)) (Int32.ofInt 1000000)) else (if v0 = (Int32.ofInt 30) then some (fX11_held (v1 - v2) (Int32.ofInt (-1000000)) (Int32.ofInt 1000000)) else (if v0 = (Int32.ofInt 31) then some (Int64.toInt32 (if (if ((Int32.toInt64 v1) * (Int32.toInt64 v2)) < (Int64.ofInt 1000000) then ((Int32.toInt64 v1) * (Int32.toInt64 v2)) else (Int64.ofInt 1000000)) < (Int64.ofInt (-1000000)) then (Int64.ofInt (-1000000)) else (if ((Int32.toInt64 v1) * (Int32.toInt64 v2)) < (Int64.ofInt 1000000) then ((Int32.toInt64 v1) * (Int32.toInt64 v2)) else (Int64.ofInt 1000000)))) else (if v0 = (Int32.ofInt 32) then (if ¬ v2 = 0 then (if v2 = 0 then none else some (v1 / v2)) else some (Int32.ofInt 0)) else (fX1_isSo v0 v1 v2 S).bind fun u2 => (if u2 = 0 then some (Int32.ofInt 0) else some (Int32.ofInt 1))))))))
set_option maxRecDepth 4000 in
theorem tX1_ofTwo {ro : xRo} {T : yK} {S : yS} {d : Nat} {v0 : Int32} {v1 : Int32} {v2 : Int32} {q : Int32} (hf : fX1_ofTwo v0 v1 v2 S = some q) : yEv ro xNo (yKx T) (d + 2) jX1_ofTwo [.int v0, .int v1, .int v2] S (some (.int q)) S := by
  refine ry_meth pX1_ofTwo rfl (fun z => ?_)
  unfold fX1_ofTwo at hf
  refine ry_step rfl rfl ?_
  refine ry_sw hf (fun hf => ?_) (fun n12 hf => ?_)
  · iterate 4 (refine ry_step rfl rfl ?_)
    cases hf
    exact ry_ret rfl rfl
  · refine ry_sw hf (fun hf => ?_) (fun n13 hf => ?_)
    · iterate 4 (refine ry_step rfl rfl ?_)
      cases hf
      exact ry_ret rfl rfl
    · refine ry_sw hf (fun hf => ?_) (fun n29 hf => ?_)
      · iterate 6 (refine ry_step rfl rfl ?_)
        refine ry_call rfl rfl rfl rfl rfl tX11_held ?_
        cases hf
        exact ry_ret rfl rfl
      · refine ry_sw hf (fun hf => ?_) (fun n30 hf => ?_)
        · iterate 6 (refine ry_step rfl rfl ?_)
          refine ry_call rfl rfl rfl rfl rfl tX11_held ?_
          cases hf
          exact ry_ret rfl rfl
        · refine ry_sw hf (fun hf => ?_) (fun n31 hf => ?_)
          · iterate 11 (refine ry_step rfl rfl ?_)
            cases hf
            exact ry_ret rfl rfl
          · refine ry_sw hf (fun hf => ?_) (fun n32 hf => ?_)
            · iterate 3 (refine ry_step rfl rfl ?_)
              refine ry_br hf (fun hc hf => ?_) (fun hc hf => ?_)
              · iterate 2 (refine ry_step rfl rfl ?_)
                refine ry_div hf rfl (fun hf => ?_)
                cases hf
                exact ry_ret rfl rfl
              · iterate 2 (refine ry_step rfl rfl ?_)
                cases hf
                exact ry_ret rfl rfl
            · have m12 := xne_toInt (k := 12) rfl n12
              have m13 := xne_toInt (k := 13) rfl n13
              have m29 := xne_toInt (k := 29) rfl n29
              have m30 := xne_toInt (k := 30) rfl n30
              have m31 := xne_toInt (k := 31) rfl n31
              have m32 := xne_toInt (k := 32) rfl n32
              refine ry_lk rfl (by simp [Op.lookupswitch.offset, Ne.symm m12, Ne.symm m13, Ne.symm m29, Ne.symm m30, Ne.symm m31, Ne.symm m32]) ?_
              iterate 3 (refine ry_step rfl rfl ?_)
              obtain ⟨u2, hv1, hf⟩ := Option.bind_eq_some_iff.mp hf
              refine ry_call rfl rfl rfl rfl rfl (tX1_isSo hv1) ?_
              refine ry_step rfl rfl ?_
              refine ry_br hf (fun hc hf => ?_) (fun hc hf => ?_)
              · refine ry_step rfl rfl ?_
                cases hf
                exact ry_ret rfl rfl
              · iterate 2 (refine ry_step rfl rfl ?_)
                cases hf
                exact ry_ret rfl rfl
def lX3_leastPeriod (N : Nat) : Nat → Int32 → yS → Option Int32
  | 0, _, _ => none
  | n + 1, l1, S => (if (Int32.ofInt 12) < l1 then some (Int32.ofInt (-1)) else (fX3_leastPhase N l1 S).bind fun u2 => (if u2 = (Int32.ofInt (-1)) then lX3_leastPeriod N n (l1 + (Int32.ofInt 1)) S else some l1))
set_option maxRecDepth 4000 in
theorem uX3_leastPeriod {ro : xRo} {T : yK} {d N : Nat} : ∀ n : Nat, (∀ (l1 : Int32) (S : yS) {q : Int32}, lX3_leastPeriod N n l1 S = some q → ∀ z, Ry ro xNo (yKx T) z (d + 2) mX3_leastPeriod 2 [(0, .ref 119), (1, .int l1)] [] S (some (.int q), yH (yKx T) z S)) := by
  intro n
  induction n with
  | zero => exact (by intro _ _ _ hf; cases hf)
  | succ n ih =>
    intro l1 S q hf z
    unfold lX3_leastPeriod at hf
    iterate 3 (refine ry_step rfl rfl ?_)
    refine ry_br hf (fun hc hf => ?_) (fun hc hf => ?_)
    · refine ry_step rfl rfl ?_
      cases hf
      exact ry_ret rfl rfl
    · iterate 2 (refine ry_step rfl rfl ?_)
      obtain ⟨u2, hv1, hf⟩ := Option.bind_eq_some_iff.mp hf
      refine ry_call rfl rfl rfl rfl rfl (tX3_leastPhase hv1) ?_
      iterate 2 (refine ry_step rfl rfl ?_)
      refine ry_br hf (fun hc hf => ?_) (fun hc hf => ?_)
      · iterate 2 (refine ry_step rfl rfl ?_)
        refine ry_sub [1, 0] rfl rfl ?_
        exact ih (l1 + (Int32.ofInt 1)) S hf _
      · refine ry_step rfl rfl ?_
        cases hf
        exact ry_ret rfl rfl
def fX3_leastPeriod (N : Nat) (S : yS) : Option Int32 := lX3_leastPeriod N N (Int32.ofInt 1) S
set_option maxRecDepth 4000 in
theorem tX3_leastPeriod {ro : xRo} {T : yK} {S : yS} {d N : Nat} {q : Int32} (hf : fX3_leastPeriod N  S = some q) : yEv ro xNo (yKx T) (d + 3) jX3_leastPeriod [.ref 119] S (some (.int q)) S := by
  refine ry_meth pX3_leastPeriod rfl (fun z => ?_)
  unfold fX3_leastPeriod at hf
  iterate 2 (refine ry_step rfl rfl ?_)
  refine ry_sub [1, 0] rfl rfl ?_
  exact uX3_leastPeriod (ro := ro) _ (Int32.ofInt 1) S hf _
def lX3_nextDay (N : Nat) : Nat → Int32 → Int32 → Int32 → Int32 → yS → Option Int32
  | 0, _, _, _, _, _ => none
  | n + 1, l1, l2, l3, l4, S => (if (S.1 119 2) ≤ l4 then (fX11_firstOfHabit N (l3 + (Int32.ofInt 1)) (Int32.ofInt 1) l1 l2 S).bind fun u2 => some u2 else (ain 12 l4).bind fun j3 => pSt (if l3 < (S.2.2.1 120 j3) then (S.2.2.1 120 j3) else l3) fun w4 => lX3_nextDay N n l1 l2 w4 (l4 + (Int32.ofInt 1)) S)
set_option maxRecDepth 4000 in
theorem uX3_nextDay {ro : xRo} {T : yK} {d N : Nat} : ∀ n : Nat, (∀ (l1 : Int32) (l2 : Int32) (l3 : Int32) (l4 : Int32) (S : yS) {q : Int32}, lX3_nextDay N n l1 l2 l3 l4 S = some q → ∀ z, Ry ro xNo (yKx T) z (d + 1) mX3_nextDay 5 [(0, .ref 119), (1, .int l1), (2, .int l2), (3, .int l3), (4, .int l4)] [] S (some (.int q), yH (yKx T) z S)) := by
  intro n
  induction n with
  | zero => exact (by intro _ _ _ _ _ _ hf; cases hf)
  | succ n ih =>
    intro l1 l2 l3 l4 S q hf z
    unfold lX3_nextDay at hf
    iterate 4 (refine ry_step rfl rfl ?_)
    refine ry_br hf (fun hc hf => ?_) (fun hc hf => ?_)
    · iterate 6 (refine ry_step rfl rfl ?_)
      obtain ⟨u2, hv1, hf⟩ := Option.bind_eq_some_iff.mp hf
      refine ry_call rfl rfl rfl rfl rfl (tX11_firstOfHabit hv1) ?_
      cases hf
      exact ry_ret rfl rfl
    · iterate 4 (refine ry_step rfl rfl ?_)
      refine ry_iald hf rfl rfl rfl (fun j3 hf => ?_)
      refine ry_step rfl rfl ?_
      refine ry_nmi hf (fun w4 hf => ?_)
      iterate 3 (refine ry_step rfl rfl ?_)
      refine ry_sub [2, 3, 4, 1, 0] rfl rfl ?_
      exact ih l1 l2 w4 (l4 + (Int32.ofInt 1)) S hf _
def fX3_nextDay (N : Nat) (v0 : Int32) (v1 : Int32) (S : yS) : Option Int32 := lX3_nextDay N N v0 v1 (Int32.ofInt (-1)) (Int32.ofInt 0) S
set_option maxRecDepth 4000 in
theorem tX3_nextDay {ro : xRo} {T : yK} {S : yS} {d N : Nat} {v0 : Int32} {v1 : Int32} {q : Int32} (hf : fX3_nextDay N v0 v1 S = some q) : yEv ro xNo (yKx T) (d + 2) jX3_nextDay [.ref 119, .int v0, .int v1] S (some (.int q)) S := by
  refine ry_meth pX3_nextDay rfl (fun z => ?_)
  unfold fX3_nextDay at hf
  iterate 4 (refine ry_step rfl rfl ?_)
  refine ry_sub [2, 3, 4, 1, 0] rfl rfl ?_
  exact uX3_nextDay (ro := ro) _ v0 v1 (Int32.ofInt (-1)) (Int32.ofInt 0) S hf _
def fX6_behind (N : Nat) (v0 : Int32) (v1 : Int32) (S : yS) : Option Int32 := (fX6_stepsToRing N v0 S).bind fun u2 => (if v1 ≤ u2 then (fX6_walked N v0 v1 S).bind fun u4 => some u4 else (fX6_walked N v0 u2 S).bind fun u6 => (fX6_sizeAt N u6 S).bind fun u8 => (if u8 ≤ 0 then (fX6_walked N v0 v1 S).bind fun u10 => some u10 else (if u8 = 0 then none else pSt (u2 + ((v1 - u2) - (v1 - u2) / u8 * u8)) fun w11 => (fX6_walked N v0 w11 S).bind fun u13 => some u13)))
set_option maxRecDepth 4000 in
theorem tX6_behind {ro : xRo} {T : yK} {S : yS} {d N : Nat} {v0 : Int32} {v1 : Int32} {q : Int32} (hf : fX6_behind N v0 v1 S = some q) : yEv ro xNo (yKx T) (d + 3) jX6_behind [.ref 122, .int v0, .int v1] S (some (.int q)) S := by
  refine ry_meth pX6_behind rfl (fun z => ?_)
  unfold fX6_behind at hf
  iterate 4 (refine ry_step rfl rfl ?_)
  obtain ⟨u2, hv1, hf⟩ := Option.bind_eq_some_iff.mp hf
  refine ry_call rfl rfl rfl rfl rfl (tX6_stepsToRing hv1) ?_
  iterate 4 (refine ry_step rfl rfl ?_)
  refine ry_br hf (fun hc hf => ?_) (fun hc hf => ?_)
  · iterate 3 (refine ry_step rfl rfl ?_)
    obtain ⟨u4, hv3, hf⟩ := Option.bind_eq_some_iff.mp hf
    refine ry_call rfl rfl rfl rfl rfl (tX6_walked hv3) ?_
    cases hf
    exact ry_ret rfl rfl
  · iterate 4 (refine ry_step rfl rfl ?_)
    obtain ⟨u6, hv5, hf⟩ := Option.bind_eq_some_iff.mp hf
    refine ry_call rfl rfl rfl rfl rfl (tX6_walked hv5) ?_
    obtain ⟨u8, hv7, hf⟩ := Option.bind_eq_some_iff.mp hf
    refine ry_call rfl rfl rfl rfl rfl (tX6_sizeAt hv7) ?_
    iterate 3 (refine ry_step rfl rfl ?_)
    refine ry_br hf (fun hc hf => ?_) (fun hc hf => ?_)
    · iterate 5 (refine ry_step rfl rfl ?_)
      obtain ⟨u10, hv9, hf⟩ := Option.bind_eq_some_iff.mp hf
      refine ry_call rfl rfl rfl rfl rfl (tX6_walked hv9) ?_
      cases hf
      exact ry_ret rfl rfl
    · iterate 5 (refine ry_step rfl rfl ?_)
      refine ry_rem hf rfl (fun hf => ?_)
      iterate 2 (refine ry_step rfl rfl ?_)
      refine ry_nmi hf (fun w11 hf => ?_)
      iterate 4 (refine ry_step rfl rfl ?_)
      obtain ⟨u13, hv12, hf⟩ := Option.bind_eq_some_iff.mp hf
      refine ry_call rfl rfl rfl rfl rfl (tX6_walked hv12) ?_
      cases hf
      exact ry_ret rfl rfl
def fX11_habit (N : Nat) (v0 : Int32) (S : yS) : Option Int32 := (fX3_leastPeriod N  S).bind fun u2 => (if ¬ u2 = (Int32.ofInt (-1)) then (fX3_leastPhase N u2 S).bind fun u4 => (if v0 = (Int32.ofInt 0) then some u2 else (if v0 = (Int32.ofInt 1) then some u4 else (if v0 = (Int32.ofInt 2) then (fX3_nextDay N u2 u4 S).bind fun u6 => some u6 else some (Int32.ofInt (-1))))) else some (Int32.ofInt (-1)))
set_option maxRecDepth 4000 in
theorem tX11_habit {ro : xRo} {T : yK} {S : yS} {d N : Nat} {v0 : Int32} {q : Int32} (hf : fX11_habit N v0 S = some q) : yEv ro xNo (yKx T) (d + 4) jX11_habit [.ref 16, .int v0] S (some (.int q)) S := by
  refine ry_meth pX11_habit rfl (fun z => ?_)
  unfold fX11_habit at hf
  iterate 3 (refine ry_step rfl rfl ?_)
  obtain ⟨u2, hv1, hf⟩ := Option.bind_eq_some_iff.mp hf
  refine ry_call rfl rfl rfl rfl rfl (tX3_leastPeriod hv1) ?_
  iterate 4 (refine ry_step rfl rfl ?_)
  refine ry_br hf (fun hc hf => ?_) (fun hc hf => ?_)
  · iterate 4 (refine ry_step rfl rfl ?_)
    obtain ⟨u4, hv3, hf⟩ := Option.bind_eq_some_iff.mp hf
    refine ry_call rfl rfl rfl rfl rfl (tX3_leastPhase hv3) ?_
    iterate 2 (refine ry_step rfl rfl ?_)
    refine ry_sw hf (fun hf => ?_) (fun n0 hf => ?_)
    · iterate 2 (refine ry_step rfl rfl ?_)
      cases hf
      exact ry_ret rfl rfl
    · refine ry_sw hf (fun hf => ?_) (fun n1 hf => ?_)
      · iterate 2 (refine ry_step rfl rfl ?_)
        cases hf
        exact ry_ret rfl rfl
      · refine ry_sw hf (fun hf => ?_) (fun n2 hf => ?_)
        · iterate 6 (refine ry_step rfl rfl ?_)
          obtain ⟨u6, hv5, hf⟩ := Option.bind_eq_some_iff.mp hf
          refine ry_call rfl rfl rfl rfl rfl (tX3_nextDay hv5) ?_
          cases hf
          exact ry_ret rfl rfl
        · have m0 := xne_toInt (k := 0) rfl n0
          have m1 := xne_toInt (k := 1) rfl n1
          have m2 := xne_toInt (k := 2) rfl n2
          refine ry_tb rfl (by omega) ?_
          refine ry_step rfl rfl ?_
          cases hf
          exact ry_ret rfl rfl
  · refine ry_step rfl rfl ?_
    cases hf
    exact ry_ret rfl rfl
def fX11_rota (N : Nat) (v0 : Int32) (S : yS) : Option Int32 := (if (fX11_within v0 (Int32.ofInt 0) (Int32.ofInt 999)) = 0 then some (Int32.ofInt (-1)) else (fX0_dueOn N ((S.1 19 4) + v0) S).bind fun u2 => some u2)
set_option maxRecDepth 4000 in
theorem tX11_rota {ro : xRo} {T : yK} {S : yS} {d N : Nat} {v0 : Int32} {q : Int32} (hf : fX11_rota N v0 S = some q) : yEv ro xNo (yKx T) (d + 5) jX11_rota [.ref 16, .int v0] S (some (.int q)) S := by
  refine ry_meth pX11_rota rfl (fun z => ?_)
  unfold fX11_rota at hf
  iterate 3 (refine ry_step rfl rfl ?_)
  refine ry_call rfl rfl rfl rfl rfl tX11_within ?_
  refine ry_step rfl rfl ?_
  refine ry_br hf (fun hc hf => ?_) (fun hc hf => ?_)
  · refine ry_step rfl rfl ?_
    cases hf
    exact ry_ret rfl rfl
  · iterate 8 (refine ry_step rfl rfl ?_)
    obtain ⟨u2, hv1, hf⟩ := Option.bind_eq_some_iff.mp hf
    refine ry_call rfl rfl rfl rfl rfl (tX0_dueOn hv1) ?_
    refine ry_step rfl rfl ?_
    cases hf
    exact ry_ret rfl rfl
def fX11_after (N : Nat) (v0 : Int32) (v1 : Int32) (S : yS) : Option Int32 := (if (fX11_isCount v0) = 0 then some (Int32.ofInt (-1)) else (if (fX11_within v1 (Int32.ofInt 0) (Int32.ofInt 1000000)) = 0 then some (Int32.ofInt (-1)) else (fX6_behind N v0 v1 S).bind fun u2 => some u2))
set_option maxRecDepth 4000 in
theorem tX11_after {ro : xRo} {T : yK} {S : yS} {d N : Nat} {v0 : Int32} {v1 : Int32} {q : Int32} (hf : fX11_after N v0 v1 S = some q) : yEv ro xNo (yKx T) (d + 4) jX11_after [.ref 16, .int v0, .int v1] S (some (.int q)) S := by
  refine ry_meth pX11_after rfl (fun z => ?_)
  unfold fX11_after at hf
  refine ry_step rfl rfl ?_
  refine ry_call rfl rfl rfl rfl rfl tX11_isCount ?_
  refine ry_step rfl rfl ?_
  refine ry_br hf (fun hc hf => ?_) (fun hc hf => ?_)
  · refine ry_step rfl rfl ?_
    cases hf
    exact ry_ret rfl rfl
  · iterate 3 (refine ry_step rfl rfl ?_)
    refine ry_call rfl rfl rfl rfl rfl tX11_within ?_
    refine ry_step rfl rfl ?_
    refine ry_br hf (fun hc hf => ?_) (fun hc hf => ?_)
    · refine ry_step rfl rfl ?_
      cases hf
      exact ry_ret rfl rfl
    · iterate 5 (refine ry_step rfl rfl ?_)
      obtain ⟨u2, hv1, hf⟩ := Option.bind_eq_some_iff.mp hf
      refine ry_call rfl rfl rfl rfl rfl (tX6_behind hv1) ?_
      refine ry_step rfl rfl ?_
      cases hf
      exact ry_ret rfl rfl
def fX11_due (N : Nat) (S : yS) : Option Int32 := (fX0_dueOn N (S.1 19 4) S).bind fun u2 => some u2
set_option maxRecDepth 4000 in
theorem tX11_due {ro : xRo} {T : yK} {S : yS} {d N : Nat} {q : Int32} (hf : fX11_due N  S = some q) : yEv ro xNo (yKx T) (d + 5) jX11_due [.ref 16] S (some (.int q)) S := by
  refine ry_meth pX11_due rfl (fun z => ?_)
  unfold fX11_due at hf
  iterate 6 (refine ry_step rfl rfl ?_)
  obtain ⟨u2, hv1, hf⟩ := Option.bind_eq_some_iff.mp hf
  refine ry_call rfl rfl rfl rfl rfl (tX0_dueOn hv1) ?_
  cases hf
  exact ry_ret rfl rfl
def lX11_raise (N : Nat) : Nat → Int32 → Int32 → Int32 → Int32 → yS → Option (Int32 × yS)
  | 0, _, _, _, _, _ => none
  | n + 1, l1, l2, l3, l4, S => (if l2 ≤ l4 then some (l3, S) else (fX11_multiply N l1 l3 S).bind fun (u4, S3) => lX11_raise N n l1 l2 u4 (l4 + (Int32.ofInt 1)) S3)
set_option maxRecDepth 4000 in
theorem uX11_raise {ro : xRo} {T : yK} {d N : Nat} : ∀ n : Nat, (∀ (l1 : Int32) (l2 : Int32) (l3 : Int32) (l4 : Int32) (S : yS) {q : Int32} {S' : yS}, lX11_raise N n l1 l2 l3 l4 S = some (q, S') → ∀ z, Ry ro xNo (yKx T) z (d + 1) mX11_raise 12 [(0, .ref 16), (1, .int l1), (2, .int l2), (3, .int l3), (4, .int l4)] [] S (some (.int q), yH (yKx T) z S')) := by
  intro n
  induction n with
  | zero => exact (by intro _ _ _ _ _ _ _ hf; cases hf)
  | succ n ih =>
    intro l1 l2 l3 l4 S q S' hf z
    unfold lX11_raise at hf
    iterate 3 (refine ry_step rfl rfl ?_)
    refine ry_br hf (fun hc hf => ?_) (fun hc hf => ?_)
    · refine ry_step rfl rfl ?_
      cases hf
      exact ry_ret rfl rfl
    · iterate 3 (refine ry_step rfl rfl ?_)
      obtain ⟨⟨u4, S3⟩, hv2, hf⟩ := Option.bind_eq_some_iff.mp hf
      dsimp only at hf
      refine ry_call rfl rfl rfl rfl rfl (tX11_multiply hv2) ?_
      iterate 3 (refine ry_step rfl rfl ?_)
      refine ry_sub [2, 3, 4, 1, 0] rfl rfl ?_
      exact ih l1 l2 u4 (l4 + (Int32.ofInt 1)) S3 hf _
def fX11_raise (N : Nat) (v0 : Int32) (v1 : Int32) (S : yS) : Option (Int32 × yS) := pSt (ySa S 264 (upd (S.2.2.1 264) 0 (Int32.ofInt 1))) fun S1 => lX11_raise N N v0 v1 (Int32.ofInt 1) (Int32.ofInt 0) S1
set_option maxRecDepth 4000 in
theorem tX11_raise {ro : xRo} {T : yK} {S : yS} {d N : Nat} {v0 : Int32} {v1 : Int32} {q : Int32} {S' : yS} (hf : fX11_raise N v0 v1 S = some (q, S')) : yEv ro xNo (yKx T) (d + 2) jX11_raise [.ref 16, .int v0, .int v1] S (some (.int q)) S' := by
  refine ry_meth pX11_raise rfl (fun z => ?_)
  unfold fX11_raise at hf
  iterate 4 (refine ry_step rfl rfl ?_)
  refine ry_stepS hf rfl rfl (fun S1 hf => ?_)
  iterate 4 (refine ry_step rfl rfl ?_)
  refine ry_sub [2, 3, 4, 1, 0] rfl rfl ?_
  exact uX11_raise (ro := ro) _ v0 v1 (Int32.ofInt 1) (Int32.ofInt 0) S1 hf _
def fX11_leastCommon (N : Nat) (v0 : Int32) (v1 : Int32) (S : yS) : Option Int32 := (fX11_greatestCommon N (Int32.toInt64 v0) (Int32.toInt64 v1) S).bind fun u2 => (if ¬ (lg_cmp u2 (Int64.ofNat 0)) = 0 then (if u2 = 0 then none else some ((Int64.toInt32 ((Int32.toInt64 v0) / u2)) * v1)) else some (Int32.ofInt 0))
set_option maxRecDepth 4000 in
theorem tX11_leastCommon {ro : xRo} {T : yK} {S : yS} {d N : Nat} {v0 : Int32} {v1 : Int32} {q : Int32} (hf : fX11_leastCommon N v0 v1 S = some q) : yEv ro xNo (yKx T) (d + 2) jX11_leastCommon [.int v0, .int v1] S (some (.int q)) S := by
  refine ry_meth pX11_leastCommon rfl (fun z => ?_)
  unfold fX11_leastCommon at hf
  iterate 4 (refine ry_step rfl rfl ?_)
  obtain ⟨u2, hv1, hf⟩ := Option.bind_eq_some_iff.mp hf
  refine ry_call rfl rfl rfl rfl rfl (tX11_greatestCommon hv1) ?_
  iterate 5 (refine ry_step rfl rfl ?_)
  refine ry_br hf (fun hc hf => ?_) (fun hc hf => ?_)
  · iterate 3 (refine ry_step rfl rfl ?_)
    refine ry_ldiv hf rfl (fun hf => ?_)
    iterate 3 (refine ry_step rfl rfl ?_)
    cases hf
    exact ry_ret rfl rfl
  · iterate 2 (refine ry_step rfl rfl ?_)
    cases hf
    exact ry_ret rfl rfl
def fX12_drawnBy (v0 : Int32) (S : yS) : Option (Int32 × yS) := (if v0 = 0 then none else pSt ((S.2.2.1 266 7) - (S.2.2.1 266 7) / v0 * v0) fun w1 => (fX12_anew  S).bind fun S3 => some (w1, S3))
set_option maxRecDepth 4000 in
theorem tX12_drawnBy {ro : xRo} {T : yK} {S : yS} {d : Nat} {v0 : Int32} {q : Int32} {S' : yS} (hf : fX12_drawnBy v0 S = some (q, S')) : yEv ro xNo (yKx T) (d + 2) jX12_drawnBy [.ref 265, .int v0] S (some (.int q)) S' := by
  refine ry_meth pX12_drawnBy rfl (fun z => ?_)
  unfold fX12_drawnBy at hf
  iterate 5 (refine ry_step rfl rfl ?_)
  refine ry_rem hf rfl (fun hf => ?_)
  refine ry_nmi hf (fun w1 hf => ?_)
  iterate 2 (refine ry_step rfl rfl ?_)
  obtain ⟨S3, hv2, hf⟩ := Option.bind_eq_some_iff.mp hf
  refine ry_call rfl rfl rfl rfl rfl (tX12_anew hv2) ?_
  refine ry_step rfl rfl ?_
  cases hf
  exact ry_ret rfl rfl
def lX12_pass (N : Nat) : Nat → Int32 → Int32 → Int32 → yS → Option yS
  | 0, _, _, _, _ => none
  | n + 1, l1, l2, l3, S => (if (S.2.2.1 266 0) ≤ l3 then pSt (ySi S 265 24 ((S.1 265 24) + l2)) fun S3 => (fX12_bringsOf N (S3.2.2.1 266 2) l2 S3).bind fun (u6, S5) => pSt (ySa S5 266 (upd (S5.2.2.1 266) 8 (fX12_held (Int32.toInt64 ((S5.2.2.1 266 8) + u6)) (Int32.ofInt (-9999)) (Int32.ofInt 9999)))) fun S7 => pSt (ySa S7 266 (upd (S7.2.2.1 266) 9 l2)) fun S8 => (ain 1338 ((Int32.ofInt 45) + l2)).bind fun j9 => pSt (ySa S8 266 (upd (S8.2.2.1 266) 10 (S8.2.2.1 266 j9))) fun S10 => (fX12_write N l2 u6 S10).bind fun S12 => pSt (ySa S12 266 (upd (S12.2.2.1 266) 6 ((S12.2.2.1 266 6) + (Int32.ofInt 1)))) fun S13 => some S13 else (if (fX12_has l1 l3) = 0 then lX12_pass N n l1 l2 (l3 + (Int32.ofInt 1)) S else (fX12_drawnBy (Int32.ofInt 10) S).bind fun (u16, S15) => (fX12_chanceOf N l3 S15).bind fun (u19, S18) => (if u16 < u19 then (ain 1338 ((Int32.ofInt 13) + l3)).bind fun j20 => (ain 1338 ((Int32.ofInt 13) + l3)).bind fun j22 => pSt (ySa S18 266 (upd (S18.2.2.1 266) j22 (fX12_held (Int32.toInt64 ((S18.2.2.1 266 j20) + (Int32.ofInt 1))) (Int32.ofInt 0) (Int32.ofInt 9999)))) fun S21 => lX12_pass N n l1 (l2 + (Int32.ofInt 1)) (l3 + (Int32.ofInt 1)) S21 else lX12_pass N n l1 l2 (l3 + (Int32.ofInt 1)) S18)))
set_option maxRecDepth 4000 in
theorem uX12_pass {ro : xRo} {T : yK} {d N : Nat} : ∀ n : Nat, (∀ (l1 : Int32) (l2 : Int32) (l3 : Int32) (S : yS) {S' : yS}, lX12_pass N n l1 l2 l3 S = some S' → ∀ z, Ry ro xNo (yKx T) z (d + 5) mX12_pass 9 [(0, .ref 265), (1, .int l1), (2, .int l2), (3, .int l3)] [] S (none, yH (yKx T) z S')) := by
  intro n
  induction n with
  | zero => exact (by intro _ _ _ _ _ hf; cases hf)
  | succ n ih =>
    intro l1 l2 l3 S S' hf z
    unfold lX12_pass at hf
    iterate 6 (refine ry_step rfl rfl ?_)
    refine ry_br hf (fun hc hf => ?_) (fun hc hf => ?_)
    · iterate 5 (refine ry_step rfl rfl ?_)
      refine ry_stepS hf rfl rfl (fun S3 hf => ?_)
      iterate 6 (refine ry_step rfl rfl ?_)
      obtain ⟨⟨u6, S5⟩, hv4, hf⟩ := Option.bind_eq_some_iff.mp hf
      dsimp only at hf
      refine ry_call rfl rfl rfl rfl rfl (tX12_bringsOf hv4) ?_
      iterate 13 (refine ry_step rfl rfl ?_)
      refine ry_call rfl rfl rfl rfl rfl tX12_held ?_
      refine ry_stepS hf rfl rfl (fun S7 hf => ?_)
      iterate 4 (refine ry_step rfl rfl ?_)
      refine ry_stepS hf rfl rfl (fun S8 hf => ?_)
      iterate 8 (refine ry_step rfl rfl ?_)
      refine ry_iald hf rfl rfl rfl (fun j9 hf => ?_)
      refine ry_stepS hf rfl rfl (fun S10 hf => ?_)
      iterate 3 (refine ry_step rfl rfl ?_)
      obtain ⟨S12, hv11, hf⟩ := Option.bind_eq_some_iff.mp hf
      refine ry_call rfl rfl rfl rfl rfl (tX12_write hv11) ?_
      iterate 7 (refine ry_step rfl rfl ?_)
      refine ry_stepS hf rfl rfl (fun S13 hf => ?_)
      cases hf
      exact ry_ret rfl rfl
    · iterate 2 (refine ry_step rfl rfl ?_)
      refine ry_call rfl rfl rfl rfl rfl tX12_has ?_
      refine ry_step rfl rfl ?_
      refine ry_br hf (fun hc hf => ?_) (fun hc hf => ?_)
      · iterate 2 (refine ry_step rfl rfl ?_)
        refine ry_sub [1, 2, 3, 0] rfl rfl ?_
        exact ih l1 l2 (l3 + (Int32.ofInt 1)) S hf _
      · iterate 2 (refine ry_step rfl rfl ?_)
        obtain ⟨⟨u16, S15⟩, hv14, hf⟩ := Option.bind_eq_some_iff.mp hf
        dsimp only at hf
        refine ry_call rfl rfl rfl rfl rfl (tX12_drawnBy hv14) ?_
        iterate 2 (refine ry_step rfl rfl ?_)
        obtain ⟨⟨u19, S18⟩, hv17, hf⟩ := Option.bind_eq_some_iff.mp hf
        dsimp only at hf
        refine ry_call rfl rfl rfl rfl rfl (tX12_chanceOf hv17) ?_
        refine ry_step rfl rfl ?_
        refine ry_br hf (fun hc hf => ?_) (fun hc hf => ?_)
        · iterate 10 (refine ry_step rfl rfl ?_)
          refine ry_iald hf rfl rfl rfl (fun j20 hf => ?_)
          iterate 5 (refine ry_step rfl rfl ?_)
          refine ry_call rfl rfl rfl rfl rfl tX12_held ?_
          refine ry_iast hf rfl rfl (fun j22 S21 hf => ?_)
          iterate 3 (refine ry_step rfl rfl ?_)
          refine ry_sub [2, 3, 1, 0] rfl rfl ?_
          exact ih l1 (l2 + (Int32.ofInt 1)) (l3 + (Int32.ofInt 1)) S21 hf _
        · iterate 3 (refine ry_step rfl rfl ?_)
          refine ry_sub [1, 2, 3, 0] rfl rfl ?_
          exact ih l1 l2 (l3 + (Int32.ofInt 1)) S18 hf _
def fX12_pass (N : Nat) (S : yS) : Option yS := (fX12_dueNow N  S).bind fun u2 => lX12_pass N N u2 (Int32.ofInt 0) (Int32.ofInt 0) S
set_option maxRecDepth 4000 in
theorem tX12_pass {ro : xRo} {T : yK} {S : yS} {d N : Nat} {S' : yS} (hf : fX12_pass N  S = some S') : yEv ro xNo (yKx T) (d + 6) jX12_pass [.ref 265] S (none) S' := by
  refine ry_meth pX12_pass rfl (fun z => ?_)
  unfold fX12_pass at hf
  refine ry_step rfl rfl ?_
  obtain ⟨u2, hv1, hf⟩ := Option.bind_eq_some_iff.mp hf
  refine ry_call rfl rfl rfl rfl rfl (tX12_dueNow hv1) ?_
  iterate 5 (refine ry_step rfl rfl ?_)
  refine ry_sub [3, 2, 1, 0] rfl rfl ?_
  exact uX12_pass (ro := ro) _ u2 (Int32.ofInt 0) (Int32.ofInt 0) S hf _
def lX12_arePassed (N : Nat) : Nat → Int32 → Int32 → yS → Option (Int32 × yS)
  | 0, _, _, _ => none
  | n + 1, l1, l2, S => (if l1 ≤ l2 then some ((Int32.ofInt 1), S) else (if ¬ (S.2.2.1 266 6) = (Int32.ofInt 9999) then (fX12_keep N  S).bind fun S3 => (fX12_pass N  S3).bind fun S5 => lX12_arePassed N n l1 (l2 + (Int32.ofInt 1)) S5 else some ((Int32.ofInt 0), S)))
set_option maxRecDepth 4000 in
theorem uX12_arePassed {ro : xRo} {T : yK} {d N : Nat} : ∀ n : Nat, (∀ (l1 : Int32) (l2 : Int32) (S : yS) {q : Int32} {S' : yS}, lX12_arePassed N n l1 l2 S = some (q, S') → ∀ z, Ry ro xNo (yKx T) z (d + 6) mX12_arePassed 7 [(0, .ref 265), (1, .int l1), (2, .int l2)] [] S (some (.int q), yH (yKx T) z S')) := by
  intro n
  induction n with
  | zero => exact (by intro _ _ _ _ _ hf; cases hf)
  | succ n ih =>
    intro l1 l2 S q S' hf z
    unfold lX12_arePassed at hf
    iterate 3 (refine ry_step rfl rfl ?_)
    refine ry_br hf (fun hc hf => ?_) (fun hc hf => ?_)
    · refine ry_step rfl rfl ?_
      cases hf
      exact ry_ret rfl rfl
    · iterate 6 (refine ry_step rfl rfl ?_)
      refine ry_br hf (fun hc hf => ?_) (fun hc hf => ?_)
      · refine ry_step rfl rfl ?_
        obtain ⟨S3, hv2, hf⟩ := Option.bind_eq_some_iff.mp hf
        refine ry_call rfl rfl rfl rfl rfl (tX12_keep hv2) ?_
        refine ry_step rfl rfl ?_
        obtain ⟨S5, hv4, hf⟩ := Option.bind_eq_some_iff.mp hf
        refine ry_call rfl rfl rfl rfl rfl (tX12_pass hv4) ?_
        iterate 2 (refine ry_step rfl rfl ?_)
        refine ry_sub [1, 2, 0] rfl rfl ?_
        exact ih l1 (l2 + (Int32.ofInt 1)) S5 hf _
      · refine ry_step rfl rfl ?_
        cases hf
        exact ry_ret rfl rfl
def fX12_arePassed (N : Nat) (v0 : Int32) (S : yS) : Option (Int32 × yS) := pSt (ySi S 265 24 (Int32.ofInt 0)) fun S1 => lX12_arePassed N N v0 (Int32.ofInt 0) S1
set_option maxRecDepth 4000 in
theorem tX12_arePassed {ro : xRo} {T : yK} {S : yS} {d N : Nat} {v0 : Int32} {q : Int32} {S' : yS} (hf : fX12_arePassed N v0 S = some (q, S')) : yEv ro xNo (yKx T) (d + 7) jX12_arePassed [.ref 265, .int v0] S (some (.int q)) S' := by
  refine ry_meth pX12_arePassed rfl (fun z => ?_)
  unfold fX12_arePassed at hf
  iterate 2 (refine ry_step rfl rfl ?_)
  refine ry_stepS hf rfl rfl (fun S1 hf => ?_)
  iterate 2 (refine ry_step rfl rfl ?_)
  refine ry_sub [1, 2, 0] rfl rfl ?_
  exact uX12_arePassed (ro := ro) _ v0 (Int32.ofInt 0) S1 hf _
def fX12_day (N : Nat) (v0 : Int32) (S : yS) : Option (Int32 × yS) := (if (fX12_isIn v0 (Int32.ofInt 1) (Int32.ofInt 60)) = 0 then some ((Int32.ofInt (-1)), S) else (if (Int32.ofInt 9999) < ((S.2.2.1 266 6) + v0) then some ((Int32.ofInt (-1)), S) else (fX12_arePassed N v0 S).bind fun (u3, S2) => (if u3 = 0 then some ((Int32.ofInt (-1)), S2) else some ((S2.1 265 24), S2))))
set_option maxRecDepth 4000 in
theorem tX12_day {ro : xRo} {T : yK} {S : yS} {d N : Nat} {v0 : Int32} {q : Int32} {S' : yS} (hf : fX12_day N v0 S = some (q, S')) : yEv ro xNo (yKx T) (d + 8) jX12_day [.ref 265, .int v0] S (some (.int q)) S' := by
  refine ry_meth pX12_day rfl (fun z => ?_)
  unfold fX12_day at hf
  iterate 3 (refine ry_step rfl rfl ?_)
  refine ry_call rfl rfl rfl rfl rfl tX12_isIn ?_
  refine ry_step rfl rfl ?_
  refine ry_br hf (fun hc hf => ?_) (fun hc hf => ?_)
  · refine ry_step rfl rfl ?_
    cases hf
    exact ry_ret rfl rfl
  · iterate 8 (refine ry_step rfl rfl ?_)
    refine ry_br hf (fun hc hf => ?_) (fun hc hf => ?_)
    · refine ry_step rfl rfl ?_
      cases hf
      exact ry_ret rfl rfl
    · iterate 2 (refine ry_step rfl rfl ?_)
      obtain ⟨⟨u3, S2⟩, hv1, hf⟩ := Option.bind_eq_some_iff.mp hf
      dsimp only at hf
      refine ry_call rfl rfl rfl rfl rfl (tX12_arePassed hv1) ?_
      refine ry_step rfl rfl ?_
      refine ry_br hf (fun hc hf => ?_) (fun hc hf => ?_)
      · refine ry_step rfl rfl ?_
        cases hf
        exact ry_ret rfl rfl
      · iterate 3 (refine ry_step rfl rfl ?_)
        cases hf
        exact ry_ret rfl rfl
