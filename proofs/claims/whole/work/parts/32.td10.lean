/-! ===== methods as functions, on ===== -/
def fX4_causeAt (v0 : Int32) (v1 : Int32) (S : yS) : Option Int32 := (ain 5 v0).bind fun j1 => pSt (((S.2.2.1 126 j1) * (Int32.ofInt 4)) + v1) fun w2 => pSt (96 : Int32) fun w3 => (if (fX11_within w2 (Int32.ofInt 0) (w3 - (Int32.ofInt 1))) = 0 then some (Int32.ofInt 0) else ((ain 96 w2).bind fun j => some (xBy2.getD j 0)).bind fun u4 => some (u4 - (Int32.ofInt 48)))
set_option maxRecDepth 4000 in
theorem tX4_causeAt {ro : xRo} {T : yK} {S : yS} {d : Nat} {v0 : Int32} {v1 : Int32}  {q : Int32} (hf : fX4_causeAt v0 v1 S = some q) : yEv ro xNo (yKx T) (d + 5) jX4_causeAt [.ref 124, .int v0, .int v1] S (some (.int q)) S := by
  refine ry_meth pX4_causeAt rfl (fun z => ?_)
  unfold fX4_causeAt at hf
  iterate 3 (refine ry_step rfl rfl ?_)
  refine ry_iald hf rfl rfl rfl (fun j1 hf => ?_)
  iterate 4 (refine ry_step rfl rfl ?_)
  refine ry_nmi hf (fun w2 hf => ?_)
  iterate 4 (refine ry_step rfl rfl ?_)
  refine ry_call rfl rfl rfl rfl rfl tJ0_length_4 ?_
  refine ry_nmi hf (fun w3 hf => ?_)
  iterate 2 (refine ry_step rfl rfl ?_)
  refine ry_call rfl rfl rfl rfl rfl tX11_within ?_
  refine ry_step rfl rfl ?_
  refine ry_br hf (fun hc hf => ?_) (fun hc hf => ?_)
  · refine ry_step rfl rfl ?_
    cases hf
    exact ry_ret rfl rfl
  · iterate 2 (refine ry_step rfl rfl ?_)
    obtain ⟨u4, hv5, hf⟩ := Option.bind_eq_some_iff.mp hf
    refine ry_call rfl rfl rfl rfl rfl (tJ0_charAt_4 hv5) ?_
    iterate 3 (refine ry_step rfl rfl ?_)
    cases hf
    exact ry_ret rfl rfl
def lX4_placeOf (N : Nat) : Nat → Int32 → Int32 → Int32 → yS → Option Int32
  | 0, _, _, _, _ => none
  | n + 1, l1, l2, l3, S => (if (Int32.ofInt 3) ≤ l3 then some l3 else (fX4_causeAt l1 l3 S).bind fun u2 => (if u2 = l2 then some l3 else lX4_placeOf N n l1 l2 (l3 + (Int32.ofInt 1)) S))
set_option maxRecDepth 4000 in
theorem uX4_placeOf {ro : xRo} {T : yK} {d N : Nat} : ∀ n : Nat, (∀ (l1 : Int32) (l2 : Int32) (l3 : Int32) (S : yS) {q : Int32}, lX4_placeOf N n l1 l2 l3 S = some q → ∀ z, Ry ro xNo (yKx T) z (d + 5) mX4_placeOf 2 [(0, .ref 124), (1, .int l1), (2, .int l2), (3, .int l3)] [] S (some (.int q), yH (yKx T) z S)) := by
  intro n
  induction n with
  | zero => exact (by intro _ _ _ _ _ hf; cases hf)
  | succ n ih =>
    intro l1 l2 l3 S q hf z
    unfold lX4_placeOf at hf
    iterate 3 (refine ry_step rfl rfl ?_)
    refine ry_br hf (fun hc hf => ?_) (fun hc hf => ?_)
    · refine ry_step rfl rfl ?_
      cases hf
      exact ry_ret rfl rfl
    · iterate 3 (refine ry_step rfl rfl ?_)
      obtain ⟨u2, hv1, hf⟩ := Option.bind_eq_some_iff.mp hf
      refine ry_call rfl rfl rfl rfl rfl (tX4_causeAt hv1) ?_
      iterate 2 (refine ry_step rfl rfl ?_)
      refine ry_br hf (fun hc hf => ?_) (fun hc hf => ?_)
      · refine ry_step rfl rfl ?_
        cases hf
        exact ry_ret rfl rfl
      · iterate 2 (refine ry_step rfl rfl ?_)
        refine ry_sub [1, 2, 3, 0] rfl rfl ?_
        exact ih l1 l2 (l3 + (Int32.ofInt 1)) S hf _
def fX4_placeOf (N : Nat) (v0 : Int32) (v1 : Int32) (S : yS) : Option Int32 := lX4_placeOf N N v0 v1 (Int32.ofInt 0) S
set_option maxRecDepth 4000 in
theorem tX4_placeOf {ro : xRo} {T : yK} {S : yS} {d N : Nat} {v0 : Int32} {v1 : Int32}  {q : Int32} (hf : fX4_placeOf N v0 v1 S = some q) : yEv ro xNo (yKx T) (d + 6) jX4_placeOf [.ref 124, .int v0, .int v1] S (some (.int q)) S := by
  refine ry_meth pX4_placeOf rfl (fun z => ?_)
  unfold fX4_placeOf at hf
  iterate 2 (refine ry_step rfl rfl ?_)
  refine ry_sub [1, 2, 3, 0] rfl rfl ?_
  exact uX4_placeOf (ro := ro) _ v0 v1 (Int32.ofInt 0) S hf _
def lX4_isAhead (N : Nat) : Nat → Int32 → Int32 → Int32 → Int32 → yS → Option Int32
  | 0, _, _, _, _, _ => none
  | n + 1, l1, l2, l3, l4, S => (if (Int32.ofInt 5) ≤ l4 then (if l3 ≤ 0 then some (Int32.ofInt 0) else some (Int32.ofInt 1)) else (fX4_placeOf N l4 l1 S).bind fun u2 => (fX4_placeOf N l4 l2 S).bind fun u4 => (if u4 ≤ u2 then (ain 5 l4).bind fun j5 => lX4_isAhead N n l1 l2 (l3 + (-(S.2.2.1 125 j5))) (l4 + (Int32.ofInt 1)) S else (ain 5 l4).bind fun j6 => lX4_isAhead N n l1 l2 (l3 + (S.2.2.1 125 j6)) (l4 + (Int32.ofInt 1)) S))
set_option maxRecDepth 4000 in
theorem uX4_isAhead {ro : xRo} {T : yK} {d N : Nat} : ∀ n : Nat, (∀ (l1 : Int32) (l2 : Int32) (l3 : Int32) (l4 : Int32) (S : yS) {q : Int32}, lX4_isAhead N n l1 l2 l3 l4 S = some q → ∀ z, Ry ro xNo (yKx T) z (d + 6) mX4_isAhead 5 [(0, .ref 124), (1, .int l1), (2, .int l2), (3, .int l3), (4, .int l4)] [] S (some (.int q), yH (yKx T) z S)) := by
  intro n
  induction n with
  | zero => exact (by intro _ _ _ _ _ _ hf; cases hf)
  | succ n ih =>
    intro l1 l2 l3 l4 S q hf z
    unfold lX4_isAhead at hf
    iterate 3 (refine ry_step rfl rfl ?_)
    refine ry_br hf (fun hc hf => ?_) (fun hc hf => ?_)
    · iterate 2 (refine ry_step rfl rfl ?_)
      refine ry_br hf (fun hc hf => ?_) (fun hc hf => ?_)
      · refine ry_step rfl rfl ?_
        cases hf
        exact ry_ret rfl rfl
      · iterate 2 (refine ry_step rfl rfl ?_)
        cases hf
        exact ry_ret rfl rfl
    · iterate 3 (refine ry_step rfl rfl ?_)
      obtain ⟨u2, hv1, hf⟩ := Option.bind_eq_some_iff.mp hf
      refine ry_call rfl rfl rfl rfl rfl (tX4_placeOf hv1) ?_
      iterate 3 (refine ry_step rfl rfl ?_)
      obtain ⟨u4, hv3, hf⟩ := Option.bind_eq_some_iff.mp hf
      refine ry_call rfl rfl rfl rfl rfl (tX4_placeOf hv3) ?_
      refine ry_step rfl rfl ?_
      refine ry_br hf (fun hc hf => ?_) (fun hc hf => ?_)
      · iterate 8 (refine ry_step rfl rfl ?_)
        refine ry_iald hf rfl rfl rfl (fun j5 hf => ?_)
        iterate 5 (refine ry_step rfl rfl ?_)
        refine ry_sub [3, 4, 5, 1, 0] rfl rfl ?_
        exact ih l1 l2 (l3 + (-(S.2.2.1 125 j5))) (l4 + (Int32.ofInt 1)) S hf _
      · iterate 9 (refine ry_step rfl rfl ?_)
        refine ry_iald hf rfl rfl rfl (fun j6 hf => ?_)
        iterate 5 (refine ry_step rfl rfl ?_)
        refine ry_sub [3, 4, 5, 1, 0] rfl rfl ?_
        exact ih l1 l2 (l3 + (S.2.2.1 125 j6)) (l4 + (Int32.ofInt 1)) S hf _
def fX4_isAhead (N : Nat) (v0 : Int32) (v1 : Int32) (S : yS) : Option Int32 := lX4_isAhead N N v0 v1 (Int32.ofInt 0) (Int32.ofInt 0) S
set_option maxRecDepth 4000 in
theorem tX4_isAhead {ro : xRo} {T : yK} {S : yS} {d N : Nat} {v0 : Int32} {v1 : Int32}  {q : Int32} (hf : fX4_isAhead N v0 v1 S = some q) : yEv ro xNo (yKx T) (d + 7) jX4_isAhead [.ref 124, .int v0, .int v1] S (some (.int q)) S := by
  refine ry_meth pX4_isAhead rfl (fun z => ?_)
  unfold fX4_isAhead at hf
  iterate 4 (refine ry_step rfl rfl ?_)
  refine ry_sub [2, 3, 4, 1, 0] rfl rfl ?_
  exact uX4_isAhead (ro := ro) _ v0 v1 (Int32.ofInt 0) (Int32.ofInt 0) S hf _
def lX4_aheadOfAll (N : Nat) : Nat → Nat → Int32 → Int32 → Int32 → yS → Option Int32
  | 0, _, _, _, _, _ => none
  | n + 1, m, l1, l2, l3, S => if m = 0 then (if (Int32.ofInt 4) ≤ l1 then some (Int32.ofInt (-1)) else lX4_aheadOfAll N n 1 l1 (Int32.ofInt 0) (Int32.ofInt 0) S) else (if (Int32.ofInt 4) ≤ l3 then (if ¬ l2 = (Int32.ofInt 3) then lX4_aheadOfAll N n 0 (l1 + (Int32.ofInt 1)) 0 0 S else some l1) else (if l3 = l1 then lX4_aheadOfAll N n 1 l1 l2 (l3 + (Int32.ofInt 1)) S else (fX4_isAhead N l1 l3 S).bind fun u2 => (if u2 = 0 then lX4_aheadOfAll N n 1 l1 l2 (l3 + (Int32.ofInt 1)) S else lX4_aheadOfAll N n 1 l1 (l2 + (Int32.ofInt 1)) (l3 + (Int32.ofInt 1)) S)))
set_option maxRecDepth 4000 in
theorem uX4_aheadOfAll {ro : xRo} {T : yK} {d N : Nat} : ∀ n : Nat, (∀ (l1 : Int32) (l2 : Int32) (l3 : Int32) (S : yS) {q : Int32}, lX4_aheadOfAll N n 0 l1 l2 l3 S = some q → ∀ z, Ry ro xNo (yKx T) z (d + 7) mX4_aheadOfAll 2 [(0, .ref 124), (1, .int l1)] [] S (some (.int q), yH (yKx T) z S)) ∧ (∀ (l1 : Int32) (l2 : Int32) (l3 : Int32) (S : yS) {q : Int32}, lX4_aheadOfAll N n 1 l1 l2 l3 S = some q → ∀ z, Ry ro xNo (yKx T) z (d + 7) mX4_aheadOfAll 11 [(0, .ref 124), (1, .int l1), (2, .int l2), (3, .int l3)] [] S (some (.int q), yH (yKx T) z S)) := by
  intro n
  induction n with
  | zero => exact ⟨(by intro _ _ _ _ _ hf; cases hf), (by intro _ _ _ _ _ hf; cases hf)⟩
  | succ n ih =>
    refine ⟨?_, ?_⟩
    · intro l1 l2 l3 S q hf z
      unfold lX4_aheadOfAll at hf
      rw [if_pos rfl] at hf
      iterate 3 (refine ry_step rfl rfl ?_)
      refine ry_br hf (fun hc hf => ?_) (fun hc hf => ?_)
      · refine ry_step rfl rfl ?_
        cases hf
        exact ry_ret rfl rfl
      · iterate 4 (refine ry_step rfl rfl ?_)
        refine ry_sub [2, 3, 1, 0] rfl rfl ?_
        exact ih.2 l1 (Int32.ofInt 0) (Int32.ofInt 0) S hf _
    · intro l1 l2 l3 S q hf z
      unfold lX4_aheadOfAll at hf
      rw [if_neg (by decide)] at hf; skip
      iterate 3 (refine ry_step rfl rfl ?_)
      refine ry_br hf (fun hc hf => ?_) (fun hc hf => ?_)
      · iterate 3 (refine ry_step rfl rfl ?_)
        refine ry_br hf (fun hc hf => ?_) (fun hc hf => ?_)
        · iterate 2 (refine ry_step rfl rfl ?_)
          refine ry_sub [1, 0] rfl rfl ?_
          exact ih.1 (l1 + (Int32.ofInt 1)) 0 0 S hf _
        · refine ry_step rfl rfl ?_
          cases hf
          exact ry_ret rfl rfl
      · iterate 3 (refine ry_step rfl rfl ?_)
        refine ry_br hf (fun hc hf => ?_) (fun hc hf => ?_)
        · iterate 2 (refine ry_step rfl rfl ?_)
          refine ry_sub [1, 2, 3, 0] rfl rfl ?_
          exact ih.2 l1 l2 (l3 + (Int32.ofInt 1)) S hf _
        · iterate 3 (refine ry_step rfl rfl ?_)
          obtain ⟨u2, hv1, hf⟩ := Option.bind_eq_some_iff.mp hf
          refine ry_call rfl rfl rfl rfl rfl (tX4_isAhead hv1) ?_
          refine ry_step rfl rfl ?_
          refine ry_br hf (fun hc hf => ?_) (fun hc hf => ?_)
          · iterate 2 (refine ry_step rfl rfl ?_)
            refine ry_sub [1, 2, 3, 0] rfl rfl ?_
            exact ih.2 l1 l2 (l3 + (Int32.ofInt 1)) S hf _
          · iterate 3 (refine ry_step rfl rfl ?_)
            refine ry_sub [2, 3, 1, 0] rfl rfl ?_
            exact ih.2 l1 (l2 + (Int32.ofInt 1)) (l3 + (Int32.ofInt 1)) S hf _
def fX4_aheadOfAll (N : Nat) (S : yS) : Option Int32 := lX4_aheadOfAll N N 0 (Int32.ofInt 0) 0 0 S
set_option maxRecDepth 4000 in
theorem tX4_aheadOfAll {ro : xRo} {T : yK} {S : yS} {d N : Nat}  {q : Int32} (hf : fX4_aheadOfAll N  S = some q) : yEv ro xNo (yKx T) (d + 8) jX4_aheadOfAll [.ref 124] S (some (.int q)) S := by
  refine ry_meth pX4_aheadOfAll rfl (fun z => ?_)
  unfold fX4_aheadOfAll at hf
  iterate 2 (refine ry_step rfl rfl ?_)
  refine ry_sub [1, 0] rfl rfl ?_
  exact (uX4_aheadOfAll (ro := ro) _).1 (Int32.ofInt 0) 0 0 S hf _
def lX4_pointsFor (N : Nat) : Nat → Int32 → Int32 → Int32 → yS → Option Int32
  | 0, _, _, _, _ => none
  | n + 1, l1, l2, l3, S => (if (Int32.ofInt 5) ≤ l3 then some l2 else (ain 5 l3).bind fun j1 => (fX4_placeOf N l3 l1 S).bind fun u3 => pSt (l2 + ((S.2.2.1 125 j1) * ((Int32.ofInt 3) - u3))) fun w4 => lX4_pointsFor N n l1 w4 (l3 + (Int32.ofInt 1)) S)
set_option maxRecDepth 4000 in
theorem uX4_pointsFor {ro : xRo} {T : yK} {d N : Nat} : ∀ n : Nat, (∀ (l1 : Int32) (l2 : Int32) (l3 : Int32) (S : yS) {q : Int32}, lX4_pointsFor N n l1 l2 l3 S = some q → ∀ z, Ry ro xNo (yKx T) z (d + 6) mX4_pointsFor 4 [(0, .ref 124), (1, .int l1), (2, .int l2), (3, .int l3)] [] S (some (.int q), yH (yKx T) z S)) := by
  intro n
  induction n with
  | zero => exact (by intro _ _ _ _ _ hf; cases hf)
  | succ n ih =>
    intro l1 l2 l3 S q hf z
    unfold lX4_pointsFor at hf
    iterate 3 (refine ry_step rfl rfl ?_)
    refine ry_br hf (fun hc hf => ?_) (fun hc hf => ?_)
    · refine ry_step rfl rfl ?_
      cases hf
      exact ry_ret rfl rfl
    · iterate 4 (refine ry_step rfl rfl ?_)
      refine ry_iald hf rfl rfl rfl (fun j1 hf => ?_)
      iterate 4 (refine ry_step rfl rfl ?_)
      obtain ⟨u3, hv2, hf⟩ := Option.bind_eq_some_iff.mp hf
      refine ry_call rfl rfl rfl rfl rfl (tX4_placeOf hv2) ?_
      iterate 3 (refine ry_step rfl rfl ?_)
      refine ry_nmi hf (fun w4 hf => ?_)
      iterate 3 (refine ry_step rfl rfl ?_)
      refine ry_sub [2, 3, 1, 0] rfl rfl ?_
      exact ih l1 w4 (l3 + (Int32.ofInt 1)) S hf _
def fX4_pointsFor (N : Nat) (v0 : Int32) (S : yS) : Option Int32 := lX4_pointsFor N N v0 (Int32.ofInt 0) (Int32.ofInt 0) S
set_option maxRecDepth 4000 in
theorem tX4_pointsFor {ro : xRo} {T : yK} {S : yS} {d N : Nat} {v0 : Int32}  {q : Int32} (hf : fX4_pointsFor N v0 S = some q) : yEv ro xNo (yKx T) (d + 7) jX4_pointsFor [.ref 124, .int v0] S (some (.int q)) S := by
  refine ry_meth pX4_pointsFor rfl (fun z => ?_)
  unfold fX4_pointsFor at hf
  iterate 4 (refine ry_step rfl rfl ?_)
  refine ry_sub [2, 3, 1, 0] rfl rfl ?_
  exact uX4_pointsFor (ro := ro) _ v0 (Int32.ofInt 0) (Int32.ofInt 0) S hf _
def lX4_firstVotes (N : Nat) : Nat → Nat → Int32 → Int32 → Int32 → Int32 → Int32 → yS → Option Int32
  | 0, _, _, _, _, _, _, _ => none
  | n + 1, m, l1, l2, l3, l4, l5, S => if m = 0 then (if (Int32.ofInt 5) ≤ l4 then some l3 else lX4_firstVotes N n 1 l1 l2 l3 l4 (Int32.ofInt 0) S) else (if (Int32.ofInt 3) ≤ l5 then (fX4_causeAt l4 l5 S).bind fun u2 => (if ¬ u2 = l1 then lX4_firstVotes N n 0 l1 l2 l3 (l4 + (Int32.ofInt 1)) 0 S else (ain 5 l4).bind fun j3 => lX4_firstVotes N n 0 l1 l2 (l3 + (S.2.2.1 125 j3)) (l4 + (Int32.ofInt 1)) 0 S) else (fX4_causeAt l4 l5 S).bind fun u5 => (if ¬ (fX11_isIn l2 u5) = 0 then (fX4_causeAt l4 l5 S).bind fun u7 => (if ¬ u7 = l1 then lX4_firstVotes N n 0 l1 l2 l3 (l4 + (Int32.ofInt 1)) 0 S else (ain 5 l4).bind fun j8 => lX4_firstVotes N n 0 l1 l2 (l3 + (S.2.2.1 125 j8)) (l4 + (Int32.ofInt 1)) 0 S) else lX4_firstVotes N n 1 l1 l2 l3 l4 (l5 + (Int32.ofInt 1)) S))
set_option maxRecDepth 4000 in
theorem uX4_firstVotes {ro : xRo} {T : yK} {d N : Nat} : ∀ n : Nat, (∀ (l1 : Int32) (l2 : Int32) (l3 : Int32) (l4 : Int32) (l5 : Int32) (S : yS) {q : Int32}, lX4_firstVotes N n 0 l1 l2 l3 l4 l5 S = some q → ∀ z, Ry ro xNo (yKx T) z (d + 5) mX4_firstVotes 5 [(0, .ref 124), (1, .int l1), (2, .int l2), (3, .int l3), (4, .int l4)] [] S (some (.int q), yH (yKx T) z S)) ∧ (∀ (l1 : Int32) (l2 : Int32) (l3 : Int32) (l4 : Int32) (l5 : Int32) (S : yS) {q : Int32}, lX4_firstVotes N n 1 l1 l2 l3 l4 l5 S = some q → ∀ z, Ry ro xNo (yKx T) z (d + 5) mX4_firstVotes 14 [(0, .ref 124), (1, .int l1), (2, .int l2), (3, .int l3), (4, .int l4), (5, .int l5)] [] S (some (.int q), yH (yKx T) z S)) := by
  intro n
  induction n with
  | zero => exact ⟨(by intro _ _ _ _ _ _ _ hf; cases hf), (by intro _ _ _ _ _ _ _ hf; cases hf)⟩
  | succ n ih =>
    refine ⟨?_, ?_⟩
    · intro l1 l2 l3 l4 l5 S q hf z
      unfold lX4_firstVotes at hf
      rw [if_pos rfl] at hf
      iterate 3 (refine ry_step rfl rfl ?_)
      refine ry_br hf (fun hc hf => ?_) (fun hc hf => ?_)
      · refine ry_step rfl rfl ?_
        cases hf
        exact ry_ret rfl rfl
      · iterate 2 (refine ry_step rfl rfl ?_)
        refine ry_sub [1, 2, 3, 4, 5, 0] rfl rfl ?_
        exact ih.2 l1 l2 l3 l4 (Int32.ofInt 0) S hf _
    · intro l1 l2 l3 l4 l5 S q hf z
      unfold lX4_firstVotes at hf
      rw [if_neg (by decide)] at hf; skip
      iterate 3 (refine ry_step rfl rfl ?_)
      refine ry_br hf (fun hc hf => ?_) (fun hc hf => ?_)
      · iterate 3 (refine ry_step rfl rfl ?_)
        obtain ⟨u2, hv1, hf⟩ := Option.bind_eq_some_iff.mp hf
        refine ry_call rfl rfl rfl rfl rfl (tX4_causeAt hv1) ?_
        iterate 2 (refine ry_step rfl rfl ?_)
        refine ry_br hf (fun hc hf => ?_) (fun hc hf => ?_)
        · iterate 2 (refine ry_step rfl rfl ?_)
          refine ry_sub [1, 2, 3, 4, 0] rfl rfl ?_
          exact ih.1 l1 l2 l3 (l4 + (Int32.ofInt 1)) 0 S hf _
        · iterate 4 (refine ry_step rfl rfl ?_)
          refine ry_iald hf rfl rfl rfl (fun j3 hf => ?_)
          iterate 4 (refine ry_step rfl rfl ?_)
          refine ry_sub [2, 3, 4, 1, 0] rfl rfl ?_
          exact ih.1 l1 l2 (l3 + (S.2.2.1 125 j3)) (l4 + (Int32.ofInt 1)) 0 S hf _
      · iterate 4 (refine ry_step rfl rfl ?_)
        obtain ⟨u5, hv4, hf⟩ := Option.bind_eq_some_iff.mp hf
        refine ry_call rfl rfl rfl rfl rfl (tX4_causeAt hv4) ?_
        refine ry_call rfl rfl rfl rfl rfl tX11_isIn ?_
        refine ry_step rfl rfl ?_
        refine ry_br hf (fun hc hf => ?_) (fun hc hf => ?_)
        · iterate 3 (refine ry_step rfl rfl ?_)
          obtain ⟨u7, hv6, hf⟩ := Option.bind_eq_some_iff.mp hf
          refine ry_call rfl rfl rfl rfl rfl (tX4_causeAt hv6) ?_
          iterate 2 (refine ry_step rfl rfl ?_)
          refine ry_br hf (fun hc hf => ?_) (fun hc hf => ?_)
          · iterate 2 (refine ry_step rfl rfl ?_)
            refine ry_sub [1, 2, 3, 4, 0] rfl rfl ?_
            exact ih.1 l1 l2 l3 (l4 + (Int32.ofInt 1)) 0 S hf _
          · iterate 4 (refine ry_step rfl rfl ?_)
            refine ry_iald hf rfl rfl rfl (fun j8 hf => ?_)
            iterate 4 (refine ry_step rfl rfl ?_)
            refine ry_sub [2, 3, 4, 1, 0] rfl rfl ?_
            exact ih.1 l1 l2 (l3 + (S.2.2.1 125 j8)) (l4 + (Int32.ofInt 1)) 0 S hf _
        · iterate 2 (refine ry_step rfl rfl ?_)
          refine ry_sub [1, 2, 3, 4, 5, 0] rfl rfl ?_
          exact ih.2 l1 l2 l3 l4 (l5 + (Int32.ofInt 1)) S hf _
def fX4_firstVotes (N : Nat) (v0 : Int32) (v1 : Int32) (S : yS) : Option Int32 := lX4_firstVotes N N 0 v0 v1 (Int32.ofInt 0) (Int32.ofInt 0) 0 S
set_option maxRecDepth 4000 in
theorem tX4_firstVotes {ro : xRo} {T : yK} {S : yS} {d N : Nat} {v0 : Int32} {v1 : Int32}  {q : Int32} (hf : fX4_firstVotes N v0 v1 S = some q) : yEv ro xNo (yKx T) (d + 6) jX4_firstVotes [.ref 124, .int v0, .int v1] S (some (.int q)) S := by
  refine ry_meth pX4_firstVotes rfl (fun z => ?_)
  unfold fX4_firstVotes at hf
  iterate 4 (refine ry_step rfl rfl ?_)
  refine ry_sub [2, 3, 4, 1, 0] rfl rfl ?_
  exact (uX4_firstVotes (ro := ro) _).1 v0 v1 (Int32.ofInt 0) (Int32.ofInt 0) 0 S hf _
def lX4_weakest (N : Nat) : Nat → Int32 → Int32 → Int32 → Int32 → yS → Option Int32
  | 0, _, _, _, _, _ => none
  | n + 1, l1, l2, l3, l4, S => (if (Int32.ofInt 4) ≤ l4 then some l2 else (if (fX11_isIn l1 l4) = 0 then lX4_weakest N n l1 l2 l3 (l4 + (Int32.ofInt 1)) S else (fX4_firstVotes N l4 l1 S).bind fun u2 => (if l3 < u2 then lX4_weakest N n l1 l2 l3 (l4 + (Int32.ofInt 1)) S else lX4_weakest N n l1 l4 u2 (l4 + (Int32.ofInt 1)) S)))
set_option maxRecDepth 4000 in
theorem uX4_weakest {ro : xRo} {T : yK} {d N : Nat} : ∀ n : Nat, (∀ (l1 : Int32) (l2 : Int32) (l3 : Int32) (l4 : Int32) (S : yS) {q : Int32}, lX4_weakest N n l1 l2 l3 l4 S = some q → ∀ z, Ry ro xNo (yKx T) z (d + 6) mX4_weakest 9 [(0, .ref 124), (1, .int l1), (2, .int l2), (3, .int l3), (4, .int l4)] [] S (some (.int q), yH (yKx T) z S)) := by
  intro n
  induction n with
  | zero => exact (by intro _ _ _ _ _ _ hf; cases hf)
  | succ n ih =>
    intro l1 l2 l3 l4 S q hf z
    unfold lX4_weakest at hf
    iterate 3 (refine ry_step rfl rfl ?_)
    refine ry_br hf (fun hc hf => ?_) (fun hc hf => ?_)
    · refine ry_step rfl rfl ?_
      cases hf
      exact ry_ret rfl rfl
    · iterate 2 (refine ry_step rfl rfl ?_)
      refine ry_call rfl rfl rfl rfl rfl tX11_isIn ?_
      refine ry_step rfl rfl ?_
      refine ry_br hf (fun hc hf => ?_) (fun hc hf => ?_)
      · iterate 2 (refine ry_step rfl rfl ?_)
        refine ry_sub [1, 2, 3, 4, 0] rfl rfl ?_
        exact ih l1 l2 l3 (l4 + (Int32.ofInt 1)) S hf _
      · iterate 3 (refine ry_step rfl rfl ?_)
        obtain ⟨u2, hv1, hf⟩ := Option.bind_eq_some_iff.mp hf
        refine ry_call rfl rfl rfl rfl rfl (tX4_firstVotes hv1) ?_
        iterate 4 (refine ry_step rfl rfl ?_)
        refine ry_br hf (fun hc hf => ?_) (fun hc hf => ?_)
        · iterate 2 (refine ry_step rfl rfl ?_)
          refine ry_sub [2, 3, 4, 5, 0] rfl rfl ?_
          exact ih l1 l2 l3 (l4 + (Int32.ofInt 1)) S hf _
        · iterate 6 (refine ry_step rfl rfl ?_)
          refine ry_sub [4, 5, 1, 2, 0] rfl rfl ?_
          exact ih l1 l4 u2 (l4 + (Int32.ofInt 1)) S hf _
def fX4_weakest (N : Nat) (v0 : Int32) (S : yS) : Option Int32 := lX4_weakest N N v0 (Int32.ofInt 0) (Int32.ofInt 4995) (Int32.ofInt 0) S
set_option maxRecDepth 4000 in
theorem tX4_weakest {ro : xRo} {T : yK} {S : yS} {d N : Nat} {v0 : Int32}  {q : Int32} (hf : fX4_weakest N v0 S = some q) : yEv ro xNo (yKx T) (d + 7) jX4_weakest [.ref 124, .int v0] S (some (.int q)) S := by
  refine ry_meth pX4_weakest rfl (fun z => ?_)
  unfold fX4_weakest at hf
  iterate 6 (refine ry_step rfl rfl ?_)
  refine ry_sub [3, 4, 2, 1, 0] rfl rfl ?_
  exact uX4_weakest (ro := ro) _ v0 (Int32.ofInt 0) (Int32.ofInt 4995) (Int32.ofInt 0) S hf _
def lX4_lastLeft (N : Nat) : Nat → Nat → Int32 → Int32 → yS → Option Int32
  | 0, _, _, _, _ => none
  | n + 1, m, l1, l2, S => if m = 0 then (if (Int32.ofInt 4) ≤ l2 then lX4_lastLeft N n 1 l1 (Int32.ofInt 0) S else (fX4_weakest N l1 S).bind fun u2 => pSt (l1 &&& (((Int32.ofInt 1) <<< (u2 &&& 31)) ^^^ (Int32.ofInt (-1)))) fun w3 => lX4_lastLeft N n 0 w3 (l2 + (Int32.ofInt 1)) S) else (if (Int32.ofInt 3) ≤ l2 then some l2 else (if ¬ (fX11_isIn l1 l2) = 0 then some l2 else lX4_lastLeft N n 1 l1 (l2 + (Int32.ofInt 1)) S))
set_option maxRecDepth 4000 in
theorem uX4_lastLeft {ro : xRo} {T : yK} {d N : Nat} : ∀ n : Nat, (∀ (l1 : Int32) (l2 : Int32) (S : yS) {q : Int32}, lX4_lastLeft N n 0 l1 l2 S = some q → ∀ z, Ry ro xNo (yKx T) z (d + 7) mX4_lastLeft 5 [(0, .ref 124), (1, .int l1), (2, .int l2)] [] S (some (.int q), yH (yKx T) z S)) ∧ (∀ (l1 : Int32) (l2 : Int32) (S : yS) {q : Int32}, lX4_lastLeft N n 1 l1 l2 S = some q → ∀ z, Ry ro xNo (yKx T) z (d + 7) mX4_lastLeft 30 [(1, .int l1), (2, .int l2)] [] S (some (.int q), yH (yKx T) z S)) := by
  intro n
  induction n with
  | zero => exact ⟨(by intro _ _ _ _ hf; cases hf), (by intro _ _ _ _ hf; cases hf)⟩
  | succ n ih =>
    refine ⟨?_, ?_⟩
    · intro l1 l2 S q hf z
      unfold lX4_lastLeft at hf
      rw [if_pos rfl] at hf
      iterate 3 (refine ry_step rfl rfl ?_)
      refine ry_br hf (fun hc hf => ?_) (fun hc hf => ?_)
      · iterate 2 (refine ry_step rfl rfl ?_)
        refine ry_sub [2, 0] rfl rfl ?_
        exact ih.2 l1 (Int32.ofInt 0) S hf _
      · iterate 4 (refine ry_step rfl rfl ?_)
        obtain ⟨u2, hv1, hf⟩ := Option.bind_eq_some_iff.mp hf
        refine ry_call rfl rfl rfl rfl rfl (tX4_weakest hv1) ?_
        iterate 4 (refine ry_step rfl rfl ?_)
        refine ry_nmi hf (fun w3 hf => ?_)
        iterate 3 (refine ry_step rfl rfl ?_)
        refine ry_sub [2, 1, 0] rfl rfl ?_
        exact ih.1 w3 (l2 + (Int32.ofInt 1)) S hf _
    · intro l1 l2 S q hf z
      unfold lX4_lastLeft at hf
      rw [if_neg (by decide)] at hf; skip
      iterate 3 (refine ry_step rfl rfl ?_)
      refine ry_br hf (fun hc hf => ?_) (fun hc hf => ?_)
      · refine ry_step rfl rfl ?_
        cases hf
        exact ry_ret rfl rfl
      · iterate 2 (refine ry_step rfl rfl ?_)
        refine ry_call rfl rfl rfl rfl rfl tX11_isIn ?_
        refine ry_step rfl rfl ?_
        refine ry_br hf (fun hc hf => ?_) (fun hc hf => ?_)
        · refine ry_step rfl rfl ?_
          cases hf
          exact ry_ret rfl rfl
        · iterate 2 (refine ry_step rfl rfl ?_)
          refine ry_sub [1, 0] rfl rfl ?_
          exact ih.2 l1 (l2 + (Int32.ofInt 1)) S hf _
def fX4_lastLeft (N : Nat) (S : yS) : Option Int32 := lX4_lastLeft N N 0 (Int32.ofInt 15) (Int32.ofInt 1) S
set_option maxRecDepth 4000 in
theorem tX4_lastLeft {ro : xRo} {T : yK} {S : yS} {d N : Nat}  {q : Int32} (hf : fX4_lastLeft N  S = some q) : yEv ro xNo (yKx T) (d + 8) jX4_lastLeft [.ref 124] S (some (.int q)) S := by
  refine ry_meth pX4_lastLeft rfl (fun z => ?_)
  unfold fX4_lastLeft at hf
  iterate 4 (refine ry_step rfl rfl ?_)
  refine ry_sub [2, 1, 0] rfl rfl ?_
  exact (uX4_lastLeft (ro := ro) _).1 (Int32.ofInt 15) (Int32.ofInt 1) S hf _
def fX9_scanSign (N : Nat) (v0 : Int32) (S : yS) : Option (Int32 × yS) := (ain 300 v0).bind fun j1 => (fSgn (Int32.toUInt32 (S.2.2.1 252 j1) % 65536).toInt32).bind fun u2 => (if 0 ≤ u2 then (if (Int32.ofInt 1) < u2 then (fX9_put (u2 + (Int32.ofInt 25)) v0 (Int32.ofInt 0) S).bind fun S5 => some ((Int32.ofInt 1), S5) else (if (S.1 251 1) ≤ (v0 + (Int32.ofInt 1)) then (fX9_put (u2 + (Int32.ofInt 25)) v0 (Int32.ofInt 0) S).bind fun S7 => some ((Int32.ofInt 1), S7) else (ain 300 (v0 + (Int32.ofInt 1))).bind fun j8 => (if ¬ (S.2.2.1 252 j8) = (Int32.ofInt 61) then (fX9_put (u2 + (Int32.ofInt 25)) v0 (Int32.ofInt 0) S).bind fun S10 => some ((Int32.ofInt 1), S10) else (fX9_put (u2 + (Int32.ofInt 36)) v0 (Int32.ofInt 0) S).bind fun S12 => some ((Int32.ofInt 2), S12)))) else (fX9_put (Int32.ofInt 39) v0 (Int32.ofInt 0) S).bind fun S14 => some ((Int32.ofInt 1), S14))
set_option maxRecDepth 4000 in
theorem tX9_scanSign {ro : xRo} {T : yK} {S : yS} {d N : Nat} {v0 : Int32}  {q : Int32} {S' : yS} (hf : fX9_scanSign N v0 S = some (q, S')) : yEv ro xNo (yKx T) (d + 5) jX9_scanSign [.ref 251, .int v0] S (some (.int q)) S' := by
  refine ry_meth pX9_scanSign rfl (fun z => ?_)
  unfold fX9_scanSign at hf
  iterate 4 (refine ry_step rfl rfl ?_)
  refine ry_iald hf rfl rfl rfl (fun j1 hf => ?_)
  refine ry_step rfl rfl ?_
  obtain ⟨u2, hv3, hf⟩ := Option.bind_eq_some_iff.mp hf
  refine ry_call rfl rfl rfl rfl rfl (tJ0_indexOf hv3) ?_
  iterate 3 (refine ry_step rfl rfl ?_)
  refine ry_br hf (fun hc hf => ?_) (fun hc hf => ?_)
  · iterate 3 (refine ry_step rfl rfl ?_)
    refine ry_br hf (fun hc hf => ?_) (fun hc hf => ?_)
    · iterate 10 (refine ry_step rfl rfl ?_)
      obtain ⟨S5, hv4, hf⟩ := Option.bind_eq_some_iff.mp hf
      refine ry_call rfl rfl rfl rfl rfl (tX9_put hv4) ?_
      iterate 3 (refine ry_step rfl rfl ?_)
      cases hf
      exact ry_ret rfl rfl
    · iterate 6 (refine ry_step rfl rfl ?_)
      refine ry_br hf (fun hc hf => ?_) (fun hc hf => ?_)
      · iterate 10 (refine ry_step rfl rfl ?_)
        obtain ⟨S7, hv6, hf⟩ := Option.bind_eq_some_iff.mp hf
        refine ry_call rfl rfl rfl rfl rfl (tX9_put hv6) ?_
        iterate 3 (refine ry_step rfl rfl ?_)
        cases hf
        exact ry_ret rfl rfl
      · iterate 5 (refine ry_step rfl rfl ?_)
        refine ry_iald hf rfl rfl rfl (fun j8 hf => ?_)
        iterate 2 (refine ry_step rfl rfl ?_)
        refine ry_br hf (fun hc hf => ?_) (fun hc hf => ?_)
        · iterate 10 (refine ry_step rfl rfl ?_)
          obtain ⟨S10, hv9, hf⟩ := Option.bind_eq_some_iff.mp hf
          refine ry_call rfl rfl rfl rfl rfl (tX9_put hv9) ?_
          iterate 3 (refine ry_step rfl rfl ?_)
          cases hf
          exact ry_ret rfl rfl
        · iterate 12 (refine ry_step rfl rfl ?_)
          obtain ⟨S12, hv11, hf⟩ := Option.bind_eq_some_iff.mp hf
          refine ry_call rfl rfl rfl rfl rfl (tX9_put hv11) ?_
          iterate 4 (refine ry_step rfl rfl ?_)
          cases hf
          exact ry_ret rfl rfl
  · iterate 4 (refine ry_step rfl rfl ?_)
    obtain ⟨S14, hv13, hf⟩ := Option.bind_eq_some_iff.mp hf
    refine ry_call rfl rfl rfl rfl rfl (tX9_put hv13) ?_
    refine ry_step rfl rfl ?_
    cases hf
    exact ry_ret rfl rfl
def lX9_kindOfWord (N : Nat) : Nat → Nat → Int32 → Int32 → Int32 → Int32 → yS → Option Int32
  | 0, _, _, _, _, _, _ => none
  | n + 1, m, l1, l2, l3, l4, S => if m = 0 then (if (Int32.ofInt 25) ≤ l3 then some (Int32.ofInt 39) else (if (Int32.ofInt 6) < l2 then some (Int32.ofInt 39) else lX9_kindOfWord N n 1 l1 l2 l3 (Int32.ofInt 0) S)) else (if l2 ≤ l4 then (if l2 = (Int32.ofInt 6) then (if ¬ l4 = l2 then lX9_kindOfWord N n 0 l1 l2 (l3 + (Int32.ofInt 1)) 0 S else some l3) else ((ain 150 ((l3 * (Int32.ofInt 6)) + l2)).bind fun j => some (xBy0.getD j 0)).bind fun u1 => (if ¬ u1 = (Int32.ofInt 32) then (if ¬ l4 = l2 then lX9_kindOfWord N n 0 l1 l2 (l3 + (Int32.ofInt 1)) 0 S else lX9_kindOfWord N n 0 l1 l2 (l3 + (Int32.ofInt 1)) 0 S) else (if ¬ l4 = l2 then lX9_kindOfWord N n 0 l1 l2 (l3 + (Int32.ofInt 1)) 0 S else some l3))) else ((ain 150 ((l3 * (Int32.ofInt 6)) + l4)).bind fun j => some (xBy0.getD j 0)).bind fun u3 => (ain 300 (l1 + l4)).bind fun j5 => (if ¬ u3 = (S.2.2.1 252 j5) then (if l2 = (Int32.ofInt 6) then (if ¬ l4 = l2 then lX9_kindOfWord N n 0 l1 l2 (l3 + (Int32.ofInt 1)) 0 S else some l3) else ((ain 150 ((l3 * (Int32.ofInt 6)) + l2)).bind fun j => some (xBy0.getD j 0)).bind fun u6 => (if ¬ u6 = (Int32.ofInt 32) then (if ¬ l4 = l2 then lX9_kindOfWord N n 0 l1 l2 (l3 + (Int32.ofInt 1)) 0 S else lX9_kindOfWord N n 0 l1 l2 (l3 + (Int32.ofInt 1)) 0 S) else (if ¬ l4 = l2 then lX9_kindOfWord N n 0 l1 l2 (l3 + (Int32.ofInt 1)) 0 S else some l3))) else lX9_kindOfWord N n 1 l1 l2 l3 (l4 + (Int32.ofInt 1)) S))
set_option maxRecDepth 4000 in
theorem uX9_kindOfWord {ro : xRo} {T : yK} {d N : Nat} : ∀ n : Nat, (∀ (l1 : Int32) (l2 : Int32) (l3 : Int32) (l4 : Int32) (S : yS) {q : Int32}, lX9_kindOfWord N n 0 l1 l2 l3 l4 S = some q → ∀ z, Ry ro xNo (yKx T) z (d + 4) mX9_kindOfWord 2 [(0, .ref 251), (1, .int l1), (2, .int l2), (3, .int l3)] [] S (some (.int q), yH (yKx T) z S)) ∧ (∀ (l1 : Int32) (l2 : Int32) (l3 : Int32) (l4 : Int32) (S : yS) {q : Int32}, lX9_kindOfWord N n 1 l1 l2 l3 l4 S = some q → ∀ z, Ry ro xNo (yKx T) z (d + 4) mX9_kindOfWord 17 [(0, .ref 251), (1, .int l1), (2, .int l2), (3, .int l3), (4, .int l4)] [] S (some (.int q), yH (yKx T) z S)) := by
  intro n
  induction n with
  | zero => exact ⟨(by intro _ _ _ _ _ _ hf; cases hf), (by intro _ _ _ _ _ _ hf; cases hf)⟩
  | succ n ih =>
    refine ⟨?_, ?_⟩
    · intro l1 l2 l3 l4 S q hf z
      unfold lX9_kindOfWord at hf
      rw [if_pos rfl] at hf
      iterate 3 (refine ry_step rfl rfl ?_)
      refine ry_br hf (fun hc hf => ?_) (fun hc hf => ?_)
      · refine ry_step rfl rfl ?_
        cases hf
        exact ry_ret rfl rfl
      · iterate 3 (refine ry_step rfl rfl ?_)
        refine ry_br hf (fun hc hf => ?_) (fun hc hf => ?_)
        · refine ry_step rfl rfl ?_
          cases hf
          exact ry_ret rfl rfl
        · iterate 2 (refine ry_step rfl rfl ?_)
          refine ry_sub [1, 2, 3, 4, 0] rfl rfl ?_
          exact ih.2 l1 l2 l3 (Int32.ofInt 0) S hf _
    · intro l1 l2 l3 l4 S q hf z
      unfold lX9_kindOfWord at hf
      rw [if_neg (by decide)] at hf; skip
      iterate 3 (refine ry_step rfl rfl ?_)
      refine ry_br hf (fun hc hf => ?_) (fun hc hf => ?_)
      · iterate 3 (refine ry_step rfl rfl ?_)
        refine ry_br hf (fun hc hf => ?_) (fun hc hf => ?_)
        · iterate 6 (refine ry_step rfl rfl ?_)
          refine ry_br hf (fun hc hf => ?_) (fun hc hf => ?_)
          · iterate 2 (refine ry_step rfl rfl ?_)
            refine ry_sub [2, 3, 4, 0] rfl rfl ?_
            exact ih.1 l1 l2 (l3 + (Int32.ofInt 1)) 0 S hf _
          · iterate 3 (refine ry_step rfl rfl ?_)
            cases hf
            exact ry_ret rfl rfl
        · iterate 6 (refine ry_step rfl rfl ?_)
          obtain ⟨u1, hv2, hf⟩ := Option.bind_eq_some_iff.mp hf
          refine ry_call rfl rfl rfl rfl rfl (tJ0_charAt_2 hv2) ?_
          iterate 2 (refine ry_step rfl rfl ?_)
          refine ry_br hf (fun hc hf => ?_) (fun hc hf => ?_)
          · iterate 5 (refine ry_step rfl rfl ?_)
            refine ry_br hf (fun hc hf => ?_) (fun hc hf => ?_)
            · iterate 2 (refine ry_step rfl rfl ?_)
              refine ry_sub [2, 3, 4, 0] rfl rfl ?_
              exact ih.1 l1 l2 (l3 + (Int32.ofInt 1)) 0 S hf _
            · iterate 4 (refine ry_step rfl rfl ?_)
              refine ry_sub [2, 3, 4, 0] rfl rfl ?_
              exact ih.1 l1 l2 (l3 + (Int32.ofInt 1)) 0 S hf _
          · iterate 6 (refine ry_step rfl rfl ?_)
            refine ry_br hf (fun hc hf => ?_) (fun hc hf => ?_)
            · iterate 2 (refine ry_step rfl rfl ?_)
              refine ry_sub [2, 3, 4, 0] rfl rfl ?_
              exact ih.1 l1 l2 (l3 + (Int32.ofInt 1)) 0 S hf _
            · iterate 3 (refine ry_step rfl rfl ?_)
              cases hf
              exact ry_ret rfl rfl
      · iterate 6 (refine ry_step rfl rfl ?_)
        obtain ⟨u3, hv4, hf⟩ := Option.bind_eq_some_iff.mp hf
        refine ry_call rfl rfl rfl rfl rfl (tJ0_charAt_2 hv4) ?_
        iterate 5 (refine ry_step rfl rfl ?_)
        refine ry_iald hf rfl rfl rfl (fun j5 hf => ?_)
        refine ry_step rfl rfl ?_
        refine ry_br hf (fun hc hf => ?_) (fun hc hf => ?_)
        · iterate 3 (refine ry_step rfl rfl ?_)
          refine ry_br hf (fun hc hf => ?_) (fun hc hf => ?_)
          · iterate 6 (refine ry_step rfl rfl ?_)
            refine ry_br hf (fun hc hf => ?_) (fun hc hf => ?_)
            · iterate 2 (refine ry_step rfl rfl ?_)
              refine ry_sub [2, 3, 4, 0] rfl rfl ?_
              exact ih.1 l1 l2 (l3 + (Int32.ofInt 1)) 0 S hf _
            · iterate 3 (refine ry_step rfl rfl ?_)
              cases hf
              exact ry_ret rfl rfl
          · iterate 6 (refine ry_step rfl rfl ?_)
            obtain ⟨u6, hv7, hf⟩ := Option.bind_eq_some_iff.mp hf
            refine ry_call rfl rfl rfl rfl rfl (tJ0_charAt_2 hv7) ?_
            iterate 2 (refine ry_step rfl rfl ?_)
            refine ry_br hf (fun hc hf => ?_) (fun hc hf => ?_)
            · iterate 5 (refine ry_step rfl rfl ?_)
              refine ry_br hf (fun hc hf => ?_) (fun hc hf => ?_)
              · iterate 2 (refine ry_step rfl rfl ?_)
                refine ry_sub [2, 3, 4, 0] rfl rfl ?_
                exact ih.1 l1 l2 (l3 + (Int32.ofInt 1)) 0 S hf _
              · iterate 4 (refine ry_step rfl rfl ?_)
                refine ry_sub [2, 3, 4, 0] rfl rfl ?_
                exact ih.1 l1 l2 (l3 + (Int32.ofInt 1)) 0 S hf _
            · iterate 6 (refine ry_step rfl rfl ?_)
              refine ry_br hf (fun hc hf => ?_) (fun hc hf => ?_)
              · iterate 2 (refine ry_step rfl rfl ?_)
                refine ry_sub [2, 3, 4, 0] rfl rfl ?_
                exact ih.1 l1 l2 (l3 + (Int32.ofInt 1)) 0 S hf _
              · iterate 3 (refine ry_step rfl rfl ?_)
                cases hf
                exact ry_ret rfl rfl
        · iterate 2 (refine ry_step rfl rfl ?_)
          refine ry_sub [1, 2, 3, 4, 0] rfl rfl ?_
          exact ih.2 l1 l2 l3 (l4 + (Int32.ofInt 1)) S hf _
def fX9_kindOfWord (N : Nat) (v0 : Int32) (v1 : Int32) (S : yS) : Option Int32 := lX9_kindOfWord N N 0 v0 v1 (Int32.ofInt 0) 0 S
set_option maxRecDepth 4000 in
theorem tX9_kindOfWord {ro : xRo} {T : yK} {S : yS} {d N : Nat} {v0 : Int32} {v1 : Int32}  {q : Int32} (hf : fX9_kindOfWord N v0 v1 S = some q) : yEv ro xNo (yKx T) (d + 5) jX9_kindOfWord [.ref 251, .int v0, .int v1] S (some (.int q)) S := by
  refine ry_meth pX9_kindOfWord rfl (fun z => ?_)
  unfold fX9_kindOfWord at hf
  iterate 2 (refine ry_step rfl rfl ?_)
  refine ry_sub [1, 2, 3, 0] rfl rfl ?_
  exact (uX9_kindOfWord (ro := ro) _).1 v0 v1 (Int32.ofInt 0) 0 S hf _
def lX9_scanWord (N : Nat) : Nat → Int32 → Int32 → yS → Option (Int32 × yS)
  | 0, _, _, _ => none
  | n + 1, l1, l2, S => (if (S.1 251 1) ≤ l2 then (fX9_kindOfWord N l1 (l2 - l1) S).bind fun u2 => (fX9_put u2 l1 (Int32.ofInt 0) S).bind fun S4 => some ((l2 - l1), S4) else (ain 300 l2).bind fun j5 => (if (fX9_isLetter (S.2.2.1 252 j5)) = 0 then (fX9_kindOfWord N l1 (l2 - l1) S).bind fun u7 => (fX9_put u7 l1 (Int32.ofInt 0) S).bind fun S9 => some ((l2 - l1), S9) else lX9_scanWord N n l1 (l2 + (Int32.ofInt 1)) S))
set_option maxRecDepth 4000 in
theorem uX9_scanWord {ro : xRo} {T : yK} {d N : Nat} : ∀ n : Nat, (∀ (l1 : Int32) (l2 : Int32) (S : yS) {q : Int32} {S' : yS}, lX9_scanWord N n l1 l2 S = some (q, S') → ∀ z, Ry ro xNo (yKx T) z (d + 5) mX9_scanWord 4 [(0, .ref 251), (1, .int l1), (2, .int l2)] [] S (some (.int q), yH (yKx T) z S')) := by
  intro n
  induction n with
  | zero => exact (by intro _ _ _ _ _ hf; cases hf)
  | succ n ih =>
    intro l1 l2 S q S' hf z
    unfold lX9_scanWord at hf
    iterate 4 (refine ry_step rfl rfl ?_)
    refine ry_br hf (fun hc hf => ?_) (fun hc hf => ?_)
    · iterate 6 (refine ry_step rfl rfl ?_)
      obtain ⟨u2, hv1, hf⟩ := Option.bind_eq_some_iff.mp hf
      refine ry_call rfl rfl rfl rfl rfl (tX9_kindOfWord hv1) ?_
      iterate 2 (refine ry_step rfl rfl ?_)
      obtain ⟨S4, hv3, hf⟩ := Option.bind_eq_some_iff.mp hf
      refine ry_call rfl rfl rfl rfl rfl (tX9_put hv3) ?_
      iterate 3 (refine ry_step rfl rfl ?_)
      cases hf
      exact ry_ret rfl rfl
    · iterate 3 (refine ry_step rfl rfl ?_)
      refine ry_iald hf rfl rfl rfl (fun j5 hf => ?_)
      refine ry_call rfl rfl rfl rfl rfl tX9_isLetter ?_
      refine ry_step rfl rfl ?_
      refine ry_br hf (fun hc hf => ?_) (fun hc hf => ?_)
      · iterate 6 (refine ry_step rfl rfl ?_)
        obtain ⟨u7, hv6, hf⟩ := Option.bind_eq_some_iff.mp hf
        refine ry_call rfl rfl rfl rfl rfl (tX9_kindOfWord hv6) ?_
        iterate 2 (refine ry_step rfl rfl ?_)
        obtain ⟨S9, hv8, hf⟩ := Option.bind_eq_some_iff.mp hf
        refine ry_call rfl rfl rfl rfl rfl (tX9_put hv8) ?_
        iterate 3 (refine ry_step rfl rfl ?_)
        cases hf
        exact ry_ret rfl rfl
      · iterate 2 (refine ry_step rfl rfl ?_)
        refine ry_sub [1, 2, 0] rfl rfl ?_
        exact ih l1 (l2 + (Int32.ofInt 1)) S hf _
def fX9_scanWord (N : Nat) (v0 : Int32) (S : yS) : Option (Int32 × yS) := lX9_scanWord N N v0 (v0 + (Int32.ofInt 1)) S
set_option maxRecDepth 4000 in
theorem tX9_scanWord {ro : xRo} {T : yK} {S : yS} {d N : Nat} {v0 : Int32}  {q : Int32} {S' : yS} (hf : fX9_scanWord N v0 S = some (q, S')) : yEv ro xNo (yKx T) (d + 6) jX9_scanWord [.ref 251, .int v0] S (some (.int q)) S' := by
  refine ry_meth pX9_scanWord rfl (fun z => ?_)
  unfold fX9_scanWord at hf
  iterate 4 (refine ry_step rfl rfl ?_)
  refine ry_sub [1, 2, 0] rfl rfl ?_
  exact uX9_scanWord (ro := ro) _ v0 (v0 + (Int32.ofInt 1)) S hf _
def fX9_scanToken (N : Nat) (v0 : Int32) (S : yS) : Option (Int32 × yS) := (ain 300 v0).bind fun j1 => (if (fX9_isLetter (S.2.2.1 252 j1)) = 0 then (ain 300 v0).bind fun j2 => (if (fX9_isDigit (S.2.2.1 252 j2)) = 0 then (fX9_scanSign N v0 S).bind fun (u5, S4) => some (u5, S4) else (fX9_scanNumber N v0 S).bind fun (u8, S7) => some (u8, S7)) else (fX9_scanWord N v0 S).bind fun (u11, S10) => some (u11, S10))
set_option maxRecDepth 4000 in
theorem tX9_scanToken {ro : xRo} {T : yK} {S : yS} {d N : Nat} {v0 : Int32}  {q : Int32} {S' : yS} (hf : fX9_scanToken N v0 S = some (q, S')) : yEv ro xNo (yKx T) (d + 7) jX9_scanToken [.ref 251, .int v0] S (some (.int q)) S' := by
  refine ry_meth pX9_scanToken rfl (fun z => ?_)
  unfold fX9_scanToken at hf
  iterate 3 (refine ry_step rfl rfl ?_)
  refine ry_iald hf rfl rfl rfl (fun j1 hf => ?_)
  refine ry_call rfl rfl rfl rfl rfl tX9_isLetter ?_
  refine ry_step rfl rfl ?_
  refine ry_br hf (fun hc hf => ?_) (fun hc hf => ?_)
  · iterate 3 (refine ry_step rfl rfl ?_)
    refine ry_iald hf rfl rfl rfl (fun j2 hf => ?_)
    refine ry_call rfl rfl rfl rfl rfl tX9_isDigit ?_
    refine ry_step rfl rfl ?_
    refine ry_br hf (fun hc hf => ?_) (fun hc hf => ?_)
    · iterate 2 (refine ry_step rfl rfl ?_)
      obtain ⟨⟨u5, S4⟩, hv3, hf⟩ := Option.bind_eq_some_iff.mp hf
      dsimp only at hf
      refine ry_call rfl rfl rfl rfl rfl (tX9_scanSign hv3) ?_
      cases hf
      exact ry_ret rfl rfl
    · iterate 2 (refine ry_step rfl rfl ?_)
      obtain ⟨⟨u8, S7⟩, hv6, hf⟩ := Option.bind_eq_some_iff.mp hf
      dsimp only at hf
      refine ry_call rfl rfl rfl rfl rfl (tX9_scanNumber hv6) ?_
      refine ry_step rfl rfl ?_
      cases hf
      exact ry_ret rfl rfl
  · iterate 2 (refine ry_step rfl rfl ?_)
    obtain ⟨⟨u11, S10⟩, hv9, hf⟩ := Option.bind_eq_some_iff.mp hf
    dsimp only at hf
    refine ry_call rfl rfl rfl rfl rfl (tX9_scanWord hv9) ?_
    cases hf
    exact ry_ret rfl rfl
def lX9_scan (N : Nat) : Nat → Int32 → yS → Option yS
  | 0, _, _ => none
  | n + 1, l1, S => (if (S.1 251 1) ≤ l1 then (fX9_put (Int32.ofInt 40) (S.1 251 1) (Int32.ofInt 0) S).bind fun S3 => some S3 else (ain 300 l1).bind fun j4 => (if (S.2.2.1 252 j4) = (Int32.ofInt 32) then lX9_scan N n (l1 + (Int32.ofInt 1)) S else (ain 300 l1).bind fun j5 => (if ¬ (S.2.2.1 252 j5) = (Int32.ofInt 10) then (fX9_scanToken N l1 S).bind fun (u8, S7) => pSt (l1 + (if (Int32.ofInt 1) < u8 then u8 else (Int32.ofInt 1))) fun w9 => lX9_scan N n w9 S7 else lX9_scan N n (l1 + (Int32.ofInt 1)) S)))
set_option maxRecDepth 4000 in
theorem uX9_scan {ro : xRo} {T : yK} {d N : Nat} : ∀ n : Nat, (∀ (l1 : Int32) (S : yS) {S' : yS}, lX9_scan N n l1 S = some S' → ∀ z, Ry ro xNo (yKx T) z (d + 7) mX9_scan 7 [(0, .ref 251), (1, .int l1)] [] S (none, yH (yKx T) z S')) := by
  intro n
  induction n with
  | zero => exact (by intro _ _ _ hf; cases hf)
  | succ n ih =>
    intro l1 S S' hf z
    unfold lX9_scan at hf
    iterate 4 (refine ry_step rfl rfl ?_)
    refine ry_br hf (fun hc hf => ?_) (fun hc hf => ?_)
    · iterate 5 (refine ry_step rfl rfl ?_)
      obtain ⟨S3, hv2, hf⟩ := Option.bind_eq_some_iff.mp hf
      refine ry_call rfl rfl rfl rfl rfl (tX9_put hv2) ?_
      cases hf
      exact ry_ret rfl rfl
    · iterate 3 (refine ry_step rfl rfl ?_)
      refine ry_iald hf rfl rfl rfl (fun j4 hf => ?_)
      iterate 2 (refine ry_step rfl rfl ?_)
      refine ry_br hf (fun hc hf => ?_) (fun hc hf => ?_)
      · iterate 2 (refine ry_step rfl rfl ?_)
        refine ry_sub [1, 0] rfl rfl ?_
        exact ih (l1 + (Int32.ofInt 1)) S hf _
      · iterate 3 (refine ry_step rfl rfl ?_)
        refine ry_iald hf rfl rfl rfl (fun j5 hf => ?_)
        iterate 2 (refine ry_step rfl rfl ?_)
        refine ry_br hf (fun hc hf => ?_) (fun hc hf => ?_)
        · iterate 4 (refine ry_step rfl rfl ?_)
          obtain ⟨⟨u8, S7⟩, hv6, hf⟩ := Option.bind_eq_some_iff.mp hf
          dsimp only at hf
          refine ry_call rfl rfl rfl rfl rfl (tX9_scanToken hv6) ?_
          iterate 2 (refine ry_step rfl rfl ?_)
          refine ry_nmi hf (fun w9 hf => ?_)
          iterate 2 (refine ry_step rfl rfl ?_)
          refine ry_sub [1, 0] rfl rfl ?_
          exact ih w9 S7 hf _
        · iterate 2 (refine ry_step rfl rfl ?_)
          refine ry_sub [1, 0] rfl rfl ?_
          exact ih (l1 + (Int32.ofInt 1)) S hf _
def fX9_scan (N : Nat) (S : yS) : Option yS := pSt (ySi S 251 5 (Int32.ofInt 0)) fun S1 => lX9_scan N N (Int32.ofInt 0) S1
set_option maxRecDepth 4000 in
theorem tX9_scan {ro : xRo} {T : yK} {S : yS} {d N : Nat}  {S' : yS} (hf : fX9_scan N  S = some S') : yEv ro xNo (yKx T) (d + 8) jX9_scan [.ref 251] S (none) S' := by
  refine ry_meth pX9_scan rfl (fun z => ?_)
  unfold fX9_scan at hf
  iterate 2 (refine ry_step rfl rfl ?_)
  refine ry_stepS hf rfl rfl (fun S1 hf => ?_)
  iterate 2 (refine ry_step rfl rfl ?_)
  refine ry_sub [1, 0] rfl rfl ?_
  exact uX9_scan (ro := ro) _ (Int32.ofInt 0) S1 hf _
def lX11_played (N : Nat) (T : yK) (t2 : Nat) : Nat → Int32 → yS → Option (Int32 × yS)
  | 0, _, _ => none
  | n + 1, l3, S => (if (Int32.ofNat (tLn T (t2 + 3))) ≤ l3 then some ((Int32.ofInt (-1)), S) else (ain (tLn T (t2 + 3)) l3).bind fun j4 => (ain (tLn T (t2 + 4)) l3).bind fun j5 => (ain (tLn T (t2 + 5)) l3).bind fun j6 => (fX11_playClause N T (S.2.2.1 (t2 + 3) j4) (S.2.2.1 (t2 + 4) j5) (S.2.2.1 (t2 + 5) j6) S).bind fun (u9, S8) => (if ¬ u9 = 0 then lX11_played N T t2 n (l3 + (Int32.ofInt 1)) S8 else some (l3, S8)))
set_option maxRecDepth 4000 in
theorem uX11_played {ro : xRo} {T : yK} {d N : Nat} {t2 : Nat} (ht2 : yTx T t2 = true) : ∀ n : Nat, (∀ (l3 : Int32) (S : yS) {q : Int32} {S' : yS}, lX11_played N T t2 n l3 S = some (q, S') → ∀ z, Ry ro xNo (yKx T) z (d + 7) mX11_played 18 [(0, .ref 16), (2, .ref t2), (3, .int l3)] [] S (some (.int q), yH (yKx T) z S')) := by
  intro n
  induction n with
  | zero => exact (by intro _ _ _ _ hf; cases hf)
  | succ n ih =>
    intro l3 S q S' hf z
    unfold lX11_played at hf
    iterate 2 (refine ry_step rfl rfl ?_)
    refine ry_gr rfl (yTx_K ht2).1 rfl ?_
    refine ry_alen rfl (yTx_A ht2 3 (by decide) (by decide)).1 (yTx_A ht2 3 (by decide) (by decide)).2.2 ?_
    refine ry_step rfl rfl ?_
    refine ry_br hf (fun hc hf => ?_) (fun hc hf => ?_)
    · refine ry_step rfl rfl ?_
      cases hf
      exact ry_ret rfl rfl
    · iterate 2 (refine ry_step rfl rfl ?_)
      refine ry_gr rfl (yTx_K ht2).1 rfl ?_
      refine ry_step rfl rfl ?_
      refine ry_iald hf rfl (yTx_A ht2 3 (by decide) (by decide)).1 (yTx_A ht2 3 (by decide) (by decide)).2.1 (fun j4 hf => ?_)
      refine ry_step rfl rfl ?_
      refine ry_gr rfl (yTx_K ht2).1 rfl ?_
      refine ry_step rfl rfl ?_
      refine ry_iald hf rfl (yTx_A ht2 4 (by decide) (by decide)).1 (yTx_A ht2 4 (by decide) (by decide)).2.1 (fun j5 hf => ?_)
      refine ry_step rfl rfl ?_
      refine ry_gr rfl (yTx_K ht2).1 rfl ?_
      refine ry_step rfl rfl ?_
      refine ry_iald hf rfl (yTx_A ht2 5 (by decide) (by decide)).1 (yTx_A ht2 5 (by decide) (by decide)).2.1 (fun j6 hf => ?_)
      obtain ⟨⟨u9, S8⟩, hv7, hf⟩ := Option.bind_eq_some_iff.mp hf
      dsimp only at hf
      refine ry_call rfl rfl rfl rfl rfl (tX11_playClause hv7) ?_
      refine ry_step rfl rfl ?_
      refine ry_br hf (fun hc hf => ?_) (fun hc hf => ?_)
      · iterate 2 (refine ry_step rfl rfl ?_)
        refine ry_sub [1, 2, 0] rfl rfl ?_
        exact ih (l3 + (Int32.ofInt 1)) S8 hf _
      · refine ry_step rfl rfl ?_
        cases hf
        exact ry_ret rfl rfl
def fX11_played (N : Nat) (T : yK) (v0 : Int32) (S : yS) : Option (Int32 × yS) := (fX0_textAt T v0 S).bind fun t2 => optC t2 (some ((Int32.ofInt (-2)), S)) (fun o3 => if yTx T o3 = true then lX11_played N T o3 N (Int32.ofInt 0) S else none)
set_option maxRecDepth 4000 in
theorem tX11_played {ro : xRo} {T : yK} {S : yS} {d N : Nat} {v0 : Int32}  {q : Int32} {S' : yS} (hf : fX11_played N T v0 S = some (q, S')) : yEv ro xNo (yKx T) (d + 8) jX11_played [.ref 16, .int v0] S (some (.int q)) S' := by
  refine ry_meth pX11_played rfl (fun z => ?_)
  unfold fX11_played at hf
  iterate 3 (refine ry_step rfl rfl ?_)
  obtain ⟨t2, hv1, hf⟩ := Option.bind_eq_some_iff.mp hf
  refine ry_call rfl rfl rfl rfl rfl (tX0_textAt hv1) ?_
  cases t2 with
  | none =>
    dsimp only [optC] at hf
    iterate 4 (refine ry_step rfl rfl ?_)
    cases hf
    exact ry_ret rfl rfl
  | some o3 =>
    dsimp only [optC] at hf
    split at hf
    · rename_i ho3
      iterate 5 (refine ry_step rfl rfl ?_)
      refine ry_sub [2, 1, 0] rfl rfl ?_
      exact uX11_played (ro := ro) ho3 _ (Int32.ofInt 0) S hf _
    · cases hf
def fX11_beats (N : Nat) (v0 : Int32) (v1 : Int32) (S : yS) : Option Int32 := (if (fX11_isCause v0) = 0 then some (Int32.ofInt 0) else (if (fX11_isCause v1) = 0 then some (Int32.ofInt 0) else (if v0 = v1 then some (Int32.ofInt 0) else (fX4_isAhead N v0 v1 S).bind fun u2 => (if u2 = 0 then some (Int32.ofInt 0) else some (Int32.ofInt 1)))))
set_option maxRecDepth 4000 in
theorem tX11_beats {ro : xRo} {T : yK} {S : yS} {d N : Nat} {v0 : Int32} {v1 : Int32}  {q : Int32} (hf : fX11_beats N v0 v1 S = some q) : yEv ro xNo (yKx T) (d + 8) jX11_beats [.ref 16, .int v0, .int v1] S (some (.int q)) S := by
  refine ry_meth pX11_beats rfl (fun z => ?_)
  unfold fX11_beats at hf
  refine ry_step rfl rfl ?_
  refine ry_call rfl rfl rfl rfl rfl tX11_isCause ?_
  refine ry_step rfl rfl ?_
  refine ry_br hf (fun hc hf => ?_) (fun hc hf => ?_)
  · refine ry_step rfl rfl ?_
    cases hf
    exact ry_ret rfl rfl
  · refine ry_step rfl rfl ?_
    refine ry_call rfl rfl rfl rfl rfl tX11_isCause ?_
    refine ry_step rfl rfl ?_
    refine ry_br hf (fun hc hf => ?_) (fun hc hf => ?_)
    · refine ry_step rfl rfl ?_
      cases hf
      exact ry_ret rfl rfl
    · iterate 3 (refine ry_step rfl rfl ?_)
      refine ry_br hf (fun hc hf => ?_) (fun hc hf => ?_)
      · refine ry_step rfl rfl ?_
        cases hf
        exact ry_ret rfl rfl
      · iterate 5 (refine ry_step rfl rfl ?_)
        obtain ⟨u2, hv1, hf⟩ := Option.bind_eq_some_iff.mp hf
        refine ry_call rfl rfl rfl rfl rfl (tX4_isAhead hv1) ?_
        refine ry_step rfl rfl ?_
        refine ry_br hf (fun hc hf => ?_) (fun hc hf => ?_)
        · refine ry_step rfl rfl ?_
          cases hf
          exact ry_ret rfl rfl
        · iterate 2 (refine ry_step rfl rfl ?_)
          cases hf
          exact ry_ret rfl rfl
def fX11_winner (N : Nat) (S : yS) : Option Int32 := (fX4_aheadOfAll N  S).bind fun u2 => some u2
set_option maxRecDepth 4000 in
theorem tX11_winner {ro : xRo} {T : yK} {S : yS} {d N : Nat}  {q : Int32} (hf : fX11_winner N  S = some q) : yEv ro xNo (yKx T) (d + 9) jX11_winner [.ref 16] S (some (.int q)) S := by
  refine ry_meth pX11_winner rfl (fun z => ?_)
  unfold fX11_winner at hf
  iterate 3 (refine ry_step rfl rfl ?_)
  obtain ⟨u2, hv1, hf⟩ := Option.bind_eq_some_iff.mp hf
  refine ry_call rfl rfl rfl rfl rfl (tX4_aheadOfAll hv1) ?_
  cases hf
  exact ry_ret rfl rfl
def fX11_points (N : Nat) (v0 : Int32) (S : yS) : Option Int32 := (if (fX11_isCause v0) = 0 then some (Int32.ofInt (-1)) else (fX4_pointsFor N v0 S).bind fun u2 => some u2)
set_option maxRecDepth 4000 in
theorem tX11_points {ro : xRo} {T : yK} {S : yS} {d N : Nat} {v0 : Int32}  {q : Int32} (hf : fX11_points N v0 S = some q) : yEv ro xNo (yKx T) (d + 8) jX11_points [.ref 16, .int v0] S (some (.int q)) S := by
  refine ry_meth pX11_points rfl (fun z => ?_)
  unfold fX11_points at hf
  refine ry_step rfl rfl ?_
  refine ry_call rfl rfl rfl rfl rfl tX11_isCause ?_
  refine ry_step rfl rfl ?_
  refine ry_br hf (fun hc hf => ?_) (fun hc hf => ?_)
  · refine ry_step rfl rfl ?_
    cases hf
    exact ry_ret rfl rfl
  · iterate 4 (refine ry_step rfl rfl ?_)
    obtain ⟨u2, hv1, hf⟩ := Option.bind_eq_some_iff.mp hf
    refine ry_call rfl rfl rfl rfl rfl (tX4_pointsFor hv1) ?_
    refine ry_step rfl rfl ?_
    cases hf
    exact ry_ret rfl rfl
def fX11_runoff (N : Nat) (S : yS) : Option Int32 := (fX4_lastLeft N  S).bind fun u2 => some u2
set_option maxRecDepth 4000 in
theorem tX11_runoff {ro : xRo} {T : yK} {S : yS} {d N : Nat}  {q : Int32} (hf : fX11_runoff N  S = some q) : yEv ro xNo (yKx T) (d + 9) jX11_runoff [.ref 16] S (some (.int q)) S := by
  refine ry_meth pX11_runoff rfl (fun z => ?_)
  unfold fX11_runoff at hf
  iterate 3 (refine ry_step rfl rfl ?_)
  obtain ⟨u2, hv1, hf⟩ := Option.bind_eq_some_iff.mp hf
  refine ry_call rfl rfl rfl rfl rfl (tX4_lastLeft hv1) ?_
  cases hf
  exact ry_ret rfl rfl
def lX11_leastPart (N : Nat) : Nat → Int32 → Int32 → Int32 → Int32 → yS → Option Int32
  | 0, _, _, _, _, _ => none
  | n + 1, l1, l2, l4, l5, S => (if l4 ≤ l5 then some l2 else (ain 8 l5).bind fun j1 => (if l1 < (xGp j1) then lX11_leastPart N n l1 l2 l4 (l5 + (Int32.ofInt 1)) S else lX11_leastPart N n (l1 - (xGp j1)) (xGp j1) l4 (l5 + (Int32.ofInt 1)) S))
set_option maxRecDepth 4000 in
theorem uX11_leastPart {ro : xRo} {T : yK} {d N : Nat} (hG : ro 1 = some (8, xGp)) : ∀ n : Nat, (∀ (l1 : Int32) (l2 : Int32) (l4 : Int32) (l5 : Int32) (S : yS) {q : Int32}, lX11_leastPart N n l1 l2 l4 l5 S = some q → ∀ z, Ry ro xNo (yKx T) z (d + 0) mX11_leastPart 15 [(1, .int l1), (2, .int l2), (3, .ref 1), (4, .int l4), (5, .int l5)] [] S (some (.int q), yH (yKx T) z S)) := by
  intro n
  induction n with
  | zero => exact (by intro _ _ _ _ _ _ hf; cases hf)
  | succ n ih =>
    intro l1 l2 l4 l5 S q hf z
    unfold lX11_leastPart at hf
    iterate 3 (refine ry_step rfl rfl ?_)
    refine ry_br hf (fun hc hf => ?_) (fun hc hf => ?_)
    · refine ry_step rfl rfl ?_
      cases hf
      exact ry_ret rfl rfl
    · iterate 2 (refine ry_step rfl rfl ?_)
      refine ry_gp hG hf rfl (fun j1 hf => ?_)
      iterate 4 (refine ry_step rfl rfl ?_)
      refine ry_br hf (fun hc hf => ?_) (fun hc hf => ?_)
      · iterate 2 (refine ry_step rfl rfl ?_)
        refine ry_sub [2, 3, 4, 5, 0] rfl rfl ?_
        exact ih l1 l2 l4 (l5 + (Int32.ofInt 1)) S hf _
      · iterate 8 (refine ry_step rfl rfl ?_)
        refine ry_sub [2, 1, 4, 5, 0] rfl rfl ?_
        exact ih (l1 - (xGp j1)) (xGp j1) l4 (l5 + (Int32.ofInt 1)) S hf _
def fX11_leastPart (N : Nat) (v0 : Int32) (S : yS) : Option Int32 := lX11_leastPart N N v0 (Int32.ofInt 0) (Int32.ofNat 8) (Int32.ofInt 0) S
set_option maxRecDepth 4000 in
theorem tX11_leastPart {ro : xRo} {T : yK} {S : yS} {d N : Nat} {v0 : Int32}  (hG : ro 1 = some (8, xGp)) {q : Int32} (hf : fX11_leastPart N v0 S = some q) : yEv ro xNo (yKx T) (d + 1) jX11_leastPart [.int v0] S (some (.int q)) S := by
  refine ry_meth pX11_leastPart rfl (fun z => ?_)
  unfold fX11_leastPart at hf
  iterate 7 (refine ry_step rfl rfl ?_)
  refine ry_gpl hG rfl ?_
  iterate 3 (refine ry_step rfl rfl ?_)
  refine ry_sub [4, 3, 2, 1, 0] rfl rfl ?_
  exact uX11_leastPart (ro := ro) hG _ v0 (Int32.ofInt 0) (Int32.ofNat 8) (Int32.ofInt 0) S hf _
def fX11_game (N : Nat) (v0 : Int32) (S : yS) : Option Int32 := (if ¬ (fX11_within v0 (Int32.ofInt 0) (Int32.ofInt 40)) = 0 then (if v0 = (Int32.ofInt 1) then some (Int32.ofInt 1) else (fX11_leastPart N v0 S).bind fun u2 => (if v0 ≤ u2 then some (Int32.ofInt 0) else some (Int32.ofInt 1))) else some (Int32.ofInt (-1)))
set_option maxRecDepth 4000 in
theorem tX11_game {ro : xRo} {T : yK} {S : yS} {d N : Nat} {v0 : Int32}  (hG : ro 1 = some (8, xGp)) {q : Int32} (hf : fX11_game N v0 S = some q) : yEv ro xNo (yKx T) (d + 2) jX11_game [.ref 16, .int v0] S (some (.int q)) S := by
  refine ry_meth pX11_game rfl (fun z => ?_)
  unfold fX11_game at hf
  iterate 3 (refine ry_step rfl rfl ?_)
  refine ry_call rfl rfl rfl rfl rfl tX11_within ?_
  refine ry_step rfl rfl ?_
  refine ry_br hf (fun hc hf => ?_) (fun hc hf => ?_)
  · iterate 3 (refine ry_step rfl rfl ?_)
    refine ry_br hf (fun hc hf => ?_) (fun hc hf => ?_)
    · iterate 2 (refine ry_step rfl rfl ?_)
      cases hf
      exact ry_ret rfl rfl
    · refine ry_step rfl rfl ?_
      obtain ⟨u2, hv1, hf⟩ := Option.bind_eq_some_iff.mp hf
      refine ry_call rfl rfl rfl rfl rfl (tX11_leastPart hG hv1) ?_
      iterate 2 (refine ry_step rfl rfl ?_)
      refine ry_br hf (fun hc hf => ?_) (fun hc hf => ?_)
      · refine ry_step rfl rfl ?_
        cases hf
        exact ry_ret rfl rfl
      · iterate 2 (refine ry_step rfl rfl ?_)
        cases hf
        exact ry_ret rfl rfl
  · refine ry_step rfl rfl ?_
    cases hf
    exact ry_ret rfl rfl
def fX11_take (N : Nat) (v0 : Int32) (v1 : Int32) (S : yS) : Option Int32 := (if (fX11_within v0 (Int32.ofInt 1) (Int32.ofInt 40)) = 0 then some (Int32.ofInt (-1)) else (if ¬ (fX11_within v1 (Int32.ofInt 1) (Int32.ofInt 40)) = 0 then (fX11_leastPart N v0 S).bind fun u2 => (if v1 < u2 then some (Int32.ofInt (-1)) else some u2) else some (Int32.ofInt (-1))))
set_option maxRecDepth 4000 in
theorem tX11_take {ro : xRo} {T : yK} {S : yS} {d N : Nat} {v0 : Int32} {v1 : Int32}  (hG : ro 1 = some (8, xGp)) {q : Int32} (hf : fX11_take N v0 v1 S = some q) : yEv ro xNo (yKx T) (d + 2) jX11_take [.ref 16, .int v0, .int v1] S (some (.int q)) S := by
  refine ry_meth pX11_take rfl (fun z => ?_)
  unfold fX11_take at hf
  iterate 3 (refine ry_step rfl rfl ?_)
  refine ry_call rfl rfl rfl rfl rfl tX11_within ?_
  refine ry_step rfl rfl ?_
  refine ry_br hf (fun hc hf => ?_) (fun hc hf => ?_)
  · refine ry_step rfl rfl ?_
    cases hf
    exact ry_ret rfl rfl
  · iterate 3 (refine ry_step rfl rfl ?_)
    refine ry_call rfl rfl rfl rfl rfl tX11_within ?_
    refine ry_step rfl rfl ?_
    refine ry_br hf (fun hc hf => ?_) (fun hc hf => ?_)
    · refine ry_step rfl rfl ?_
      obtain ⟨u2, hv1, hf⟩ := Option.bind_eq_some_iff.mp hf
      refine ry_call rfl rfl rfl rfl rfl (tX11_leastPart hG hv1) ?_
      iterate 4 (refine ry_step rfl rfl ?_)
      refine ry_br hf (fun hc hf => ?_) (fun hc hf => ?_)
      · refine ry_step rfl rfl ?_
        cases hf
        exact ry_ret rfl rfl
      · iterate 2 (refine ry_step rfl rfl ?_)
        cases hf
        exact ry_ret rfl rfl
    · refine ry_step rfl rfl ?_
      cases hf
      exact ry_ret rfl rfl
def lX11_bringsAllTold_N (N : Nat) (T : yK) : Nat → Int32 → yS → Option (Int32 × yS)
  | 0, _, _ => none
  | n + 1, l2, S => (if (S.1 18 15) ≤ l2 then some ((Int32.ofInt 1), S) else (ain 8 l2).bind fun j1 => (fX1_broughtBy_N N T (S.2.2.1 130 j1) S).bind fun (u4, S3) => (ain 8 l2).bind fun j5 => (if u4 = (S3.2.2.1 131 j5) then lX11_bringsAllTold_N N T n (l2 + (Int32.ofInt 1)) S3 else some ((Int32.ofInt 0), S3)))
set_option maxRecDepth 4000 in
theorem uX11_bringsAllTold_N {ro : xRo} {T : yK} {d N : Nat} : ∀ n : Nat, (∀ (l2 : Int32) (S : yS) {q : Int32} {S' : yS}, lX11_bringsAllTold_N N T n l2 S = some (q, S') → ∀ z, Ry ro xNo (yKx T) z (d + 2) mX11_bringsAllTold 2 [(0, .ref 16), (1, .null), (2, .int l2)] [] S (some (.int q), yH (yKx T) z S')) := by
  intro n
  induction n with
  | zero => exact (by intro _ _ _ _ hf; cases hf)
  | succ n ih =>
    intro l2 S q S' hf z
    unfold lX11_bringsAllTold_N at hf
    iterate 5 (refine ry_step rfl rfl ?_)
    refine ry_br hf (fun hc hf => ?_) (fun hc hf => ?_)
    · refine ry_step rfl rfl ?_
      cases hf
      exact ry_ret rfl rfl
    · iterate 7 (refine ry_step rfl rfl ?_)
      refine ry_iald hf rfl rfl rfl (fun j1 hf => ?_)
      obtain ⟨⟨u4, S3⟩, hv2, hf⟩ := Option.bind_eq_some_iff.mp hf
      dsimp only at hf
      refine ry_call rfl rfl rfl rfl rfl (tX1_broughtBy_N hv2) ?_
      iterate 4 (refine ry_step rfl rfl ?_)
      refine ry_iald hf rfl rfl rfl (fun j5 hf => ?_)
      refine ry_step rfl rfl ?_
      refine ry_br hf (fun hc hf => ?_) (fun hc hf => ?_)
      · iterate 2 (refine ry_step rfl rfl ?_)
        refine ry_sub [1, 2, 0] rfl rfl ?_
        exact ih (l2 + (Int32.ofInt 1)) S3 hf _
      · refine ry_step rfl rfl ?_
        cases hf
        exact ry_ret rfl rfl
def fX11_bringsAllTold_N (N : Nat) (T : yK) (S : yS) : Option (Int32 × yS) := lX11_bringsAllTold_N N T N (Int32.ofInt 0) S
set_option maxRecDepth 4000 in
theorem tX11_bringsAllTold_N {ro : xRo} {T : yK} {S : yS} {d N : Nat}  {q : Int32} {S' : yS} (hf : fX11_bringsAllTold_N N T  S = some (q, S')) : yEv ro xNo (yKx T) (d + 3) jX11_bringsAllTold [.ref 16, .null] S (some (.int q)) S' := by
  refine ry_meth pX11_bringsAllTold rfl (fun z => ?_)
  unfold fX11_bringsAllTold_N at hf
  iterate 2 (refine ry_step rfl rfl ?_)
  refine ry_sub [1, 2, 0] rfl rfl ?_
  exact uX11_bringsAllTold_N (ro := ro) _ (Int32.ofInt 0) S hf _
def lX11_bringsAllTold_T (N : Nat) (T : yK) (v0 : Nat) : Nat → Int32 → yS → Option (Int32 × yS)
  | 0, _, _ => none
  | n + 1, l2, S => (if (S.1 18 15) ≤ l2 then some ((Int32.ofInt 1), S) else (ain 8 l2).bind fun j1 => (fX1_broughtBy_T N T v0 (S.2.2.1 130 j1) S).bind fun (u4, S3) => (ain 8 l2).bind fun j5 => (if u4 = (S3.2.2.1 131 j5) then lX11_bringsAllTold_T N T v0 n (l2 + (Int32.ofInt 1)) S3 else some ((Int32.ofInt 0), S3)))
set_option maxRecDepth 4000 in
theorem uX11_bringsAllTold_T {ro : xRo} {T : yK} {d N : Nat} {v0 : Nat} (hv0 : yTx T v0 = true) : ∀ n : Nat, (∀ (l2 : Int32) (S : yS) {q : Int32} {S' : yS}, lX11_bringsAllTold_T N T v0 n l2 S = some (q, S') → ∀ z, Ry ro xNo (yKx T) z (d + 4) mX11_bringsAllTold 2 [(0, .ref 16), (1, .ref v0), (2, .int l2)] [] S (some (.int q), yH (yKx T) z S')) := by
  intro n
  induction n with
  | zero => exact (by intro _ _ _ _ hf; cases hf)
  | succ n ih =>
    intro l2 S q S' hf z
    unfold lX11_bringsAllTold_T at hf
    iterate 5 (refine ry_step rfl rfl ?_)
    refine ry_br hf (fun hc hf => ?_) (fun hc hf => ?_)
    · refine ry_step rfl rfl ?_
      cases hf
      exact ry_ret rfl rfl
    · iterate 7 (refine ry_step rfl rfl ?_)
      refine ry_iald hf rfl rfl rfl (fun j1 hf => ?_)
      obtain ⟨⟨u4, S3⟩, hv2, hf⟩ := Option.bind_eq_some_iff.mp hf
      dsimp only at hf
      refine ry_call rfl rfl rfl rfl rfl (tX1_broughtBy_T hv0 hv2) ?_
      iterate 4 (refine ry_step rfl rfl ?_)
      refine ry_iald hf rfl rfl rfl (fun j5 hf => ?_)
      refine ry_step rfl rfl ?_
      refine ry_br hf (fun hc hf => ?_) (fun hc hf => ?_)
      · iterate 2 (refine ry_step rfl rfl ?_)
        refine ry_sub [1, 2, 0] rfl rfl ?_
        exact ih (l2 + (Int32.ofInt 1)) S3 hf _
      · refine ry_step rfl rfl ?_
        cases hf
        exact ry_ret rfl rfl
def fX11_bringsAllTold_T (N : Nat) (T : yK) (v0 : Nat) (S : yS) : Option (Int32 × yS) := lX11_bringsAllTold_T N T v0 N (Int32.ofInt 0) S
set_option maxRecDepth 4000 in
theorem tX11_bringsAllTold_T {ro : xRo} {T : yK} {S : yS} {d N : Nat} {v0 : Nat}  (hv0 : yTx T v0 = true) {q : Int32} {S' : yS} (hf : fX11_bringsAllTold_T N T v0 S = some (q, S')) : yEv ro xNo (yKx T) (d + 5) jX11_bringsAllTold [.ref 16, .ref v0] S (some (.int q)) S' := by
  refine ry_meth pX11_bringsAllTold rfl (fun z => ?_)
  unfold fX11_bringsAllTold_T at hf
  iterate 2 (refine ry_step rfl rfl ?_)
  refine ry_sub [1, 2, 0] rfl rfl ?_
  exact uX11_bringsAllTold_T (ro := ro) hv0 _ (Int32.ofInt 0) S hf _
def lX11_whose (N : Nat) (T : yK) : Nat → Int32 → Int32 → yS → Option (Int32 × yS)
  | 0, _, _, _ => none
  | n + 1, l1, l2, S => (if (S.1 18 8) ≤ l2 then some (l1, S) else (fX0_textAt T l2 S).bind fun t2 => optC t2 ((fX11_bringsAllTold_N N T  S).bind fun (u6, S5) => (if u6 = 0 then lX11_whose N T n l1 (l2 + (Int32.ofInt 1)) S5 else pSt (l1 ||| ((Int32.ofInt 1) <<< (l2 &&& 31))) fun w7 => lX11_whose N T n w7 (l2 + (Int32.ofInt 1)) S5)) (fun o3 => if yTx T o3 = true then (fX11_bringsAllTold_T N T o3 S).bind fun (u10, S9) => (if u10 = 0 then lX11_whose N T n l1 (l2 + (Int32.ofInt 1)) S9 else pSt (l1 ||| ((Int32.ofInt 1) <<< (l2 &&& 31))) fun w11 => lX11_whose N T n w11 (l2 + (Int32.ofInt 1)) S9) else none))
set_option maxRecDepth 4000 in
theorem uX11_whose {ro : xRo} {T : yK} {d N : Nat} : ∀ n : Nat, (∀ (l1 : Int32) (l2 : Int32) (S : yS) {q : Int32} {S' : yS}, lX11_whose N T n l1 l2 S = some (q, S') → ∀ z, Ry ro xNo (yKx T) z (d + 5) mX11_whose 4 [(0, .ref 16), (1, .int l1), (2, .int l2)] [] S (some (.int q), yH (yKx T) z S')) := by
  intro n
  induction n with
  | zero => exact (by intro _ _ _ _ _ hf; cases hf)
  | succ n ih =>
    intro l1 l2 S q S' hf z
    unfold lX11_whose at hf
    iterate 5 (refine ry_step rfl rfl ?_)
    refine ry_br hf (fun hc hf => ?_) (fun hc hf => ?_)
    · refine ry_step rfl rfl ?_
      cases hf
      exact ry_ret rfl rfl
    · iterate 4 (refine ry_step rfl rfl ?_)
      obtain ⟨t2, hv1, hf⟩ := Option.bind_eq_some_iff.mp hf
      refine ry_call rfl rfl rfl rfl rfl (tX0_textAt hv1) ?_
      cases t2 with
      | none =>
        dsimp only [optC] at hf
        obtain ⟨⟨u6, S5⟩, hv4, hf⟩ := Option.bind_eq_some_iff.mp hf
        dsimp only at hf
        refine ry_call rfl rfl rfl rfl rfl (tX11_bringsAllTold_N hv4) ?_
        refine ry_step rfl rfl ?_
        refine ry_br hf (fun hc hf => ?_) (fun hc hf => ?_)
        · iterate 2 (refine ry_step rfl rfl ?_)
          refine ry_sub [1, 2, 0] rfl rfl ?_
          exact ih l1 (l2 + (Int32.ofInt 1)) S5 hf _
        · iterate 5 (refine ry_step rfl rfl ?_)
          refine ry_nmi hf (fun w7 hf => ?_)
          iterate 3 (refine ry_step rfl rfl ?_)
          refine ry_sub [2, 1, 0] rfl rfl ?_
          exact ih w7 (l2 + (Int32.ofInt 1)) S5 hf _
      | some o3 =>
        dsimp only [optC] at hf
        split at hf
        · rename_i ho3
          obtain ⟨⟨u10, S9⟩, hv8, hf⟩ := Option.bind_eq_some_iff.mp hf
          dsimp only at hf
          refine ry_call rfl rfl rfl rfl rfl (tX11_bringsAllTold_T ho3 hv8) ?_
          refine ry_step rfl rfl ?_
          refine ry_br hf (fun hc hf => ?_) (fun hc hf => ?_)
          · iterate 2 (refine ry_step rfl rfl ?_)
            refine ry_sub [1, 2, 0] rfl rfl ?_
            exact ih l1 (l2 + (Int32.ofInt 1)) S9 hf _
          · iterate 5 (refine ry_step rfl rfl ?_)
            refine ry_nmi hf (fun w11 hf => ?_)
            iterate 3 (refine ry_step rfl rfl ?_)
            refine ry_sub [2, 1, 0] rfl rfl ?_
            exact ih w11 (l2 + (Int32.ofInt 1)) S9 hf _
        · cases hf
def fX11_whose (N : Nat) (T : yK) (S : yS) : Option (Int32 × yS) := lX11_whose N T N (Int32.ofInt 0) (Int32.ofInt 0) S
set_option maxRecDepth 4000 in
theorem tX11_whose {ro : xRo} {T : yK} {S : yS} {d N : Nat}  {q : Int32} {S' : yS} (hf : fX11_whose N T  S = some (q, S')) : yEv ro xNo (yKx T) (d + 6) jX11_whose [.ref 16] S (some (.int q)) S' := by
  refine ry_meth pX11_whose rfl (fun z => ?_)
  unfold fX11_whose at hf
  iterate 4 (refine ry_step rfl rfl ?_)
  refine ry_sub [2, 1, 0] rfl rfl ?_
  exact uX11_whose (ro := ro) _ (Int32.ofInt 0) (Int32.ofInt 0) S hf _
def lX0_copy_t133_18 (N : Nat) (T : yK) : Nat → Int32 → yS → Option yS
  | 0, _, _ => none
  | n + 1, l2, S => (if (Int32.ofInt 4) ≤ l2 then pSt (ySi S 133 8 (S.1 18 8)) fun S10 => pSt (ySi S10 133 9 (S10.1 18 9)) fun S11 => (fX3_copy_t234_119 N  S11).bind fun S13 => (fX6_copy_t237_122  S13).bind fun S15 => (fX4_copy_t239_124  S15).bind fun S17 => pSt (ySa S17 245 (va_cpy (S17.2.2.1 130) (S17.2.2.1 245) 0 0 8)) fun S18 => pSt (ySa S18 246 (va_cpy (S18.2.2.1 131) (S18.2.2.1 246) 0 0 8)) fun S19 => pSt (ySi S19 133 15 (S19.1 18 15)) fun S20 => some S20 else (ain 4 l2).bind fun j21 => optC (S.2.2.2.2 118 j21) ((ain 4 l2).bind fun j24 => pSt (ySq S 233 (va_up (S.2.2.2.2 233) j24 none)) fun S23 => lX0_copy_t133_18 N T n (l2 + (Int32.ofInt 1)) S23) (fun o22 => if yTx T o22 = true then (ain 4 l2).bind fun j26 => pSt (ySq S 233 (va_up (S.2.2.2.2 233) j26 (some o22))) fun S25 => lX0_copy_t133_18 N T n (l2 + (Int32.ofInt 1)) S25 else none))
set_option maxRecDepth 4000 in
theorem uX0_copy_t133_18 {ro : xRo} {T : yK} {d N : Nat} : ∀ n : Nat, (∀ (l2 : Int32) (S : yS) {S' : yS}, lX0_copy_t133_18 N T n l2 S = some S' → ∀ z, Ry ro xNo (yKx T) z (d + 2) mX0_copy 92 [(0, .ref 133), (1, .ref 18), (2, .int l2)] [] S (none, yH (yKx T) z S')) := by
  intro n
  induction n with
  | zero => exact (by intro _ _ _ hf; cases hf)
  | succ n ih =>
    intro l2 S S' hf z
    unfold lX0_copy_t133_18 at hf
    iterate 3 (refine ry_step rfl rfl ?_)
    refine ry_br hf (fun hc hf => ?_) (fun hc hf => ?_)
    · iterate 3 (refine ry_step rfl rfl ?_)
      refine ry_stepS hf rfl rfl (fun S10 hf => ?_)
      iterate 3 (refine ry_step rfl rfl ?_)
      refine ry_stepS hf rfl rfl (fun S11 hf => ?_)
      iterate 4 (refine ry_step rfl rfl ?_)
      obtain ⟨S13, hv12, hf⟩ := Option.bind_eq_some_iff.mp hf
      refine ry_call rfl rfl rfl rfl rfl (tX3_copy_t234_119 hv12) ?_
      iterate 4 (refine ry_step rfl rfl ?_)
      obtain ⟨S15, hv14, hf⟩ := Option.bind_eq_some_iff.mp hf
      refine ry_call rfl rfl rfl rfl rfl (tX6_copy_t237_122 hv14) ?_
      iterate 4 (refine ry_step rfl rfl ?_)
      obtain ⟨S17, hv16, hf⟩ := Option.bind_eq_some_iff.mp hf
      refine ry_call rfl rfl rfl rfl rfl (tX4_copy_t239_124 hv16) ?_
      iterate 7 (refine ry_step rfl rfl ?_)
      refine ry_stepS hf rfl rfl (fun S18 hf => ?_)
      iterate 7 (refine ry_step rfl rfl ?_)
      refine ry_stepS hf rfl rfl (fun S19 hf => ?_)
      iterate 3 (refine ry_step rfl rfl ?_)
      refine ry_stepS hf rfl rfl (fun S20 hf => ?_)
      cases hf
      exact ry_ret rfl rfl
    · iterate 6 (refine ry_step rfl rfl ?_)
      refine ry_aaT (E2 := fun o22 => (ain 4 l2).bind fun j26 => pSt (ySq S 233 (va_up (S.2.2.2.2 233) j26 (some o22))) fun S25 => lX0_copy_t133_18 N T n (l2 + (Int32.ofInt 1)) S25) hf rfl rfl (fun hf => ?_) (fun o22 ho22 hf => ?_)
      · refine ry_aasN hf rfl rfl (fun j24 S23 hf => ?_)
        iterate 2 (refine ry_step rfl rfl ?_)
        refine ry_sub [1, 2, 0] rfl rfl ?_
        exact ih (l2 + (Int32.ofInt 1)) S23 hf _
      · refine ry_aasT ho22 hf rfl rfl (fun j26 S25 hf => ?_)
        iterate 2 (refine ry_step rfl rfl ?_)
        refine ry_sub [1, 2, 0] rfl rfl ?_
        exact ih (l2 + (Int32.ofInt 1)) S25 hf _
def fX0_copy_t133_18 (N : Nat) (T : yK) (S : yS) : Option yS := (fX2_copy_t134_19  S).bind fun S2 => (fX8_copy_t137_22 N  S2).bind fun S4 => pSt (ySa S4 229 (va_cpy (S4.2.2.1 114) (S4.2.2.1 229) 0 0 8)) fun S5 => pSt (ySa S5 230 (va_cpy (S5.2.2.1 115) (S5.2.2.1 230) 0 0 8)) fun S6 => pSt (ySa S6 231 (va_cpy (S6.2.2.1 116) (S6.2.2.1 231) 0 0 8)) fun S7 => pSt (ySi S7 133 5 (S7.1 18 5)) fun S8 => pSt (ySa S8 232 (va_cpy (S8.2.2.1 117) (S8.2.2.1 232) 0 0 9)) fun S9 => lX0_copy_t133_18 N T N (Int32.ofInt 0) S9
set_option maxRecDepth 4000 in
theorem tX0_copy_t133_18 {ro : xRo} {T : yK} {S : yS} {d N : Nat}  {S' : yS} (hf : fX0_copy_t133_18 N T  S = some S') : yEv ro xNo (yKx T) (d + 3) jX0_copy [.ref 133, .ref 18] S (none) S' := by
  refine ry_meth pX0_copy rfl (fun z => ?_)
  unfold fX0_copy_t133_18 at hf
  iterate 4 (refine ry_step rfl rfl ?_)
  obtain ⟨S2, hv1, hf⟩ := Option.bind_eq_some_iff.mp hf
  refine ry_call rfl rfl rfl rfl rfl (tX2_copy_t134_19 hv1) ?_
  iterate 4 (refine ry_step rfl rfl ?_)
  obtain ⟨S4, hv3, hf⟩ := Option.bind_eq_some_iff.mp hf
  refine ry_call rfl rfl rfl rfl rfl (tX8_copy_t137_22 hv3) ?_
  iterate 7 (refine ry_step rfl rfl ?_)
  refine ry_stepS hf rfl rfl (fun S5 hf => ?_)
  iterate 7 (refine ry_step rfl rfl ?_)
  refine ry_stepS hf rfl rfl (fun S6 hf => ?_)
  iterate 7 (refine ry_step rfl rfl ?_)
  refine ry_stepS hf rfl rfl (fun S7 hf => ?_)
  iterate 3 (refine ry_step rfl rfl ?_)
  refine ry_stepS hf rfl rfl (fun S8 hf => ?_)
  iterate 7 (refine ry_step rfl rfl ?_)
  refine ry_stepS hf rfl rfl (fun S9 hf => ?_)
  iterate 2 (refine ry_step rfl rfl ?_)
  refine ry_sub [1, 2, 0] rfl rfl ?_
  exact uX0_copy_t133_18 (ro := ro) _ (Int32.ofInt 0) S9 hf _
def fX11_image (N : Nat) (T : yK) (S : yS) : Option (Int32 × yS) := (fX0_copy_t133_18 N T  S).bind fun S2 => some ((S2.1 19 4), S2)
set_option maxRecDepth 4000 in
theorem tX11_image {ro : xRo} {T : yK} {S : yS} {d N : Nat}  {q : Int32} {S' : yS} (hf : fX11_image N T  S = some (q, S')) : yEv ro xNo (yKx T) (d + 4) jX11_image [.ref 16] S (some (.int q)) S' := by
  refine ry_meth pX11_image rfl (fun z => ?_)
  unfold fX11_image at hf
  iterate 4 (refine ry_step rfl rfl ?_)
  obtain ⟨S2, hv1, hf⟩ := Option.bind_eq_some_iff.mp hf
  refine ry_call rfl rfl rfl rfl rfl (tX0_copy_t133_18 hv1) ?_
  iterate 4 (refine ry_step rfl rfl ?_)
  cases hf
  exact ry_ret rfl rfl
def lX0_copy_133 (N : Nat) (T : yK) : Nat → Int32 → yS → Option yS
  | 0, _, _ => none
  | n + 1, l2, S => (if (Int32.ofInt 4) ≤ l2 then pSt (ySi S 18 8 (S.1 133 8)) fun S10 => pSt (ySi S10 18 9 (S10.1 133 9)) fun S11 => (fX3_copy_234 N  S11).bind fun S13 => (fX6_copy_237  S13).bind fun S15 => (fX4_copy_239  S15).bind fun S17 => pSt (ySa S17 130 (va_cpy (S17.2.2.1 245) (S17.2.2.1 130) 0 0 8)) fun S18 => pSt (ySa S18 131 (va_cpy (S18.2.2.1 246) (S18.2.2.1 131) 0 0 8)) fun S19 => pSt (ySi S19 18 15 (S19.1 133 15)) fun S20 => some S20 else (ain 4 l2).bind fun j21 => optC (S.2.2.2.2 233 j21) ((ain 4 l2).bind fun j24 => pSt (ySq S 118 (va_up (S.2.2.2.2 118) j24 none)) fun S23 => lX0_copy_133 N T n (l2 + (Int32.ofInt 1)) S23) (fun o22 => if yTx T o22 = true then (ain 4 l2).bind fun j26 => pSt (ySq S 118 (va_up (S.2.2.2.2 118) j26 (some o22))) fun S25 => lX0_copy_133 N T n (l2 + (Int32.ofInt 1)) S25 else none))
set_option maxRecDepth 4000 in
theorem uX0_copy_133 {ro : xRo} {T : yK} {d N : Nat} : ∀ n : Nat, (∀ (l2 : Int32) (S : yS) {S' : yS}, lX0_copy_133 N T n l2 S = some S' → ∀ z, Ry ro xNo (yKx T) z (d + 2) mX0_copy 92 [(0, .ref 18), (1, .ref 133), (2, .int l2)] [] S (none, yH (yKx T) z S')) := by
  intro n
  induction n with
  | zero => exact (by intro _ _ _ hf; cases hf)
  | succ n ih =>
    intro l2 S S' hf z
    unfold lX0_copy_133 at hf
    iterate 3 (refine ry_step rfl rfl ?_)
    refine ry_br hf (fun hc hf => ?_) (fun hc hf => ?_)
    · iterate 3 (refine ry_step rfl rfl ?_)
      refine ry_stepS hf rfl rfl (fun S10 hf => ?_)
      iterate 3 (refine ry_step rfl rfl ?_)
      refine ry_stepS hf rfl rfl (fun S11 hf => ?_)
      iterate 4 (refine ry_step rfl rfl ?_)
      obtain ⟨S13, hv12, hf⟩ := Option.bind_eq_some_iff.mp hf
      refine ry_call rfl rfl rfl rfl rfl (tX3_copy_234 hv12) ?_
      iterate 4 (refine ry_step rfl rfl ?_)
      obtain ⟨S15, hv14, hf⟩ := Option.bind_eq_some_iff.mp hf
      refine ry_call rfl rfl rfl rfl rfl (tX6_copy_237 hv14) ?_
      iterate 4 (refine ry_step rfl rfl ?_)
      obtain ⟨S17, hv16, hf⟩ := Option.bind_eq_some_iff.mp hf
      refine ry_call rfl rfl rfl rfl rfl (tX4_copy_239 hv16) ?_
      iterate 7 (refine ry_step rfl rfl ?_)
      refine ry_stepS hf rfl rfl (fun S18 hf => ?_)
      iterate 7 (refine ry_step rfl rfl ?_)
      refine ry_stepS hf rfl rfl (fun S19 hf => ?_)
      iterate 3 (refine ry_step rfl rfl ?_)
      refine ry_stepS hf rfl rfl (fun S20 hf => ?_)
      cases hf
      exact ry_ret rfl rfl
    · iterate 6 (refine ry_step rfl rfl ?_)
      refine ry_aaT (E2 := fun o22 => (ain 4 l2).bind fun j26 => pSt (ySq S 118 (va_up (S.2.2.2.2 118) j26 (some o22))) fun S25 => lX0_copy_133 N T n (l2 + (Int32.ofInt 1)) S25) hf rfl rfl (fun hf => ?_) (fun o22 ho22 hf => ?_)
      · refine ry_aasN hf rfl rfl (fun j24 S23 hf => ?_)
        iterate 2 (refine ry_step rfl rfl ?_)
        refine ry_sub [1, 2, 0] rfl rfl ?_
        exact ih (l2 + (Int32.ofInt 1)) S23 hf _
      · refine ry_aasT ho22 hf rfl rfl (fun j26 S25 hf => ?_)
        iterate 2 (refine ry_step rfl rfl ?_)
        refine ry_sub [1, 2, 0] rfl rfl ?_
        exact ih (l2 + (Int32.ofInt 1)) S25 hf _
def fX0_copy_133 (N : Nat) (T : yK) (S : yS) : Option yS := (fX2_copy_134  S).bind fun S2 => (fX8_copy_137 N  S2).bind fun S4 => pSt (ySa S4 114 (va_cpy (S4.2.2.1 229) (S4.2.2.1 114) 0 0 8)) fun S5 => pSt (ySa S5 115 (va_cpy (S5.2.2.1 230) (S5.2.2.1 115) 0 0 8)) fun S6 => pSt (ySa S6 116 (va_cpy (S6.2.2.1 231) (S6.2.2.1 116) 0 0 8)) fun S7 => pSt (ySi S7 18 5 (S7.1 133 5)) fun S8 => pSt (ySa S8 117 (va_cpy (S8.2.2.1 232) (S8.2.2.1 117) 0 0 9)) fun S9 => lX0_copy_133 N T N (Int32.ofInt 0) S9
set_option maxRecDepth 4000 in
theorem tX0_copy_133 {ro : xRo} {T : yK} {S : yS} {d N : Nat}  {S' : yS} (hf : fX0_copy_133 N T  S = some S') : yEv ro xNo (yKx T) (d + 3) jX0_copy [.ref 18, .ref 133] S (none) S' := by
  refine ry_meth pX0_copy rfl (fun z => ?_)
  unfold fX0_copy_133 at hf
  iterate 4 (refine ry_step rfl rfl ?_)
  obtain ⟨S2, hv1, hf⟩ := Option.bind_eq_some_iff.mp hf
  refine ry_call rfl rfl rfl rfl rfl (tX2_copy_134 hv1) ?_
  iterate 4 (refine ry_step rfl rfl ?_)
  obtain ⟨S4, hv3, hf⟩ := Option.bind_eq_some_iff.mp hf
  refine ry_call rfl rfl rfl rfl rfl (tX8_copy_137 hv3) ?_
  iterate 7 (refine ry_step rfl rfl ?_)
  refine ry_stepS hf rfl rfl (fun S5 hf => ?_)
  iterate 7 (refine ry_step rfl rfl ?_)
  refine ry_stepS hf rfl rfl (fun S6 hf => ?_)
  iterate 7 (refine ry_step rfl rfl ?_)
  refine ry_stepS hf rfl rfl (fun S7 hf => ?_)
  iterate 3 (refine ry_step rfl rfl ?_)
  refine ry_stepS hf rfl rfl (fun S8 hf => ?_)
  iterate 7 (refine ry_step rfl rfl ?_)
  refine ry_stepS hf rfl rfl (fun S9 hf => ?_)
  iterate 2 (refine ry_step rfl rfl ?_)
  refine ry_sub [1, 2, 0] rfl rfl ?_
  exact uX0_copy_133 (ro := ro) _ (Int32.ofInt 0) S9 hf _
def fX11_back (N : Nat) (T : yK) (S : yS) : Option (Int32 × yS) := (fX0_copy_133 N T  S).bind fun S2 => some ((S2.1 19 4), S2)
set_option maxRecDepth 4000 in
theorem tX11_back {ro : xRo} {T : yK} {S : yS} {d N : Nat}  {q : Int32} {S' : yS} (hf : fX11_back N T  S = some (q, S')) : yEv ro xNo (yKx T) (d + 4) jX11_back [.ref 16] S (some (.int q)) S' := by
  refine ry_meth pX11_back rfl (fun z => ?_)
  unfold fX11_back at hf
  iterate 4 (refine ry_step rfl rfl ?_)
  obtain ⟨S2, hv1, hf⟩ := Option.bind_eq_some_iff.mp hf
  refine ry_call rfl rfl rfl rfl rfl (tX0_copy_133 hv1) ?_
  iterate 4 (refine ry_step rfl rfl ?_)
  cases hf
  exact ry_ret rfl rfl
