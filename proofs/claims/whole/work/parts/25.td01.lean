/-! ===== methods as functions, and their walks, by program ===== -/
def lX6_selfFollowing (N : Nat) : Nat → Int32 → Int32 → yS → Option Int32
  | 0, _, _, _ => none
  | n + 1, l1, l2, S => (if (Int32.ofInt 9) ≤ l2 then some l1 else (ain 9 l2).bind fun j1 => (if ¬ (S.2.2.1 123 j1) = l2 then lX6_selfFollowing N n l1 (l2 + (Int32.ofInt 1)) S else pSt (l1 ||| ((Int32.ofInt 1) <<< (l2 &&& 31))) fun w2 => lX6_selfFollowing N n w2 (l2 + (Int32.ofInt 1)) S))
set_option maxRecDepth 4000 in
theorem uX6_selfFollowing {ro : xRo} {T : yK} {d N : Nat} : ∀ n : Nat, (∀ (l1 : Int32) (l2 : Int32) (S : yS) {q : Int32}, lX6_selfFollowing N n l1 l2 S = some q → ∀ z, Ry ro xNo (yKx T) z (d + 0) mX6_selfFollowing 4 [(0, .ref 122), (1, .int l1), (2, .int l2)] [] S (some (.int q), yH (yKx T) z S)) := by
  intro n
  induction n with
  | zero => exact (by intro _ _ _ _ hf; cases hf)
  | succ n ih =>
    intro l1 l2 S q hf z
    unfold lX6_selfFollowing at hf
    iterate 3 (refine ry_step rfl rfl ?_)
    refine ry_br hf (fun hc hf => ?_) (fun hc hf => ?_)
    · refine ry_step rfl rfl ?_
      cases hf
      exact ry_ret rfl rfl
    · iterate 3 (refine ry_step rfl rfl ?_)
      refine ry_iald hf rfl rfl rfl (fun j1 hf => ?_)
      iterate 2 (refine ry_step rfl rfl ?_)
      refine ry_br hf (fun hc hf => ?_) (fun hc hf => ?_)
      · iterate 2 (refine ry_step rfl rfl ?_)
        refine ry_sub [1, 2, 0] rfl rfl ?_
        exact ih l1 (l2 + (Int32.ofInt 1)) S hf _
      · iterate 5 (refine ry_step rfl rfl ?_)
        refine ry_nmi hf (fun w2 hf => ?_)
        iterate 3 (refine ry_step rfl rfl ?_)
        refine ry_sub [2, 1, 0] rfl rfl ?_
        exact ih w2 (l2 + (Int32.ofInt 1)) S hf _
def fX6_selfFollowing (N : Nat) (S : yS) : Option Int32 := lX6_selfFollowing N N (Int32.ofInt 0) (Int32.ofInt 0) S
set_option maxRecDepth 4000 in
theorem tX6_selfFollowing {ro : xRo} {T : yK} {S : yS} {d N : Nat} {q : Int32} (hf : fX6_selfFollowing N  S = some q) : yEv ro xNo (yKx T) (d + 1) jX6_selfFollowing [.ref 122] S (some (.int q)) S := by
  refine ry_meth pX6_selfFollowing rfl (fun z => ?_)
  unfold fX6_selfFollowing at hf
  iterate 4 (refine ry_step rfl rfl ?_)
  refine ry_sub [2, 1, 0] rfl rfl ?_
  exact uX6_selfFollowing (ro := ro) _ (Int32.ofInt 0) (Int32.ofInt 0) S hf _
def lX6_sizeAt (N : Nat) : Nat → Int32 → Int32 → Int32 → yS → Option Int32
  | 0, _, _, _, _ => none
  | n + 1, l1, l2, l3, S => (if (Int32.ofInt 9) < l3 then some (Int32.ofInt 0) else (ain 9 l2).bind fun j1 => (if ¬ (S.2.2.1 123 j1) = l1 then lX6_sizeAt N n l1 (S.2.2.1 123 j1) (l3 + (Int32.ofInt 1)) S else some l3))
set_option maxRecDepth 4000 in
theorem uX6_sizeAt {ro : xRo} {T : yK} {d N : Nat} : ∀ n : Nat, (∀ (l1 : Int32) (l2 : Int32) (l3 : Int32) (S : yS) {q : Int32}, lX6_sizeAt N n l1 l2 l3 S = some q → ∀ z, Ry ro xNo (yKx T) z (d + 0) mX6_sizeAt 4 [(0, .ref 122), (1, .int l1), (2, .int l2), (3, .int l3)] [] S (some (.int q), yH (yKx T) z S)) := by
  intro n
  induction n with
  | zero => exact (by intro _ _ _ _ _ hf; cases hf)
  | succ n ih =>
    intro l1 l2 l3 S q hf z
    unfold lX6_sizeAt at hf
    iterate 3 (refine ry_step rfl rfl ?_)
    refine ry_br hf (fun hc hf => ?_) (fun hc hf => ?_)
    · refine ry_step rfl rfl ?_
      cases hf
      exact ry_ret rfl rfl
    · iterate 3 (refine ry_step rfl rfl ?_)
      refine ry_iald hf rfl rfl rfl (fun j1 hf => ?_)
      iterate 4 (refine ry_step rfl rfl ?_)
      refine ry_br hf (fun hc hf => ?_) (fun hc hf => ?_)
      · iterate 2 (refine ry_step rfl rfl ?_)
        refine ry_sub [2, 3, 1, 0] rfl rfl ?_
        exact ih l1 (S.2.2.1 123 j1) (l3 + (Int32.ofInt 1)) S hf _
      · refine ry_step rfl rfl ?_
        cases hf
        exact ry_ret rfl rfl
def fX6_sizeAt (N : Nat) (v0 : Int32) (S : yS) : Option Int32 := lX6_sizeAt N N v0 v0 (Int32.ofInt 1) S
set_option maxRecDepth 4000 in
theorem tX6_sizeAt {ro : xRo} {T : yK} {S : yS} {d N : Nat} {v0 : Int32} {q : Int32} (hf : fX6_sizeAt N v0 S = some q) : yEv ro xNo (yKx T) (d + 1) jX6_sizeAt [.ref 122, .int v0] S (some (.int q)) S := by
  refine ry_meth pX6_sizeAt rfl (fun z => ?_)
  unfold fX6_sizeAt at hf
  iterate 4 (refine ry_step rfl rfl ?_)
  refine ry_sub [2, 3, 1, 0] rfl rfl ?_
  exact uX6_sizeAt (ro := ro) _ v0 v0 (Int32.ofInt 1) S hf _
def lX6_smallest (N : Nat) : Nat → Int32 → Int32 → Int32 → yS → Option Int32
  | 0, _, _, _, _ => none
  | n + 1, l1, l2, l3, S => (if (Int32.ofInt 9) ≤ l3 then some l1 else (fX6_sizeAt N l3 S).bind fun u2 => (if u2 ≤ 0 then lX6_smallest N n l1 l2 (l3 + (Int32.ofInt 1)) S else (if l2 ≤ u2 then lX6_smallest N n l1 l2 (l3 + (Int32.ofInt 1)) S else lX6_smallest N n l3 u2 (l3 + (Int32.ofInt 1)) S)))
set_option maxRecDepth 4000 in
theorem uX6_smallest {ro : xRo} {T : yK} {d N : Nat} : ∀ n : Nat, (∀ (l1 : Int32) (l2 : Int32) (l3 : Int32) (S : yS) {q : Int32}, lX6_smallest N n l1 l2 l3 S = some q → ∀ z, Ry ro xNo (yKx T) z (d + 1) mX6_smallest 7 [(0, .ref 122), (1, .int l1), (2, .int l2), (3, .int l3)] [] S (some (.int q), yH (yKx T) z S)) := by
  intro n
  induction n with
  | zero => exact (by intro _ _ _ _ _ hf; cases hf)
  | succ n ih =>
    intro l1 l2 l3 S q hf z
    unfold lX6_smallest at hf
    iterate 3 (refine ry_step rfl rfl ?_)
    refine ry_br hf (fun hc hf => ?_) (fun hc hf => ?_)
    · refine ry_step rfl rfl ?_
      cases hf
      exact ry_ret rfl rfl
    · iterate 2 (refine ry_step rfl rfl ?_)
      obtain ⟨u2, hv1, hf⟩ := Option.bind_eq_some_iff.mp hf
      refine ry_call rfl rfl rfl rfl rfl (tX6_sizeAt hv1) ?_
      iterate 3 (refine ry_step rfl rfl ?_)
      refine ry_br hf (fun hc hf => ?_) (fun hc hf => ?_)
      · iterate 2 (refine ry_step rfl rfl ?_)
        refine ry_sub [2, 3, 4, 0] rfl rfl ?_
        exact ih l1 l2 (l3 + (Int32.ofInt 1)) S hf _
      · iterate 3 (refine ry_step rfl rfl ?_)
        refine ry_br hf (fun hc hf => ?_) (fun hc hf => ?_)
        · iterate 2 (refine ry_step rfl rfl ?_)
          refine ry_sub [2, 3, 4, 0] rfl rfl ?_
          exact ih l1 l2 (l3 + (Int32.ofInt 1)) S hf _
        · iterate 6 (refine ry_step rfl rfl ?_)
          refine ry_sub [4, 1, 2, 0] rfl rfl ?_
          exact ih l3 u2 (l3 + (Int32.ofInt 1)) S hf _
def fX6_smallest (N : Nat) (S : yS) : Option Int32 := lX6_smallest N N (Int32.ofInt 0) (Int32.ofInt 10) (Int32.ofInt 0) S
set_option maxRecDepth 4000 in
theorem tX6_smallest {ro : xRo} {T : yK} {S : yS} {d N : Nat} {q : Int32} (hf : fX6_smallest N  S = some q) : yEv ro xNo (yKx T) (d + 2) jX6_smallest [.ref 122] S (some (.int q)) S := by
  refine ry_meth pX6_smallest rfl (fun z => ?_)
  unfold fX6_smallest at hf
  iterate 6 (refine ry_step rfl rfl ?_)
  refine ry_sub [3, 2, 1, 0] rfl rfl ?_
  exact uX6_smallest (ro := ro) _ (Int32.ofInt 0) (Int32.ofInt 10) (Int32.ofInt 0) S hf _
def lX6_stepsToRing (N : Nat) : Nat → Int32 → Int32 → yS → Option Int32
  | 0, _, _, _ => none
  | n + 1, l2, l3, S => (if (Int32.ofInt 9) ≤ l3 then some l3 else (fX6_sizeAt N l2 S).bind fun u2 => (if ¬ u2 = 0 then some l3 else (ain 9 l2).bind fun j3 => lX6_stepsToRing N n (S.2.2.1 123 j3) (l3 + (Int32.ofInt 1)) S))
set_option maxRecDepth 4000 in
theorem uX6_stepsToRing {ro : xRo} {T : yK} {d N : Nat} : ∀ n : Nat, (∀ (l2 : Int32) (l3 : Int32) (S : yS) {q : Int32}, lX6_stepsToRing N n l2 l3 S = some q → ∀ z, Ry ro xNo (yKx T) z (d + 1) mX6_stepsToRing 4 [(0, .ref 122), (2, .int l2), (3, .int l3)] [] S (some (.int q), yH (yKx T) z S)) := by
  intro n
  induction n with
  | zero => exact (by intro _ _ _ _ hf; cases hf)
  | succ n ih =>
    intro l2 l3 S q hf z
    unfold lX6_stepsToRing at hf
    iterate 3 (refine ry_step rfl rfl ?_)
    refine ry_br hf (fun hc hf => ?_) (fun hc hf => ?_)
    · refine ry_step rfl rfl ?_
      cases hf
      exact ry_ret rfl rfl
    · iterate 2 (refine ry_step rfl rfl ?_)
      obtain ⟨u2, hv1, hf⟩ := Option.bind_eq_some_iff.mp hf
      refine ry_call rfl rfl rfl rfl rfl (tX6_sizeAt hv1) ?_
      refine ry_step rfl rfl ?_
      refine ry_br hf (fun hc hf => ?_) (fun hc hf => ?_)
      · refine ry_step rfl rfl ?_
        cases hf
        exact ry_ret rfl rfl
      · iterate 3 (refine ry_step rfl rfl ?_)
        refine ry_iald hf rfl rfl rfl (fun j3 hf => ?_)
        iterate 3 (refine ry_step rfl rfl ?_)
        refine ry_sub [2, 1, 0] rfl rfl ?_
        exact ih (S.2.2.1 123 j3) (l3 + (Int32.ofInt 1)) S hf _
def fX6_stepsToRing (N : Nat) (v0 : Int32) (S : yS) : Option Int32 := lX6_stepsToRing N N v0 (Int32.ofInt 0) S
set_option maxRecDepth 4000 in
theorem tX6_stepsToRing {ro : xRo} {T : yK} {S : yS} {d N : Nat} {v0 : Int32} {q : Int32} (hf : fX6_stepsToRing N v0 S = some q) : yEv ro xNo (yKx T) (d + 2) jX6_stepsToRing [.ref 122, .int v0] S (some (.int q)) S := by
  refine ry_meth pX6_stepsToRing rfl (fun z => ?_)
  unfold fX6_stepsToRing at hf
  iterate 4 (refine ry_step rfl rfl ?_)
  refine ry_sub [2, 1, 0] rfl rfl ?_
  exact uX6_stepsToRing (ro := ro) _ v0 (Int32.ofInt 0) S hf _
def lX6_walked (N : Nat) : Nat → Int32 → Int32 → Int32 → yS → Option Int32
  | 0, _, _, _, _ => none
  | n + 1, l2, l3, l4, S => (if l2 ≤ l4 then some l3 else (ain 9 l3).bind fun j1 => lX6_walked N n l2 (S.2.2.1 123 j1) (l4 + (Int32.ofInt 1)) S)
set_option maxRecDepth 4000 in
theorem uX6_walked {ro : xRo} {T : yK} {d N : Nat} : ∀ n : Nat, (∀ (l2 : Int32) (l3 : Int32) (l4 : Int32) (S : yS) {q : Int32}, lX6_walked N n l2 l3 l4 S = some q → ∀ z, Ry ro xNo (yKx T) z (d + 0) mX6_walked 5 [(0, .ref 122), (2, .int l2), (3, .int l3), (4, .int l4)] [] S (some (.int q), yH (yKx T) z S)) := by
  intro n
  induction n with
  | zero => exact (by intro _ _ _ _ _ hf; cases hf)
  | succ n ih =>
    intro l2 l3 l4 S q hf z
    unfold lX6_walked at hf
    iterate 3 (refine ry_step rfl rfl ?_)
    refine ry_br hf (fun hc hf => ?_) (fun hc hf => ?_)
    · refine ry_step rfl rfl ?_
      cases hf
      exact ry_ret rfl rfl
    · iterate 3 (refine ry_step rfl rfl ?_)
      refine ry_iald hf rfl rfl rfl (fun j1 hf => ?_)
      iterate 3 (refine ry_step rfl rfl ?_)
      refine ry_sub [2, 3, 1, 0] rfl rfl ?_
      exact ih l2 (S.2.2.1 123 j1) (l4 + (Int32.ofInt 1)) S hf _
def fX6_walked (N : Nat) (v0 : Int32) (v1 : Int32) (S : yS) : Option Int32 := lX6_walked N N v1 v0 (Int32.ofInt 0) S
set_option maxRecDepth 4000 in
theorem tX6_walked {ro : xRo} {T : yK} {S : yS} {d N : Nat} {v0 : Int32} {v1 : Int32} {q : Int32} (hf : fX6_walked N v0 v1 S = some q) : yEv ro xNo (yKx T) (d + 1) jX6_walked [.ref 122, .int v0, .int v1] S (some (.int q)) S := by
  refine ry_meth pX6_walked rfl (fun z => ?_)
  unfold fX6_walked at hf
  iterate 4 (refine ry_step rfl rfl ?_)
  refine ry_sub [2, 4, 1, 0] rfl rfl ?_
  exact uX6_walked (ro := ro) _ v1 v0 (Int32.ofInt 0) S hf _
def lX7_addOne (N : Nat) : Nat → Int32 → Int32 → yS → Option yS
  | 0, _, _, _ => none
  | n + 1, l1, l2, S => (if l2 ≤ 0 then pSt (ySl S 262 (vp_updL (S.2.2.2.1 262) 0 ((S.2.2.2.1 262 0) * (Int32.toInt64 ((Int32.ofInt 10) - l1))))) fun S2 => pSt (ySj S2 261 2 ((S2.2.1 261 2) * (Int64.ofInt 10))) fun S3 => some S3 else (ain 13 l2).bind fun j4 => (ain 13 (l2 - (Int32.ofInt 1))).bind fun j5 => (ain 13 l2).bind fun j7 => pSt (ySl S 262 (vp_updL (S.2.2.2.1 262) j7 (((S.2.2.2.1 262 j4) * (Int32.toInt64 ((Int32.ofInt 10) - l1))) + ((S.2.2.2.1 262 j5) * (Int32.toInt64 l1))))) fun S6 => lX7_addOne N n l1 (l2 + (Int32.ofInt (-1))) S6)
set_option maxRecDepth 4000 in
theorem uX7_addOne {ro : xRo} {T : yK} {d N : Nat} : ∀ n : Nat, (∀ (l1 : Int32) (l2 : Int32) (S : yS) {S' : yS}, lX7_addOne N n l1 l2 S = some S' → ∀ z, Ry ro xNo (yKx T) z (d + 0) mX7_addOne 25 [(0, .ref 261), (1, .int l1), (2, .int l2)] [] S (none, yH (yKx T) z S')) := by
  intro n
  induction n with
  | zero => exact (by intro _ _ _ _ hf; cases hf)
  | succ n ih =>
    intro l1 l2 S S' hf z
    unfold lX7_addOne at hf
    iterate 2 (refine ry_step rfl rfl ?_)
    refine ry_br hf (fun hc hf => ?_) (fun hc hf => ?_)
    · iterate 12 (refine ry_step rfl rfl ?_)
      refine ry_stepS hf rfl rfl (fun S2 hf => ?_)
      iterate 5 (refine ry_step rfl rfl ?_)
      refine ry_stepS hf rfl rfl (fun S3 hf => ?_)
      cases hf
      exact ry_ret rfl rfl
    · iterate 6 (refine ry_step rfl rfl ?_)
      refine ry_lald hf rfl rfl (fun j4 hf => ?_)
      iterate 10 (refine ry_step rfl rfl ?_)
      refine ry_lald hf rfl rfl (fun j5 hf => ?_)
      iterate 4 (refine ry_step rfl rfl ?_)
      refine ry_last hf rfl rfl (fun j7 S6 hf => ?_)
      iterate 2 (refine ry_step rfl rfl ?_)
      refine ry_sub [1, 2, 0] rfl rfl ?_
      exact ih l1 (l2 + (Int32.ofInt (-1))) S6 hf _
def fX7_addOne (N : Nat) (v0 : Int32) (S : yS) : Option yS := (if (S.1 261 1) < (Int32.ofInt 12) then pSt (ySi S 261 1 ((S.1 261 1) + (Int32.ofInt 1))) fun S1 => lX7_addOne N N v0 (S1.1 261 1) S1 else some S)
set_option maxRecDepth 4000 in
theorem tX7_addOne {ro : xRo} {T : yK} {S : yS} {d N : Nat} {v0 : Int32} {S' : yS} (hf : fX7_addOne N v0 S = some S') : yEv ro xNo (yKx T) (d + 1) jX7_addOne [.ref 261, .int v0] S (none) S' := by
  refine ry_meth pX7_addOne rfl (fun z => ?_)
  unfold fX7_addOne at hf
  iterate 4 (refine ry_step rfl rfl ?_)
  refine ry_br hf (fun hc hf => ?_) (fun hc hf => ?_)
  · iterate 5 (refine ry_step rfl rfl ?_)
    refine ry_stepS hf rfl rfl (fun S1 hf => ?_)
    iterate 3 (refine ry_step rfl rfl ?_)
    refine ry_sub [1, 2, 0] rfl rfl ?_
    exact uX7_addOne (ro := ro) _ v0 (S1.1 261 1) S1 hf _
  · cases hf
    exact ry_ret rfl rfl
def fX7_just (v0 : Int32) (S : yS) : Option Int64 := (if (fX11_within v0 (Int32.ofInt 0) (Int32.ofInt 12)) = 0 then some (Int64.ofNat 0) else (ain 13 v0).bind fun j1 => some (S.2.2.2.1 262 j1))
set_option maxRecDepth 4000 in
theorem tX7_just {ro : xRo} {T : yK} {S : yS} {d : Nat} {v0 : Int32} {q : Int64} (hf : fX7_just v0 S = some q) : yEv ro xNo (yKx T) (d + 2) jX7_just [.ref 261, .int v0] S (some (.long q)) S := by
  refine ry_meth pX7_just rfl (fun z => ?_)
  unfold fX7_just at hf
  iterate 3 (refine ry_step rfl rfl ?_)
  refine ry_call rfl rfl rfl rfl rfl tX11_within ?_
  refine ry_step rfl rfl ?_
  refine ry_br hf (fun hc hf => ?_) (fun hc hf => ?_)
  · refine ry_step rfl rfl ?_
    cases hf
    exact ry_ret rfl rfl
  · iterate 3 (refine ry_step rfl rfl ?_)
    refine ry_lald hf rfl rfl (fun j1 hf => ?_)
    refine ry_step rfl rfl ?_
    cases hf
    exact ry_ret rfl rfl
def lX7_orMore (N : Nat) : Nat → Int64 → Int32 → yS → Option Int64
  | 0, _, _, _ => none
  | n + 1, l2, l4, S => (if (Int32.ofInt 12) < l4 then some l2 else (ain 13 l4).bind fun j2 => lX7_orMore N n (l2 + (S.2.2.2.1 262 j2)) (l4 + (Int32.ofInt 1)) S)
set_option maxRecDepth 4000 in
theorem uX7_orMore {ro : xRo} {T : yK} {d N : Nat} : ∀ n : Nat, (∀ (l2 : Int64) (l4 : Int32) (S : yS) {q : Int64}, lX7_orMore N n l2 l4 S = some q → ∀ z, Ry ro xNo (yKx T) z (d + 0) mX7_orMore 9 [(0, .ref 261), (2, .long l2), (4, .int l4)] [] S (some (.long q), yH (yKx T) z S)) := by
  intro n
  induction n with
  | zero => exact (by intro _ _ _ _ hf; cases hf)
  | succ n ih =>
    intro l2 l4 S q hf z
    unfold lX7_orMore at hf
    iterate 3 (refine ry_step rfl rfl ?_)
    refine ry_br hf (fun hc hf => ?_) (fun hc hf => ?_)
    · refine ry_step rfl rfl ?_
      cases hf
      exact ry_ret rfl rfl
    · iterate 4 (refine ry_step rfl rfl ?_)
      refine ry_lald hf rfl rfl (fun j2 hf => ?_)
      iterate 4 (refine ry_step rfl rfl ?_)
      refine ry_sub [2, 1, 0] rfl rfl ?_
      exact ih (l2 + (S.2.2.2.1 262 j2)) (l4 + (Int32.ofInt 1)) S hf _
def fX7_orMore (N : Nat) (v0 : Int32) (S : yS) : Option Int64 := pSt (if (Int32.ofInt 0) < v0 then v0 else (Int32.ofInt 0)) fun w1 => lX7_orMore N N (Int64.ofNat 0) w1 S
set_option maxRecDepth 4000 in
theorem tX7_orMore {ro : xRo} {T : yK} {S : yS} {d N : Nat} {v0 : Int32} {q : Int64} (hf : fX7_orMore N v0 S = some q) : yEv ro xNo (yKx T) (d + 1) jX7_orMore [.ref 261, .int v0] S (some (.long q)) S := by
  refine ry_meth pX7_orMore rfl (fun z => ?_)
  unfold fX7_orMore at hf
  iterate 5 (refine ry_step rfl rfl ?_)
  refine ry_nmi hf (fun w1 hf => ?_)
  refine ry_step rfl rfl ?_
  refine ry_sub [2, 1, 0] rfl rfl ?_
  exact uX7_orMore (ro := ro) _ (Int64.ofNat 0) w1 S hf _
def lX9_add (N : Nat) : Nat → Int32 → Int32 → yS → Option yS
  | 0, _, _, _ => none
  | n + 1, l1, l2, S => (if l2 < 0 then some S else (if (Int32.ofInt 300) ≤ (S.1 251 1) then some S else (ain 300 (S.1 251 1)).bind fun j3 => pSt (ySa S 252 (upd (S.2.2.1 252) j3 ((l1 >>> (l2 &&& 31)) &&& (Int32.ofInt 255)))) fun S1 => pSt (ySi S1 251 1 ((S1.1 251 1) + (Int32.ofInt 1))) fun S2 => lX9_add N n l1 (l2 + (Int32.ofInt (-8))) S2))
set_option maxRecDepth 4000 in
theorem uX9_add {ro : xRo} {T : yK} {d N : Nat} : ∀ n : Nat, (∀ (l1 : Int32) (l2 : Int32) (S : yS) {S' : yS}, lX9_add N n l1 l2 S = some S' → ∀ z, Ry ro xNo (yKx T) z (d + 0) mX9_add 3 [(0, .ref 251), (1, .int l1), (2, .int l2)] [] S (none, yH (yKx T) z S')) := by
  intro n
  induction n with
  | zero => exact (by intro _ _ _ _ hf; cases hf)
  | succ n ih =>
    intro l1 l2 S S' hf z
    unfold lX9_add at hf
    iterate 2 (refine ry_step rfl rfl ?_)
    refine ry_br hf (fun hc hf => ?_) (fun hc hf => ?_)
    · cases hf
      exact ry_ret rfl rfl
    · iterate 4 (refine ry_step rfl rfl ?_)
      refine ry_br hf (fun hc hf => ?_) (fun hc hf => ?_)
      · cases hf
        exact ry_ret rfl rfl
      · iterate 9 (refine ry_step rfl rfl ?_)
        refine ry_iast hf rfl rfl (fun j3 S1 hf => ?_)
        iterate 5 (refine ry_step rfl rfl ?_)
        refine ry_stepS hf rfl rfl (fun S2 hf => ?_)
        iterate 2 (refine ry_step rfl rfl ?_)
        refine ry_sub [1, 2, 0] rfl rfl ?_
        exact ih l1 (l2 + (Int32.ofInt (-8))) S2 hf _
def fX9_add (N : Nat) (v0 : Int32) (S : yS) : Option yS := lX9_add N N v0 (Int32.ofInt 24) S
set_option maxRecDepth 4000 in
theorem tX9_add {ro : xRo} {T : yK} {S : yS} {d N : Nat} {v0 : Int32} {S' : yS} (hf : fX9_add N v0 S = some S') : yEv ro xNo (yKx T) (d + 1) jX9_add [.ref 251, .int v0] S (none) S' := by
  refine ry_meth pX9_add rfl (fun z => ?_)
  unfold fX9_add at hf
  iterate 2 (refine ry_step rfl rfl ?_)
  refine ry_sub [1, 2, 0] rfl rfl ?_
  exact uX9_add (ro := ro) _ v0 (Int32.ofInt 24) S hf _
def fX9_put (v0 : Int32) (v1 : Int32) (v2 : Int32) (S : yS) : Option yS := (if (Int32.ofNat 301) ≤ (S.1 251 5) then some S else (ain 301 (S.1 251 5)).bind fun j7 => pSt (ySa S 253 (upd (S.2.2.1 253) j7 v0)) fun S1 => (ain 301 (S1.1 251 5)).bind fun j6 => pSt (ySa S1 254 (upd (S1.2.2.1 254) j6 v1)) fun S2 => (ain 301 (S2.1 251 5)).bind fun j5 => pSt (ySa S2 255 (upd (S2.2.2.1 255) j5 v2)) fun S3 => pSt (ySi S3 251 5 ((S3.1 251 5) + (Int32.ofInt 1))) fun S4 => some S4)
set_option maxRecDepth 4000 in
theorem tX9_put {ro : xRo} {T : yK} {S : yS} {d : Nat} {v0 : Int32} {v1 : Int32} {v2 : Int32} {S' : yS} (hf : fX9_put v0 v1 v2 S = some S') : yEv ro xNo (yKx T) (d + 1) jX9_put [.ref 251, .int v0, .int v1, .int v2] S (none) S' := by
  refine ry_meth pX9_put rfl (fun z => ?_)
  unfold fX9_put at hf
  iterate 6 (refine ry_step rfl rfl ?_)
  refine ry_br hf (fun hc hf => ?_) (fun hc hf => ?_)
  · cases hf
    exact ry_ret rfl rfl
  · iterate 5 (refine ry_step rfl rfl ?_)
    refine ry_iast hf rfl rfl (fun j7 S1 hf => ?_)
    iterate 5 (refine ry_step rfl rfl ?_)
    refine ry_iast hf rfl rfl (fun j6 S2 hf => ?_)
    iterate 5 (refine ry_step rfl rfl ?_)
    refine ry_iast hf rfl rfl (fun j5 S3 hf => ?_)
    iterate 5 (refine ry_step rfl rfl ?_)
    refine ry_stepS hf rfl rfl (fun S4 hf => ?_)
    cases hf
    exact ry_ret rfl rfl
def lX9_scanNumber (N : Nat) : Nat → Int32 → Int32 → Int32 → yS → Option (Int32 × yS)
  | 0, _, _, _, _ => none
  | n + 1, l1, l2, l3, S => (if (S.1 251 1) ≤ l3 then (fX9_put (Int32.ofInt 38) l1 l2 S).bind fun S4 => some ((l3 - l1), S4) else (ain 300 l3).bind fun j5 => (if (fX9_isDigit (S.2.2.1 252 j5)) = 0 then (fX9_put (Int32.ofInt 38) l1 l2 S).bind fun S7 => some ((l3 - l1), S7) else (ain 300 l3).bind fun j8 => pSt (if (((l2 * (Int32.ofInt 10)) + (S.2.2.1 252 j8)) - (Int32.ofInt 48)) < (Int32.ofInt 10000) then (((l2 * (Int32.ofInt 10)) + (S.2.2.1 252 j8)) - (Int32.ofInt 48)) else (Int32.ofInt 10000)) fun w9 => lX9_scanNumber N n l1 w9 (l3 + (Int32.ofInt 1)) S))
set_option maxRecDepth 4000 in
theorem uX9_scanNumber {ro : xRo} {T : yK} {d N : Nat} : ∀ n : Nat, (∀ (l1 : Int32) (l2 : Int32) (l3 : Int32) (S : yS) {q : Int32} {S' : yS}, lX9_scanNumber N n l1 l2 l3 S = some (q, S') → ∀ z, Ry ro xNo (yKx T) z (d + 2) mX9_scanNumber 14 [(0, .ref 251), (1, .int l1), (2, .int l2), (3, .int l3)] [] S (some (.int q), yH (yKx T) z S')) := by
  intro n
  induction n with
  | zero => exact (by intro _ _ _ _ _ _ hf; cases hf)
  | succ n ih =>
    intro l1 l2 l3 S q S' hf z
    unfold lX9_scanNumber at hf
    iterate 4 (refine ry_step rfl rfl ?_)
    refine ry_br hf (fun hc hf => ?_) (fun hc hf => ?_)
    · iterate 4 (refine ry_step rfl rfl ?_)
      obtain ⟨S4, hv3, hf⟩ := Option.bind_eq_some_iff.mp hf
      refine ry_call rfl rfl rfl rfl rfl (tX9_put hv3) ?_
      iterate 3 (refine ry_step rfl rfl ?_)
      cases hf
      exact ry_ret rfl rfl
    · iterate 3 (refine ry_step rfl rfl ?_)
      refine ry_iald hf rfl rfl rfl (fun j5 hf => ?_)
      refine ry_call rfl rfl rfl rfl rfl tX9_isDigit ?_
      refine ry_step rfl rfl ?_
      refine ry_br hf (fun hc hf => ?_) (fun hc hf => ?_)
      · iterate 4 (refine ry_step rfl rfl ?_)
        obtain ⟨S7, hv6, hf⟩ := Option.bind_eq_some_iff.mp hf
        refine ry_call rfl rfl rfl rfl rfl (tX9_put hv6) ?_
        iterate 3 (refine ry_step rfl rfl ?_)
        cases hf
        exact ry_ret rfl rfl
      · iterate 7 (refine ry_step rfl rfl ?_)
        refine ry_iald hf rfl rfl rfl (fun j8 hf => ?_)
        iterate 4 (refine ry_step rfl rfl ?_)
        refine ry_nmi hf (fun w9 hf => ?_)
        iterate 3 (refine ry_step rfl rfl ?_)
        refine ry_sub [2, 3, 1, 0] rfl rfl ?_
        exact ih l1 w9 (l3 + (Int32.ofInt 1)) S hf _
def fX9_scanNumber (N : Nat) (v0 : Int32) (S : yS) : Option (Int32 × yS) := (ain 300 v0).bind fun j1 => pSt ((S.2.2.1 252 j1) - (Int32.ofInt 48)) fun w2 => lX9_scanNumber N N v0 w2 (v0 + (Int32.ofInt 1)) S
set_option maxRecDepth 4000 in
theorem tX9_scanNumber {ro : xRo} {T : yK} {S : yS} {d N : Nat} {v0 : Int32} {q : Int32} {S' : yS} (hf : fX9_scanNumber N v0 S = some (q, S')) : yEv ro xNo (yKx T) (d + 3) jX9_scanNumber [.ref 251, .int v0] S (some (.int q)) S' := by
  refine ry_meth pX9_scanNumber rfl (fun z => ?_)
  unfold fX9_scanNumber at hf
  iterate 3 (refine ry_step rfl rfl ?_)
  refine ry_iald hf rfl rfl rfl (fun j1 hf => ?_)
  iterate 2 (refine ry_step rfl rfl ?_)
  refine ry_nmi hf (fun w2 hf => ?_)
  iterate 5 (refine ry_step rfl rfl ?_)
  refine ry_sub [2, 3, 1, 0] rfl rfl ?_
  exact uX9_scanNumber (ro := ro) _ v0 w2 (v0 + (Int32.ofInt 1)) S hf _
def fX11_bird (v0 : Int32) (v1 : Int32) (v2 : Int32) (S : yS) : Option (Int32 × yS) := (if (fX11_within v0 (Int32.ofInt 1) (Int32.ofInt 12)) = 0 then some ((Int32.ofInt (-1)), S) else (if (fX11_within v1 (Int32.ofInt 0) (v0 - (Int32.ofInt 1))) = 0 then some ((Int32.ofInt (-1)), S) else (if ¬ (fX11_within v2 (Int32.ofInt 0) (Int32.ofInt 10)) = 0 then (fX0_addBird v0 v1 v2 S).bind fun (u3, S2) => some (u3, S2) else some ((Int32.ofInt (-1)), S))))
set_option maxRecDepth 4000 in
theorem tX11_bird {ro : xRo} {T : yK} {S : yS} {d : Nat} {v0 : Int32} {v1 : Int32} {v2 : Int32} {q : Int32} {S' : yS} (hf : fX11_bird v0 v1 v2 S = some (q, S')) : yEv ro xNo (yKx T) (d + 2) jX11_bird [.ref 16, .int v0, .int v1, .int v2] S (some (.int q)) S' := by
  refine ry_meth pX11_bird rfl (fun z => ?_)
  unfold fX11_bird at hf
  iterate 3 (refine ry_step rfl rfl ?_)
  refine ry_call rfl rfl rfl rfl rfl tX11_within ?_
  refine ry_step rfl rfl ?_
  refine ry_br hf (fun hc hf => ?_) (fun hc hf => ?_)
  · refine ry_step rfl rfl ?_
    cases hf
    exact ry_ret rfl rfl
  · iterate 5 (refine ry_step rfl rfl ?_)
    refine ry_call rfl rfl rfl rfl rfl tX11_within ?_
    refine ry_step rfl rfl ?_
    refine ry_br hf (fun hc hf => ?_) (fun hc hf => ?_)
    · refine ry_step rfl rfl ?_
      cases hf
      exact ry_ret rfl rfl
    · iterate 3 (refine ry_step rfl rfl ?_)
      refine ry_call rfl rfl rfl rfl rfl tX11_within ?_
      refine ry_step rfl rfl ?_
      refine ry_br hf (fun hc hf => ?_) (fun hc hf => ?_)
      · iterate 5 (refine ry_step rfl rfl ?_)
        obtain ⟨⟨u3, S2⟩, hv1, hf⟩ := Option.bind_eq_some_iff.mp hf
        dsimp only at hf
        refine ry_call rfl rfl rfl rfl rfl (tX0_addBird hv1) ?_
        cases hf
        exact ry_ret rfl rfl
      · refine ry_step rfl rfl ?_
        cases hf
        exact ry_ret rfl rfl
def fX11_rhyme (v0 : Int32) (v1 : Int32) (S : yS) : Option (Int32 × yS) := (if (fX11_isCount v0) = 0 then some ((Int32.ofInt 0), S) else (if ¬ (fX11_within v1 (Int32.ofInt 0) (Int32.ofInt 9)) = 0 then (ain 9 v0).bind fun j2 => pSt (ySa S 117 (upd (S.2.2.1 117) j2 v1)) fun S1 => some ((Int32.ofInt 1), S1) else some ((Int32.ofInt 0), S)))
set_option maxRecDepth 4000 in
theorem tX11_rhyme {ro : xRo} {T : yK} {S : yS} {d : Nat} {v0 : Int32} {v1 : Int32} {q : Int32} {S' : yS} (hf : fX11_rhyme v0 v1 S = some (q, S')) : yEv ro xNo (yKx T) (d + 2) jX11_rhyme [.ref 16, .int v0, .int v1] S (some (.int q)) S' := by
  refine ry_meth pX11_rhyme rfl (fun z => ?_)
  unfold fX11_rhyme at hf
  refine ry_step rfl rfl ?_
  refine ry_call rfl rfl rfl rfl rfl tX11_isCount ?_
  refine ry_step rfl rfl ?_
  refine ry_br hf (fun hc hf => ?_) (fun hc hf => ?_)
  · refine ry_step rfl rfl ?_
    cases hf
    exact ry_ret rfl rfl
  · iterate 3 (refine ry_step rfl rfl ?_)
    refine ry_call rfl rfl rfl rfl rfl tX11_within ?_
    refine ry_step rfl rfl ?_
    refine ry_br hf (fun hc hf => ?_) (fun hc hf => ?_)
    · iterate 5 (refine ry_step rfl rfl ?_)
      refine ry_iast hf rfl rfl (fun j2 S1 hf => ?_)
      refine ry_step rfl rfl ?_
      cases hf
      exact ry_ret rfl rfl
    · refine ry_step rfl rfl ?_
      cases hf
      exact ry_ret rfl rfl
def fX11_feed (N : Nat) (v0 : Int32) (v1 : Int32) (v2 : Int32) (v3 : Int32) (v4 : Int32) (S : yS) : Option (Int32 × yS) := (if ((S.1 251 1) + (Int32.ofInt 20)) ≤ (Int32.ofInt 300) then (fX9_add N v0 S).bind fun S2 => (fX9_add N v1 S2).bind fun S4 => (fX9_add N v2 S4).bind fun S6 => (fX9_add N v3 S6).bind fun S8 => (fX9_add N v4 S8).bind fun S10 => some ((S10.1 251 1), S10) else some ((Int32.ofInt (-1)), S))
set_option maxRecDepth 4000 in
theorem tX11_feed {ro : xRo} {T : yK} {S : yS} {d N : Nat} {v0 : Int32} {v1 : Int32} {v2 : Int32} {v3 : Int32} {v4 : Int32} {q : Int32} {S' : yS} (hf : fX11_feed N v0 v1 v2 v3 v4 S = some (q, S')) : yEv ro xNo (yKx T) (d + 2) jX11_feed [.ref 16, .int v0, .int v1, .int v2, .int v3, .int v4] S (some (.int q)) S' := by
  refine ry_meth pX11_feed rfl (fun z => ?_)
  unfold fX11_feed at hf
  iterate 7 (refine ry_step rfl rfl ?_)
  refine ry_br hf (fun hc hf => ?_) (fun hc hf => ?_)
  · iterate 3 (refine ry_step rfl rfl ?_)
    obtain ⟨S2, hv1, hf⟩ := Option.bind_eq_some_iff.mp hf
    refine ry_call rfl rfl rfl rfl rfl (tX9_add hv1) ?_
    iterate 3 (refine ry_step rfl rfl ?_)
    obtain ⟨S4, hv3, hf⟩ := Option.bind_eq_some_iff.mp hf
    refine ry_call rfl rfl rfl rfl rfl (tX9_add hv3) ?_
    iterate 3 (refine ry_step rfl rfl ?_)
    obtain ⟨S6, hv5, hf⟩ := Option.bind_eq_some_iff.mp hf
    refine ry_call rfl rfl rfl rfl rfl (tX9_add hv5) ?_
    iterate 3 (refine ry_step rfl rfl ?_)
    obtain ⟨S8, hv7, hf⟩ := Option.bind_eq_some_iff.mp hf
    refine ry_call rfl rfl rfl rfl rfl (tX9_add hv7) ?_
    iterate 3 (refine ry_step rfl rfl ?_)
    obtain ⟨S10, hv9, hf⟩ := Option.bind_eq_some_iff.mp hf
    refine ry_call rfl rfl rfl rfl rfl (tX9_add hv9) ?_
    iterate 3 (refine ry_step rfl rfl ?_)
    cases hf
    exact ry_ret rfl rfl
  · refine ry_step rfl rfl ?_
    cases hf
    exact ry_ret rfl rfl
def fX11_end (v0 : Int32) (S : yS) : Option (Int32 × yS) := (if ¬ (fX11_within v0 (Int32.ofInt 0) (S.1 251 1)) = 0 then pSt (ySi S 251 1 v0) fun S1 => some (v0, S1) else some ((Int32.ofInt (-1)), S))
set_option maxRecDepth 4000 in
theorem tX11_end {ro : xRo} {T : yK} {S : yS} {d : Nat} {v0 : Int32} {q : Int32} {S' : yS} (hf : fX11_end v0 S = some (q, S')) : yEv ro xNo (yKx T) (d + 2) jX11_end [.ref 16, .int v0] S (some (.int q)) S' := by
  refine ry_meth pX11_end rfl (fun z => ?_)
  unfold fX11_end at hf
  iterate 5 (refine ry_step rfl rfl ?_)
  refine ry_call rfl rfl rfl rfl rfl tX11_within ?_
  refine ry_step rfl rfl ?_
  refine ry_br hf (fun hc hf => ?_) (fun hc hf => ?_)
  · iterate 3 (refine ry_step rfl rfl ?_)
    refine ry_stepS hf rfl rfl (fun S1 hf => ?_)
    refine ry_step rfl rfl ?_
    cases hf
    exact ry_ret rfl rfl
  · refine ry_step rfl rfl ?_
    cases hf
    exact ry_ret rfl rfl
def fX11_fault (v0 : Int32) (S : yS) : Option Int32 := (if ¬ v0 = 0 then (if ¬ v0 = (Int32.ofInt 1) then some (Int32.ofInt (-1)) else some (S.1 16 10)) else some (S.1 16 9))
set_option maxRecDepth 4000 in
theorem tX11_fault {ro : xRo} {T : yK} {S : yS} {d : Nat} {v0 : Int32} {q : Int32} (hf : fX11_fault v0 S = some q) : yEv ro xNo (yKx T) (d + 1) jX11_fault [.ref 16, .int v0] S (some (.int q)) S := by
  refine ry_meth pX11_fault rfl (fun z => ?_)
  unfold fX11_fault at hf
  iterate 2 (refine ry_step rfl rfl ?_)
  refine ry_br hf (fun hc hf => ?_) (fun hc hf => ?_)
  · iterate 3 (refine ry_step rfl rfl ?_)
    refine ry_br hf (fun hc hf => ?_) (fun hc hf => ?_)
    · refine ry_step rfl rfl ?_
      cases hf
      exact ry_ret rfl rfl
    · iterate 3 (refine ry_step rfl rfl ?_)
      cases hf
      exact ry_ret rfl rfl
  · iterate 2 (refine ry_step rfl rfl ?_)
    cases hf
    exact ry_ret rfl rfl
def fX11_by (v0 : Int32) (S : yS) : Option (Int32 × yS) := (if v0 = (Int32.ofInt (-1)) then pSt (ySi S 18 9 v0) fun S1 => some ((Int32.ofInt 1), S1) else (fX0_hasText v0 S).bind fun u3 => (if ¬ u3 = 0 then pSt (ySi S 18 9 v0) fun S4 => some ((Int32.ofInt 1), S4) else some ((Int32.ofInt 0), S)))
set_option maxRecDepth 4000 in
theorem tX11_by {ro : xRo} {T : yK} {S : yS} {d : Nat} {v0 : Int32} {q : Int32} {S' : yS} (hf : fX11_by v0 S = some (q, S')) : yEv ro xNo (yKx T) (d + 2) jX11_by [.ref 16, .int v0] S (some (.int q)) S' := by
  refine ry_meth pX11_by rfl (fun z => ?_)
  unfold fX11_by at hf
  iterate 3 (refine ry_step rfl rfl ?_)
  refine ry_br hf (fun hc hf => ?_) (fun hc hf => ?_)
  · iterate 3 (refine ry_step rfl rfl ?_)
    refine ry_stepS hf rfl rfl (fun S1 hf => ?_)
    refine ry_step rfl rfl ?_
    cases hf
    exact ry_ret rfl rfl
  · iterate 3 (refine ry_step rfl rfl ?_)
    obtain ⟨u3, hv2, hf⟩ := Option.bind_eq_some_iff.mp hf
    refine ry_call rfl rfl rfl rfl rfl (tX0_hasText hv2) ?_
    refine ry_step rfl rfl ?_
    refine ry_br hf (fun hc hf => ?_) (fun hc hf => ?_)
    · iterate 3 (refine ry_step rfl rfl ?_)
      refine ry_stepS hf rfl rfl (fun S4 hf => ?_)
      refine ry_step rfl rfl ?_
      cases hf
      exact ry_ret rfl rfl
    · refine ry_step rfl rfl ?_
      cases hf
      exact ry_ret rfl rfl
def fX11_is (v0 : Int32) (S : yS) : Option Int32 := (if v0 = (Int32.ofInt 0) then some (S.1 19 4) else (if v0 = (Int32.ofInt 1) then some (S.1 19 5) else (if v0 = (Int32.ofInt 2) then some (S.1 19 1) else (if v0 = (Int32.ofInt 3) then some (S.1 19 2) else (if v0 = (Int32.ofInt 4) then some (S.1 19 3) else some (Int32.ofInt (-100000)))))))
set_option maxRecDepth 4000 in
theorem tX11_is {ro : xRo} {T : yK} {S : yS} {d : Nat} {v0 : Int32} {q : Int32} (hf : fX11_is v0 S = some q) : yEv ro xNo (yKx T) (d + 1) jX11_is [.ref 16, .int v0] S (some (.int q)) S := by
  refine ry_meth pX11_is rfl (fun z => ?_)
  unfold fX11_is at hf
  refine ry_step rfl rfl ?_
  refine ry_sw hf (fun hf => ?_) (fun n0 hf => ?_)
  · iterate 5 (refine ry_step rfl rfl ?_)
    cases hf
    exact ry_ret rfl rfl
  · refine ry_sw hf (fun hf => ?_) (fun n1 hf => ?_)
    · iterate 5 (refine ry_step rfl rfl ?_)
      cases hf
      exact ry_ret rfl rfl
    · refine ry_sw hf (fun hf => ?_) (fun n2 hf => ?_)
      · iterate 5 (refine ry_step rfl rfl ?_)
        cases hf
        exact ry_ret rfl rfl
      · refine ry_sw hf (fun hf => ?_) (fun n3 hf => ?_)
        · iterate 5 (refine ry_step rfl rfl ?_)
          cases hf
          exact ry_ret rfl rfl
        · refine ry_sw hf (fun hf => ?_) (fun n4 hf => ?_)
          · iterate 5 (refine ry_step rfl rfl ?_)
            cases hf
            exact ry_ret rfl rfl
          · have m0 := xne_toInt (k := 0) rfl n0
            have m1 := xne_toInt (k := 1) rfl n1
            have m2 := xne_toInt (k := 2) rfl n2
            have m3 := xne_toInt (k := 3) rfl n3
            have m4 := xne_toInt (k := 4) rfl n4
            refine ry_tb rfl (by omega) ?_
            refine ry_step rfl rfl ?_
            cases hf
            exact ry_ret rfl rfl
def fX11_things (v0 : Int32) (S : yS) : Option Int32 := (if (fX11_isCount v0) = 0 then some (Int32.ofInt (-1)) else (ain 9 v0).bind fun j1 => some (S.2.2.1 117 j1))
set_option maxRecDepth 4000 in
theorem tX11_things {ro : xRo} {T : yK} {S : yS} {d : Nat} {v0 : Int32} {q : Int32} (hf : fX11_things v0 S = some q) : yEv ro xNo (yKx T) (d + 2) jX11_things [.ref 16, .int v0] S (some (.int q)) S := by
  refine ry_meth pX11_things rfl (fun z => ?_)
  unfold fX11_things at hf
  refine ry_step rfl rfl ?_
  refine ry_call rfl rfl rfl rfl rfl tX11_isCount ?_
  refine ry_step rfl rfl ?_
  refine ry_br hf (fun hc hf => ?_) (fun hc hf => ?_)
  · refine ry_step rfl rfl ?_
    cases hf
    exact ry_ret rfl rfl
  · iterate 4 (refine ry_step rfl rfl ?_)
    refine ry_iald hf rfl rfl rfl (fun j1 hf => ?_)
    refine ry_step rfl rfl ?_
    cases hf
    exact ry_ret rfl rfl
def fX11_book (v0 : Int32) (v1 : Int32) (S : yS) : Option Int32 := (if ¬ v0 = (Int32.ofInt (-1)) then (if (fX11_within v0 (Int32.ofInt 0) ((S.1 19 8) - (Int32.ofInt 1))) = 0 then some (Int32.ofInt (-1000)) else (if ¬ (fX11_within v1 (Int32.ofInt 0) (Int32.ofInt 3)) = 0 then (fX2_onPage v0 v1 S).bind fun u2 => some u2 else some (Int32.ofInt (-1000)))) else some (S.1 19 8))
set_option maxRecDepth 4000 in
theorem tX11_book {ro : xRo} {T : yK} {S : yS} {d : Nat} {v0 : Int32} {v1 : Int32} {q : Int32} (hf : fX11_book v0 v1 S = some q) : yEv ro xNo (yKx T) (d + 2) jX11_book [.ref 16, .int v0, .int v1] S (some (.int q)) S := by
  refine ry_meth pX11_book rfl (fun z => ?_)
  unfold fX11_book at hf
  iterate 3 (refine ry_step rfl rfl ?_)
  refine ry_br hf (fun hc hf => ?_) (fun hc hf => ?_)
  · iterate 8 (refine ry_step rfl rfl ?_)
    refine ry_call rfl rfl rfl rfl rfl tX11_within ?_
    refine ry_step rfl rfl ?_
    refine ry_br hf (fun hc hf => ?_) (fun hc hf => ?_)
    · refine ry_step rfl rfl ?_
      cases hf
      exact ry_ret rfl rfl
    · iterate 3 (refine ry_step rfl rfl ?_)
      refine ry_call rfl rfl rfl rfl rfl tX11_within ?_
      refine ry_step rfl rfl ?_
      refine ry_br hf (fun hc hf => ?_) (fun hc hf => ?_)
      · iterate 5 (refine ry_step rfl rfl ?_)
        obtain ⟨u2, hv1, hf⟩ := Option.bind_eq_some_iff.mp hf
        refine ry_call rfl rfl rfl rfl rfl (tX2_onPage hv1) ?_
        cases hf
        exact ry_ret rfl rfl
      · refine ry_step rfl rfl ?_
        cases hf
        exact ry_ret rfl rfl
  · iterate 4 (refine ry_step rfl rfl ?_)
    cases hf
    exact ry_ret rfl rfl
def fX11_morning (v0 : Int32) (v1 : Int32) (S : yS) : Option (Int32 × yS) := (if ¬ v0 = (Int32.ofInt (-1)) then (if (fX11_within v0 (Int32.ofInt 0) (Int32.ofInt 99)) = 0 then some ((Int32.ofInt (-2)), S) else (if (S.1 119 2) < (Int32.ofInt 12) then (fX3_add v0 v1 S).bind fun (u3, S2) => some (u3, S2) else some ((Int32.ofInt (-2)), S))) else pSt (ySi S 119 2 (Int32.ofInt 0)) fun S4 => some ((Int32.ofInt 0), S4))
set_option maxRecDepth 4000 in
theorem tX11_morning {ro : xRo} {T : yK} {S : yS} {d : Nat} {v0 : Int32} {v1 : Int32} {q : Int32} {S' : yS} (hf : fX11_morning v0 v1 S = some (q, S')) : yEv ro xNo (yKx T) (d + 2) jX11_morning [.ref 16, .int v0, .int v1] S (some (.int q)) S' := by
  refine ry_meth pX11_morning rfl (fun z => ?_)
  unfold fX11_morning at hf
  iterate 3 (refine ry_step rfl rfl ?_)
  refine ry_br hf (fun hc hf => ?_) (fun hc hf => ?_)
  · iterate 3 (refine ry_step rfl rfl ?_)
    refine ry_call rfl rfl rfl rfl rfl tX11_within ?_
    refine ry_step rfl rfl ?_
    refine ry_br hf (fun hc hf => ?_) (fun hc hf => ?_)
    · refine ry_step rfl rfl ?_
      cases hf
      exact ry_ret rfl rfl
    · iterate 6 (refine ry_step rfl rfl ?_)
      refine ry_br hf (fun hc hf => ?_) (fun hc hf => ?_)
      · iterate 5 (refine ry_step rfl rfl ?_)
        obtain ⟨⟨u3, S2⟩, hv1, hf⟩ := Option.bind_eq_some_iff.mp hf
        dsimp only at hf
        refine ry_call rfl rfl rfl rfl rfl (tX3_add hv1) ?_
        cases hf
        exact ry_ret rfl rfl
      · refine ry_step rfl rfl ?_
        cases hf
        exact ry_ret rfl rfl
  · iterate 4 (refine ry_step rfl rfl ?_)
    refine ry_stepS hf rfl rfl (fun S4 hf => ?_)
    refine ry_step rfl rfl ?_
    cases hf
    exact ry_ret rfl rfl
def fX11_habits (N : Nat) (S : yS) : Option Int32 := (fX3_countFitting N  S).bind fun u2 => some u2
set_option maxRecDepth 4000 in
theorem tX11_habits {ro : xRo} {T : yK} {S : yS} {d N : Nat} {q : Int32} (hf : fX11_habits N  S = some q) : yEv ro xNo (yKx T) (d + 3) jX11_habits [.ref 16] S (some (.int q)) S := by
  refine ry_meth pX11_habits rfl (fun z => ?_)
  unfold fX11_habits at hf
  iterate 3 (refine ry_step rfl rfl ?_)
  obtain ⟨u2, hv1, hf⟩ := Option.bind_eq_some_iff.mp hf
  refine ry_call rfl rfl rfl rfl rfl (tX3_countFitting hv1) ?_
  cases hf
  exact ry_ret rfl rfl
def lX11_whom (N : Nat) : Nat → Int32 → Int32 → yS → Option Int32
  | 0, _, _, _ => none
  | n + 1, l1, l2, S => (if (S.1 18 5) ≤ l2 then some l1 else (ain 8 l2).bind fun j1 => (ain 8 l2).bind fun j2 => (fX3_fits N (S.2.2.1 114 j1) (S.2.2.1 115 j2) S).bind fun u4 => (if u4 = 0 then lX11_whom N n l1 (l2 + (Int32.ofInt 1)) S else pSt (l1 ||| ((Int32.ofInt 1) <<< (l2 &&& 31))) fun w5 => lX11_whom N n w5 (l2 + (Int32.ofInt 1)) S))
set_option maxRecDepth 4000 in
theorem uX11_whom {ro : xRo} {T : yK} {d N : Nat} : ∀ n : Nat, (∀ (l1 : Int32) (l2 : Int32) (S : yS) {q : Int32}, lX11_whom N n l1 l2 S = some q → ∀ z, Ry ro xNo (yKx T) z (d + 1) mX11_whom 4 [(0, .ref 16), (1, .int l1), (2, .int l2)] [] S (some (.int q), yH (yKx T) z S)) := by
  intro n
  induction n with
  | zero => exact (by intro _ _ _ _ hf; cases hf)
  | succ n ih =>
    intro l1 l2 S q hf z
    unfold lX11_whom at hf
    iterate 5 (refine ry_step rfl rfl ?_)
    refine ry_br hf (fun hc hf => ?_) (fun hc hf => ?_)
    · refine ry_step rfl rfl ?_
      cases hf
      exact ry_ret rfl rfl
    · iterate 7 (refine ry_step rfl rfl ?_)
      refine ry_iald hf rfl rfl rfl (fun j1 hf => ?_)
      iterate 4 (refine ry_step rfl rfl ?_)
      refine ry_iald hf rfl rfl rfl (fun j2 hf => ?_)
      obtain ⟨u4, hv3, hf⟩ := Option.bind_eq_some_iff.mp hf
      refine ry_call rfl rfl rfl rfl rfl (tX3_fits hv3) ?_
      refine ry_step rfl rfl ?_
      refine ry_br hf (fun hc hf => ?_) (fun hc hf => ?_)
      · iterate 2 (refine ry_step rfl rfl ?_)
        refine ry_sub [1, 2, 0] rfl rfl ?_
        exact ih l1 (l2 + (Int32.ofInt 1)) S hf _
      · iterate 5 (refine ry_step rfl rfl ?_)
        refine ry_nmi hf (fun w5 hf => ?_)
        iterate 3 (refine ry_step rfl rfl ?_)
        refine ry_sub [2, 1, 0] rfl rfl ?_
        exact ih w5 (l2 + (Int32.ofInt 1)) S hf _
def fX11_whom (N : Nat) (S : yS) : Option Int32 := lX11_whom N N (Int32.ofInt 0) (Int32.ofInt 0) S
set_option maxRecDepth 4000 in
theorem tX11_whom {ro : xRo} {T : yK} {S : yS} {d N : Nat} {q : Int32} (hf : fX11_whom N  S = some q) : yEv ro xNo (yKx T) (d + 2) jX11_whom [.ref 16] S (some (.int q)) S := by
  refine ry_meth pX11_whom rfl (fun z => ?_)
  unfold fX11_whom at hf
  iterate 4 (refine ry_step rfl rfl ?_)
  refine ry_sub [2, 1, 0] rfl rfl ?_
  exact uX11_whom (ro := ro) _ (Int32.ofInt 0) (Int32.ofInt 0) S hf _
def fX11_follows (v0 : Int32) (v1 : Int32) (S : yS) : Option (Int32 × yS) := (if (fX11_isCount v0) = 0 then some ((Int32.ofInt 0), S) else (if ¬ (fX11_isCount v1) = 0 then (ain 9 v0).bind fun j2 => pSt (ySa S 123 (upd (S.2.2.1 123) j2 v1)) fun S1 => some ((Int32.ofInt 1), S1) else some ((Int32.ofInt 0), S)))
set_option maxRecDepth 4000 in
theorem tX11_follows {ro : xRo} {T : yK} {S : yS} {d : Nat} {v0 : Int32} {v1 : Int32} {q : Int32} {S' : yS} (hf : fX11_follows v0 v1 S = some (q, S')) : yEv ro xNo (yKx T) (d + 2) jX11_follows [.ref 16, .int v0, .int v1] S (some (.int q)) S' := by
  refine ry_meth pX11_follows rfl (fun z => ?_)
  unfold fX11_follows at hf
  refine ry_step rfl rfl ?_
  refine ry_call rfl rfl rfl rfl rfl tX11_isCount ?_
  refine ry_step rfl rfl ?_
  refine ry_br hf (fun hc hf => ?_) (fun hc hf => ?_)
  · refine ry_step rfl rfl ?_
    cases hf
    exact ry_ret rfl rfl
  · refine ry_step rfl rfl ?_
    refine ry_call rfl rfl rfl rfl rfl tX11_isCount ?_
    refine ry_step rfl rfl ?_
    refine ry_br hf (fun hc hf => ?_) (fun hc hf => ?_)
    · iterate 6 (refine ry_step rfl rfl ?_)
      refine ry_iast hf rfl rfl (fun j2 S1 hf => ?_)
      refine ry_step rfl rfl ?_
      cases hf
      exact ry_ret rfl rfl
    · refine ry_step rfl rfl ?_
      cases hf
      exact ry_ret rfl rfl
def fX11_agree (N : Nat) (S : yS) : Option Int32 := (fX6_selfFollowing N  S).bind fun u2 => some u2
set_option maxRecDepth 4000 in
theorem tX11_agree {ro : xRo} {T : yK} {S : yS} {d N : Nat} {q : Int32} (hf : fX11_agree N  S = some q) : yEv ro xNo (yKx T) (d + 2) jX11_agree [.ref 16] S (some (.int q)) S := by
  refine ry_meth pX11_agree rfl (fun z => ?_)
  unfold fX11_agree at hf
  iterate 3 (refine ry_step rfl rfl ?_)
  obtain ⟨u2, hv1, hf⟩ := Option.bind_eq_some_iff.mp hf
  refine ry_call rfl rfl rfl rfl rfl (tX6_selfFollowing hv1) ?_
  cases hf
  exact ry_ret rfl rfl
def fX11_ring (N : Nat) (v0 : Int32) (S : yS) : Option Int32 := (fX6_smallest N  S).bind fun u2 => (if v0 = 0 then some u2 else (fX6_sizeAt N u2 S).bind fun u4 => some u4)
set_option maxRecDepth 4000 in
theorem tX11_ring {ro : xRo} {T : yK} {S : yS} {d N : Nat} {v0 : Int32} {q : Int32} (hf : fX11_ring N v0 S = some q) : yEv ro xNo (yKx T) (d + 3) jX11_ring [.ref 16, .int v0] S (some (.int q)) S := by
  refine ry_meth pX11_ring rfl (fun z => ?_)
  unfold fX11_ring at hf
  iterate 3 (refine ry_step rfl rfl ?_)
  obtain ⟨u2, hv1, hf⟩ := Option.bind_eq_some_iff.mp hf
  refine ry_call rfl rfl rfl rfl rfl (tX6_smallest hv1) ?_
  iterate 3 (refine ry_step rfl rfl ?_)
  refine ry_br hf (fun hc hf => ?_) (fun hc hf => ?_)
  · refine ry_step rfl rfl ?_
    cases hf
    exact ry_ret rfl rfl
  · iterate 4 (refine ry_step rfl rfl ?_)
    obtain ⟨u4, hv3, hf⟩ := Option.bind_eq_some_iff.mp hf
    refine ry_call rfl rfl rfl rfl rfl (tX6_sizeAt hv3) ?_
    refine ry_step rfl rfl ?_
    cases hf
    exact ry_ret rfl rfl
def fX11_till (N : Nat) (v0 : Int32) (S : yS) : Option Int32 := (if (fX11_isCount v0) = 0 then some (Int32.ofInt (-1)) else (fX6_stepsToRing N v0 S).bind fun u2 => some u2)
set_option maxRecDepth 4000 in
theorem tX11_till {ro : xRo} {T : yK} {S : yS} {d N : Nat} {v0 : Int32} {q : Int32} (hf : fX11_till N v0 S = some q) : yEv ro xNo (yKx T) (d + 3) jX11_till [.ref 16, .int v0] S (some (.int q)) S := by
  refine ry_meth pX11_till rfl (fun z => ?_)
  unfold fX11_till at hf
  refine ry_step rfl rfl ?_
  refine ry_call rfl rfl rfl rfl rfl tX11_isCount ?_
  refine ry_step rfl rfl ?_
  refine ry_br hf (fun hc hf => ?_) (fun hc hf => ?_)
  · refine ry_step rfl rfl ?_
    cases hf
    exact ry_ret rfl rfl
  · iterate 4 (refine ry_step rfl rfl ?_)
    obtain ⟨u2, hv1, hf⟩ := Option.bind_eq_some_iff.mp hf
    refine ry_call rfl rfl rfl rfl rfl (tX6_stepsToRing hv1) ?_
    refine ry_step rfl rfl ?_
    cases hf
    exact ry_ret rfl rfl
def fX11_votes (v0 : Int32) (v1 : Int32) (S : yS) : Option (Int32 × yS) := (if (fX11_isParish v0) = 0 then some ((Int32.ofInt 0), S) else (if ¬ (fX11_within v1 (Int32.ofInt 0) (Int32.ofInt 999)) = 0 then (ain 5 v0).bind fun j2 => pSt (ySa S 125 (upd (S.2.2.1 125) j2 v1)) fun S1 => some ((Int32.ofInt 1), S1) else some ((Int32.ofInt 0), S)))
set_option maxRecDepth 4000 in
theorem tX11_votes {ro : xRo} {T : yK} {S : yS} {d : Nat} {v0 : Int32} {v1 : Int32} {q : Int32} {S' : yS} (hf : fX11_votes v0 v1 S = some (q, S')) : yEv ro xNo (yKx T) (d + 3) jX11_votes [.ref 16, .int v0, .int v1] S (some (.int q)) S' := by
  refine ry_meth pX11_votes rfl (fun z => ?_)
  unfold fX11_votes at hf
  refine ry_step rfl rfl ?_
  refine ry_call rfl rfl rfl rfl rfl tX11_isParish ?_
  refine ry_step rfl rfl ?_
  refine ry_br hf (fun hc hf => ?_) (fun hc hf => ?_)
  · refine ry_step rfl rfl ?_
    cases hf
    exact ry_ret rfl rfl
  · iterate 3 (refine ry_step rfl rfl ?_)
    refine ry_call rfl rfl rfl rfl rfl tX11_within ?_
    refine ry_step rfl rfl ?_
    refine ry_br hf (fun hc hf => ?_) (fun hc hf => ?_)
    · iterate 6 (refine ry_step rfl rfl ?_)
      refine ry_iast hf rfl rfl (fun j2 S1 hf => ?_)
      refine ry_step rfl rfl ?_
      cases hf
      exact ry_ret rfl rfl
    · refine ry_step rfl rfl ?_
      cases hf
      exact ry_ret rfl rfl
def fX11_ranks (v0 : Int32) (v1 : Int32) (S : yS) : Option (Int32 × yS) := (if (fX11_isParish v0) = 0 then some ((Int32.ofInt 0), S) else (if ¬ (fX11_within v1 (Int32.ofInt 0) (Int32.ofInt 23)) = 0 then (ain 5 v0).bind fun j2 => pSt (ySa S 126 (upd (S.2.2.1 126) j2 v1)) fun S1 => some ((Int32.ofInt 1), S1) else some ((Int32.ofInt 0), S)))
set_option maxRecDepth 4000 in
theorem tX11_ranks {ro : xRo} {T : yK} {S : yS} {d : Nat} {v0 : Int32} {v1 : Int32} {q : Int32} {S' : yS} (hf : fX11_ranks v0 v1 S = some (q, S')) : yEv ro xNo (yKx T) (d + 3) jX11_ranks [.ref 16, .int v0, .int v1] S (some (.int q)) S' := by
  refine ry_meth pX11_ranks rfl (fun z => ?_)
  unfold fX11_ranks at hf
  refine ry_step rfl rfl ?_
  refine ry_call rfl rfl rfl rfl rfl tX11_isParish ?_
  refine ry_step rfl rfl ?_
  refine ry_br hf (fun hc hf => ?_) (fun hc hf => ?_)
  · refine ry_step rfl rfl ?_
    cases hf
    exact ry_ret rfl rfl
  · iterate 3 (refine ry_step rfl rfl ?_)
    refine ry_call rfl rfl rfl rfl rfl tX11_within ?_
    refine ry_step rfl rfl ?_
    refine ry_br hf (fun hc hf => ?_) (fun hc hf => ?_)
    · iterate 6 (refine ry_step rfl rfl ?_)
      refine ry_iast hf rfl rfl (fun j2 S1 hf => ?_)
      refine ry_step rfl rfl ?_
      cases hf
      exact ry_ret rfl rfl
    · refine ry_step rfl rfl ?_
      cases hf
      exact ry_ret rfl rfl
def lX11_depth (N : Nat) : Nat → Int32 → Int32 → Int32 → yS → Option Int32
  | 0, _, _, _, _ => none
  | n + 1, l2, l3, l4, S => (if l2 ≤ l4 then some l3 else lX11_depth N n l2 (fX11_deeper l3) (l4 + (Int32.ofInt 1)) S)
set_option maxRecDepth 4000 in
theorem uX11_depth {ro : xRo} {T : yK} {d N : Nat} : ∀ n : Nat, (∀ (l2 : Int32) (l3 : Int32) (l4 : Int32) (S : yS) {q : Int32}, lX11_depth N n l2 l3 l4 S = some q → ∀ z, Ry ro xNo (yKx T) z (d + 1) mX11_depth 28 [(2, .int l2), (3, .int l3), (4, .int l4)] [] S (some (.int q), yH (yKx T) z S)) := by
  intro n
  induction n with
  | zero => exact (by intro _ _ _ _ _ hf; cases hf)
  | succ n ih =>
    intro l2 l3 l4 S q hf z
    unfold lX11_depth at hf
    iterate 3 (refine ry_step rfl rfl ?_)
    refine ry_br hf (fun hc hf => ?_) (fun hc hf => ?_)
    · refine ry_step rfl rfl ?_
      cases hf
      exact ry_ret rfl rfl
    · refine ry_step rfl rfl ?_
      refine ry_call rfl rfl rfl rfl rfl tX11_deeper ?_
      iterate 3 (refine ry_step rfl rfl ?_)
      refine ry_sub [2, 1, 0] rfl rfl ?_
      exact ih l2 (fX11_deeper l3) (l4 + (Int32.ofInt 1)) S hf _
def fX11_depth (N : Nat) (v0 : Int32) (v1 : Int32) (S : yS) : Option Int32 := (if (fX11_within v0 (Int32.ofInt 0) (Int32.ofInt 999)) = 0 then some (Int32.ofInt (-1)) else (if ¬ (fX11_within v1 (Int32.ofInt 0) (Int32.ofInt 99)) = 0 then lX11_depth N N v1 v0 (Int32.ofInt 0) S else some (Int32.ofInt (-1))))
set_option maxRecDepth 4000 in
theorem tX11_depth {ro : xRo} {T : yK} {S : yS} {d N : Nat} {v0 : Int32} {v1 : Int32} {q : Int32} (hf : fX11_depth N v0 v1 S = some q) : yEv ro xNo (yKx T) (d + 2) jX11_depth [.ref 16, .int v0, .int v1] S (some (.int q)) S := by
  refine ry_meth pX11_depth rfl (fun z => ?_)
  unfold fX11_depth at hf
  iterate 3 (refine ry_step rfl rfl ?_)
  refine ry_call rfl rfl rfl rfl rfl tX11_within ?_
  refine ry_step rfl rfl ?_
  refine ry_br hf (fun hc hf => ?_) (fun hc hf => ?_)
  · refine ry_step rfl rfl ?_
    cases hf
    exact ry_ret rfl rfl
  · iterate 3 (refine ry_step rfl rfl ?_)
    refine ry_call rfl rfl rfl rfl rfl tX11_within ?_
    refine ry_step rfl rfl ?_
    refine ry_br hf (fun hc hf => ?_) (fun hc hf => ?_)
    · iterate 4 (refine ry_step rfl rfl ?_)
      refine ry_sub [4, 1, 0] rfl rfl ?_
      exact uX11_depth (ro := ro) _ v1 v0 (Int32.ofInt 0) S hf _
    · refine ry_step rfl rfl ?_
      cases hf
      exact ry_ret rfl rfl
