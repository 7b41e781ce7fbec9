/-! ===== methods as functions, and their walks, by program ===== -/
def lX12_comes (N : Nat) : Nat → Nat → Int32 → Int32 → Int32 → Int32 → Int32 → yS → Option (Int32 × yS)
  | 0, _, _, _, _, _, _, _ => none
  | n + 1, m, l1, l2, l3, l4, l5, S => if m = 0 then (if (Int32.ofInt 60) < l2 then some ((Int32.ofInt (-1)), S) else lX12_comes N n 1 l1 l2 (Int32.ofInt 0) (Int32.ofInt 0) (Int32.ofInt 0) S) else (if (S.2.2.1 266 0) ≤ l5 then (if (fX12_isIn l1 l3 l4) = 0 then lX12_comes N n 0 l1 (l2 + (Int32.ofInt 1)) 0 0 0 S else some (l2, S)) else (fX12_isDue l5 l2 S).bind fun u2 => (if ¬ u2 = 0 then (fX12_chanceOf N l5 S).bind fun (u5, S4) => (if ¬ u5 = (Int32.ofInt 10) then (fX12_chanceOf N l5 S4).bind fun (u8, S7) => (if u8 ≤ 0 then lX12_comes N n 1 l1 l2 (l3 + (Int32.ofInt 0)) (l4 + (Int32.ofInt 0)) (l5 + (Int32.ofInt 1)) S7 else lX12_comes N n 1 l1 l2 (l3 + (Int32.ofInt 0)) (l4 + (Int32.ofInt 1)) (l5 + (Int32.ofInt 1)) S7) else (fX12_chanceOf N l5 S4).bind fun (u11, S10) => (if u11 ≤ 0 then lX12_comes N n 1 l1 l2 (l3 + (Int32.ofInt 1)) (l4 + (Int32.ofInt 0)) (l5 + (Int32.ofInt 1)) S10 else lX12_comes N n 1 l1 l2 (l3 + (Int32.ofInt 1)) (l4 + (Int32.ofInt 1)) (l5 + (Int32.ofInt 1)) S10)) else lX12_comes N n 1 l1 l2 l3 l4 (l5 + (Int32.ofInt 1)) S))
set_option maxRecDepth 4000 in
theorem uX12_comes {ro : xRo} {T : yK} {d N : Nat} : ∀ n : Nat, (∀ (l1 : Int32) (l2 : Int32) (l3 : Int32) (l4 : Int32) (l5 : Int32) (S : yS) {q : Int32} {S' : yS}, lX12_comes N n 0 l1 l2 l3 l4 l5 S = some (q, S') → ∀ z, Ry ro xNo (yKx T) z (d + 5) mX12_comes 11 [(0, .ref 265), (1, .int l1), (2, .int l2)] [] S (some (.int q), yH (yKx T) z S')) ∧ (∀ (l1 : Int32) (l2 : Int32) (l3 : Int32) (l4 : Int32) (l5 : Int32) (S : yS) {q : Int32} {S' : yS}, lX12_comes N n 1 l1 l2 l3 l4 l5 S = some (q, S') → ∀ z, Ry ro xNo (yKx T) z (d + 5) mX12_comes 25 [(0, .ref 265), (1, .int l1), (2, .int l2), (3, .int l3), (4, .int l4), (5, .int l5)] [] S (some (.int q), yH (yKx T) z S')) := by
  intro n
  induction n with
  | zero => exact ⟨(by intro _ _ _ _ _ _ _ _ hf; cases hf), (by intro _ _ _ _ _ _ _ _ hf; cases hf)⟩
  | succ n ih =>
    refine ⟨?_, ?_⟩
    · intro l1 l2 l3 l4 l5 S q S' hf z
      unfold lX12_comes at hf
      rw [if_pos rfl] at hf
      iterate 3 (refine ry_step rfl rfl ?_)
      refine ry_br hf (fun hc hf => ?_) (fun hc hf => ?_)
      · refine ry_step rfl rfl ?_
        cases hf
        exact ry_ret rfl rfl
      · iterate 6 (refine ry_step rfl rfl ?_)
        refine ry_sub [3, 4, 5, 2, 1, 0] rfl rfl ?_
        exact ih.2 l1 l2 (Int32.ofInt 0) (Int32.ofInt 0) (Int32.ofInt 0) S hf _
    · intro l1 l2 l3 l4 l5 S q S' hf z
      unfold lX12_comes at hf
      rw [if_neg (by decide)] at hf; skip
      iterate 6 (refine ry_step rfl rfl ?_)
      refine ry_br hf (fun hc hf => ?_) (fun hc hf => ?_)
      · iterate 3 (refine ry_step rfl rfl ?_)
        refine ry_call rfl rfl rfl rfl rfl tX12_isIn ?_
        refine ry_step rfl rfl ?_
        refine ry_br hf (fun hc hf => ?_) (fun hc hf => ?_)
        · iterate 2 (refine ry_step rfl rfl ?_)
          refine ry_sub [1, 2, 0] rfl rfl ?_
          exact ih.1 l1 (l2 + (Int32.ofInt 1)) 0 0 0 S hf _
        · refine ry_step rfl rfl ?_
          cases hf
          exact ry_ret rfl rfl
      · iterate 3 (refine ry_step rfl rfl ?_)
        obtain ⟨u2, hv1, hf⟩ := Option.bind_eq_some_iff.mp hf
        refine ry_call rfl rfl rfl rfl rfl (tX12_isDue hv1) ?_
        refine ry_step rfl rfl ?_
        refine ry_br hf (fun hc hf => ?_) (fun hc hf => ?_)
        · iterate 3 (refine ry_step rfl rfl ?_)
          obtain ⟨⟨u5, S4⟩, hv3, hf⟩ := Option.bind_eq_some_iff.mp hf
          dsimp only at hf
          refine ry_call rfl rfl rfl rfl rfl (tX12_chanceOf hv3) ?_
          iterate 2 (refine ry_step rfl rfl ?_)
          refine ry_br hf (fun hc hf => ?_) (fun hc hf => ?_)
          · iterate 6 (refine ry_step rfl rfl ?_)
            obtain ⟨⟨u8, S7⟩, hv6, hf⟩ := Option.bind_eq_some_iff.mp hf
            dsimp only at hf
            refine ry_call rfl rfl rfl rfl rfl (tX12_chanceOf hv6) ?_
            refine ry_step rfl rfl ?_
            refine ry_br hf (fun hc hf => ?_) (fun hc hf => ?_)
            · iterate 5 (refine ry_step rfl rfl ?_)
              refine ry_sub [3, 4, 5, 2, 1, 0] rfl rfl ?_
              exact ih.2 l1 l2 (l3 + (Int32.ofInt 0)) (l4 + (Int32.ofInt 0)) (l5 + (Int32.ofInt 1)) S7 hf _
            · iterate 6 (refine ry_step rfl rfl ?_)
              refine ry_sub [3, 4, 5, 2, 1, 0] rfl rfl ?_
              exact ih.2 l1 l2 (l3 + (Int32.ofInt 0)) (l4 + (Int32.ofInt 1)) (l5 + (Int32.ofInt 1)) S7 hf _
          · iterate 7 (refine ry_step rfl rfl ?_)
            obtain ⟨⟨u11, S10⟩, hv9, hf⟩ := Option.bind_eq_some_iff.mp hf
            dsimp only at hf
            refine ry_call rfl rfl rfl rfl rfl (tX12_chanceOf hv9) ?_
            refine ry_step rfl rfl ?_
            refine ry_br hf (fun hc hf => ?_) (fun hc hf => ?_)
            · iterate 5 (refine ry_step rfl rfl ?_)
              refine ry_sub [3, 4, 5, 2, 1, 0] rfl rfl ?_
              exact ih.2 l1 l2 (l3 + (Int32.ofInt 1)) (l4 + (Int32.ofInt 0)) (l5 + (Int32.ofInt 1)) S10 hf _
            · iterate 6 (refine ry_step rfl rfl ?_)
              refine ry_sub [3, 4, 5, 2, 1, 0] rfl rfl ?_
              exact ih.2 l1 l2 (l3 + (Int32.ofInt 1)) (l4 + (Int32.ofInt 1)) (l5 + (Int32.ofInt 1)) S10 hf _
        · iterate 3 (refine ry_step rfl rfl ?_)
          refine ry_sub [1, 2, 3, 4, 5, 0] rfl rfl ?_
          exact ih.2 l1 l2 l3 l4 (l5 + (Int32.ofInt 1)) S hf _
def fX12_comes (N : Nat) (v0 : Int32) (S : yS) : Option (Int32 × yS) := (if ¬ (fX12_isCount v0) = 0 then lX12_comes N N 0 v0 (Int32.ofInt 0) 0 0 0 S else some ((Int32.ofInt (-1)), S))
set_option maxRecDepth 4000 in
theorem tX12_comes {ro : xRo} {T : yK} {S : yS} {d N : Nat} {v0 : Int32} {q : Int32} {S' : yS} (hf : fX12_comes N v0 S = some (q, S')) : yEv ro xNo (yKx T) (d + 6) jX12_comes [.ref 265, .int v0] S (some (.int q)) S' := by
  refine ry_meth pX12_comes rfl (fun z => ?_)
  unfold fX12_comes at hf
  refine ry_step rfl rfl ?_
  refine ry_call rfl rfl rfl rfl rfl tX12_isCount ?_
  refine ry_step rfl rfl ?_
  refine ry_br hf (fun hc hf => ?_) (fun hc hf => ?_)
  · iterate 2 (refine ry_step rfl rfl ?_)
    refine ry_sub [1, 2, 0] rfl rfl ?_
    exact (uX12_comes (ro := ro) _).1 v0 (Int32.ofInt 0) 0 0 0 S hf _
  · refine ry_step rfl rfl ?_
    cases hf
    exact ry_ret rfl rfl
def fX12_follows (v0 : Int32) (v1 : Int32) (S : yS) : Option (Int32 × yS) := (if (fX12_isCount v0) = 0 then some ((Int32.ofInt 0), S) else (if ¬ (fX12_isCount v1) = 0 then (ain 1338 ((Int32.ofInt 78) + v0)).bind fun j2 => pSt (ySa S 266 (upd (S.2.2.1 266) j2 v1)) fun S1 => some ((Int32.ofInt 1), S1) else some ((Int32.ofInt 0), S)))
set_option maxRecDepth 4000 in
theorem tX12_follows {ro : xRo} {T : yK} {S : yS} {d : Nat} {v0 : Int32} {v1 : Int32} {q : Int32} {S' : yS} (hf : fX12_follows v0 v1 S = some (q, S')) : yEv ro xNo (yKx T) (d + 3) jX12_follows [.ref 265, .int v0, .int v1] S (some (.int q)) S' := by
  refine ry_meth pX12_follows rfl (fun z => ?_)
  unfold fX12_follows at hf
  refine ry_step rfl rfl ?_
  refine ry_call rfl rfl rfl rfl rfl tX12_isCount ?_
  refine ry_step rfl rfl ?_
  refine ry_br hf (fun hc hf => ?_) (fun hc hf => ?_)
  · refine ry_step rfl rfl ?_
    cases hf
    exact ry_ret rfl rfl
  · refine ry_step rfl rfl ?_
    refine ry_call rfl rfl rfl rfl rfl tX12_isCount ?_
    refine ry_step rfl rfl ?_
    refine ry_br hf (fun hc hf => ?_) (fun hc hf => ?_)
    · iterate 6 (refine ry_step rfl rfl ?_)
      refine ry_iast hf rfl rfl (fun j2 S1 hf => ?_)
      refine ry_step rfl rfl ?_
      cases hf
      exact ry_ret rfl rfl
    · refine ry_step rfl rfl ?_
      cases hf
      exact ry_ret rfl rfl
def lX12_afterOf (N : Nat) : Nat → Int32 → Int32 → Int32 → yS → Option Int32
  | 0, _, _, _, _ => none
  | n + 1, l2, l3, l4, S => (if l2 ≤ l4 then some l3 else (ain 1338 ((Int32.ofInt 78) + l3)).bind fun j1 => lX12_afterOf N n l2 (S.2.2.1 266 j1) (l4 + (Int32.ofInt 1)) S)
set_option maxRecDepth 4000 in
theorem uX12_afterOf {ro : xRo} {T : yK} {d N : Nat} : ∀ n : Nat, (∀ (l2 : Int32) (l3 : Int32) (l4 : Int32) (S : yS) {q : Int32}, lX12_afterOf N n l2 l3 l4 S = some q → ∀ z, Ry ro xNo (yKx T) z (d + 0) mX12_afterOf 5 [(0, .ref 265), (2, .int l2), (3, .int l3), (4, .int l4)] [] S (some (.int q), yH (yKx T) z S)) := by
  intro n
  induction n with
  | zero => exact (by intro _ _ _ _ _ hf; cases hf)
  | succ n ih =>
    intro l2 l3 l4 S q hf z
    unfold lX12_afterOf at hf
    iterate 3 (refine ry_step rfl rfl ?_)
    refine ry_br hf (fun hc hf => ?_) (fun hc hf => ?_)
    · refine ry_step rfl rfl ?_
      cases hf
      exact ry_ret rfl rfl
    · iterate 5 (refine ry_step rfl rfl ?_)
      refine ry_iald hf rfl rfl rfl (fun j1 hf => ?_)
      iterate 3 (refine ry_step rfl rfl ?_)
      refine ry_sub [2, 3, 1, 0] rfl rfl ?_
      exact ih l2 (S.2.2.1 266 j1) (l4 + (Int32.ofInt 1)) S hf _
def fX12_afterOf (N : Nat) (v0 : Int32) (v1 : Int32) (S : yS) : Option Int32 := lX12_afterOf N N v1 v0 (Int32.ofInt 0) S
set_option maxRecDepth 4000 in
theorem tX12_afterOf {ro : xRo} {T : yK} {S : yS} {d N : Nat} {v0 : Int32} {v1 : Int32} {q : Int32} (hf : fX12_afterOf N v0 v1 S = some q) : yEv ro xNo (yKx T) (d + 1) jX12_afterOf [.ref 265, .int v0, .int v1] S (some (.int q)) S := by
  refine ry_meth pX12_afterOf rfl (fun z => ?_)
  unfold fX12_afterOf at hf
  iterate 4 (refine ry_step rfl rfl ?_)
  refine ry_sub [2, 4, 1, 0] rfl rfl ?_
  exact uX12_afterOf (ro := ro) _ v1 v0 (Int32.ofInt 0) S hf _
def lX12_agree (N : Nat) : Nat → Int32 → Int32 → yS → Option Int32
  | 0, _, _, _ => none
  | n + 1, l1, l2, S => (if (Int32.ofInt 9) ≤ l2 then some l1 else (ain 1338 ((Int32.ofInt 78) + l2)).bind fun j1 => (if ¬ (S.2.2.1 266 j1) = l2 then lX12_agree N n (l1 ||| (Int32.ofInt 0)) (l2 + (Int32.ofInt 1)) S else pSt (l1 ||| ((Int32.ofInt 1) <<< (l2 &&& 31))) fun w2 => lX12_agree N n w2 (l2 + (Int32.ofInt 1)) S))
set_option maxRecDepth 4000 in
theorem uX12_agree {ro : xRo} {T : yK} {d N : Nat} : ∀ n : Nat, (∀ (l1 : Int32) (l2 : Int32) (S : yS) {q : Int32}, lX12_agree N n l1 l2 S = some q → ∀ z, Ry ro xNo (yKx T) z (d + 0) mX12_agree 4 [(0, .ref 265), (1, .int l1), (2, .int l2)] [] S (some (.int q), yH (yKx T) z S)) := by
  intro n
  induction n with
  | zero => exact (by intro _ _ _ _ hf; cases hf)
  | succ n ih =>
    intro l1 l2 S q hf z
    unfold lX12_agree at hf
    iterate 3 (refine ry_step rfl rfl ?_)
    refine ry_br hf (fun hc hf => ?_) (fun hc hf => ?_)
    · refine ry_step rfl rfl ?_
      cases hf
      exact ry_ret rfl rfl
    · iterate 6 (refine ry_step rfl rfl ?_)
      refine ry_iald hf rfl rfl rfl (fun j1 hf => ?_)
      iterate 2 (refine ry_step rfl rfl ?_)
      refine ry_br hf (fun hc hf => ?_) (fun hc hf => ?_)
      · iterate 5 (refine ry_step rfl rfl ?_)
        refine ry_sub [2, 1, 0] rfl rfl ?_
        exact ih (l1 ||| (Int32.ofInt 0)) (l2 + (Int32.ofInt 1)) S hf _
      · iterate 5 (refine ry_step rfl rfl ?_)
        refine ry_nmi hf (fun w2 hf => ?_)
        iterate 3 (refine ry_step rfl rfl ?_)
        refine ry_sub [2, 1, 0] rfl rfl ?_
        exact ih w2 (l2 + (Int32.ofInt 1)) S hf _
def fX12_agree (N : Nat) (S : yS) : Option Int32 := lX12_agree N N (Int32.ofInt 0) (Int32.ofInt 0) S
set_option maxRecDepth 4000 in
theorem tX12_agree {ro : xRo} {T : yK} {S : yS} {d N : Nat} {q : Int32} (hf : fX12_agree N  S = some q) : yEv ro xNo (yKx T) (d + 1) jX12_agree [.ref 265] S (some (.int q)) S := by
  refine ry_meth pX12_agree rfl (fun z => ?_)
  unfold fX12_agree at hf
  iterate 4 (refine ry_step rfl rfl ?_)
  refine ry_sub [2, 1, 0] rfl rfl ?_
  exact uX12_agree (ro := ro) _ (Int32.ofInt 0) (Int32.ofInt 0) S hf _
def lX12_ringOf (N : Nat) : Nat → Int32 → Int32 → yS → Option Int32
  | 0, _, _, _ => none
  | n + 1, l1, l2, S => (if (Int32.ofInt 9) < l2 then some (Int32.ofInt (-1)) else (fX12_afterOf N l1 l2 S).bind fun u2 => (if ¬ u2 = l1 then lX12_ringOf N n l1 (l2 + (Int32.ofInt 1)) S else some l2))
set_option maxRecDepth 4000 in
theorem uX12_ringOf {ro : xRo} {T : yK} {d N : Nat} : ∀ n : Nat, (∀ (l1 : Int32) (l2 : Int32) (S : yS) {q : Int32}, lX12_ringOf N n l1 l2 S = some q → ∀ z, Ry ro xNo (yKx T) z (d + 1) mX12_ringOf 2 [(0, .ref 265), (1, .int l1), (2, .int l2)] [] S (some (.int q), yH (yKx T) z S)) := by
  intro n
  induction n with
  | zero => exact (by intro _ _ _ _ hf; cases hf)
  | succ n ih =>
    intro l1 l2 S q hf z
    unfold lX12_ringOf at hf
    iterate 3 (refine ry_step rfl rfl ?_)
    refine ry_br hf (fun hc hf => ?_) (fun hc hf => ?_)
    · refine ry_step rfl rfl ?_
      cases hf
      exact ry_ret rfl rfl
    · iterate 3 (refine ry_step rfl rfl ?_)
      obtain ⟨u2, hv1, hf⟩ := Option.bind_eq_some_iff.mp hf
      refine ry_call rfl rfl rfl rfl rfl (tX12_afterOf hv1) ?_
      iterate 2 (refine ry_step rfl rfl ?_)
      refine ry_br hf (fun hc hf => ?_) (fun hc hf => ?_)
      · iterate 2 (refine ry_step rfl rfl ?_)
        refine ry_sub [1, 2, 0] rfl rfl ?_
        exact ih l1 (l2 + (Int32.ofInt 1)) S hf _
      · refine ry_step rfl rfl ?_
        cases hf
        exact ry_ret rfl rfl
def fX12_ringOf (N : Nat) (v0 : Int32) (S : yS) : Option Int32 := lX12_ringOf N N v0 (Int32.ofInt 1) S
set_option maxRecDepth 4000 in
theorem tX12_ringOf {ro : xRo} {T : yK} {S : yS} {d N : Nat} {v0 : Int32} {q : Int32} (hf : fX12_ringOf N v0 S = some q) : yEv ro xNo (yKx T) (d + 2) jX12_ringOf [.ref 265, .int v0] S (some (.int q)) S := by
  refine ry_meth pX12_ringOf rfl (fun z => ?_)
  unfold fX12_ringOf at hf
  iterate 2 (refine ry_step rfl rfl ?_)
  refine ry_sub [1, 2, 0] rfl rfl ?_
  exact uX12_ringOf (ro := ro) _ v0 (Int32.ofInt 1) S hf _
def lX12_ring (N : Nat) : Nat → Int32 → Int32 → Int32 → yS → Option Int32
  | 0, _, _, _, _ => none
  | n + 1, l1, l2, l3, S => (if (Int32.ofInt 9) ≤ l3 then (if l1 = 0 then some l2 else (fX12_ringOf N l2 S).bind fun u2 => some u2) else (fX12_ringOf N l3 S).bind fun u4 => (if u4 = (Int32.ofInt (-1)) then lX12_ring N n l1 l2 (l3 + (Int32.ofInt 1)) S else (if l2 = (Int32.ofInt (-1)) then lX12_ring N n l1 l3 (l3 + (Int32.ofInt 1)) S else (fX12_ringOf N l3 S).bind fun u6 => (fX12_ringOf N l2 S).bind fun u8 => (if u8 ≤ u6 then lX12_ring N n l1 l2 (l3 + (Int32.ofInt 1)) S else lX12_ring N n l1 l3 (l3 + (Int32.ofInt 1)) S))))
set_option maxRecDepth 4000 in
theorem uX12_ring {ro : xRo} {T : yK} {d N : Nat} : ∀ n : Nat, (∀ (l1 : Int32) (l2 : Int32) (l3 : Int32) (S : yS) {q : Int32}, lX12_ring N n l1 l2 l3 S = some q → ∀ z, Ry ro xNo (yKx T) z (d + 2) mX12_ring 4 [(0, .ref 265), (1, .int l1), (2, .int l2), (3, .int l3)] [] S (some (.int q), yH (yKx T) z S)) := by
  intro n
  induction n with
  | zero => exact (by intro _ _ _ _ _ hf; cases hf)
  | succ n ih =>
    intro l1 l2 l3 S q hf z
    unfold lX12_ring at hf
    iterate 3 (refine ry_step rfl rfl ?_)
    refine ry_br hf (fun hc hf => ?_) (fun hc hf => ?_)
    · iterate 2 (refine ry_step rfl rfl ?_)
      refine ry_br hf (fun hc hf => ?_) (fun hc hf => ?_)
      · refine ry_step rfl rfl ?_
        cases hf
        exact ry_ret rfl rfl
      · iterate 2 (refine ry_step rfl rfl ?_)
        obtain ⟨u2, hv1, hf⟩ := Option.bind_eq_some_iff.mp hf
        refine ry_call rfl rfl rfl rfl rfl (tX12_ringOf hv1) ?_
        refine ry_step rfl rfl ?_
        cases hf
        exact ry_ret rfl rfl
    · iterate 2 (refine ry_step rfl rfl ?_)
      obtain ⟨u4, hv3, hf⟩ := Option.bind_eq_some_iff.mp hf
      refine ry_call rfl rfl rfl rfl rfl (tX12_ringOf hv3) ?_
      iterate 2 (refine ry_step rfl rfl ?_)
      refine ry_br hf (fun hc hf => ?_) (fun hc hf => ?_)
      · iterate 2 (refine ry_step rfl rfl ?_)
        refine ry_sub [1, 2, 3, 0] rfl rfl ?_
        exact ih l1 l2 (l3 + (Int32.ofInt 1)) S hf _
      · iterate 3 (refine ry_step rfl rfl ?_)
        refine ry_br hf (fun hc hf => ?_) (fun hc hf => ?_)
        · iterate 4 (refine ry_step rfl rfl ?_)
          refine ry_sub [2, 3, 1, 0] rfl rfl ?_
          exact ih l1 l3 (l3 + (Int32.ofInt 1)) S hf _
        · iterate 2 (refine ry_step rfl rfl ?_)
          obtain ⟨u6, hv5, hf⟩ := Option.bind_eq_some_iff.mp hf
          refine ry_call rfl rfl rfl rfl rfl (tX12_ringOf hv5) ?_
          iterate 2 (refine ry_step rfl rfl ?_)
          obtain ⟨u8, hv7, hf⟩ := Option.bind_eq_some_iff.mp hf
          refine ry_call rfl rfl rfl rfl rfl (tX12_ringOf hv7) ?_
          refine ry_step rfl rfl ?_
          refine ry_br hf (fun hc hf => ?_) (fun hc hf => ?_)
          · iterate 2 (refine ry_step rfl rfl ?_)
            refine ry_sub [1, 2, 3, 0] rfl rfl ?_
            exact ih l1 l2 (l3 + (Int32.ofInt 1)) S hf _
          · iterate 4 (refine ry_step rfl rfl ?_)
            refine ry_sub [2, 3, 1, 0] rfl rfl ?_
            exact ih l1 l3 (l3 + (Int32.ofInt 1)) S hf _
def fX12_ring (N : Nat) (v0 : Int32) (S : yS) : Option Int32 := lX12_ring N N v0 (Int32.ofInt (-1)) (Int32.ofInt 0) S
set_option maxRecDepth 4000 in
theorem tX12_ring {ro : xRo} {T : yK} {S : yS} {d N : Nat} {v0 : Int32} {q : Int32} (hf : fX12_ring N v0 S = some q) : yEv ro xNo (yKx T) (d + 3) jX12_ring [.ref 265, .int v0] S (some (.int q)) S := by
  refine ry_meth pX12_ring rfl (fun z => ?_)
  unfold fX12_ring at hf
  iterate 4 (refine ry_step rfl rfl ?_)
  refine ry_sub [2, 3, 1, 0] rfl rfl ?_
  exact uX12_ring (ro := ro) _ v0 (Int32.ofInt (-1)) (Int32.ofInt 0) S hf _
def lX12_till (N : Nat) : Nat → Int32 → Int32 → yS → Option Int32
  | 0, _, _, _ => none
  | n + 1, l1, l2, S => (fX12_afterOf N l1 l2 S).bind fun u2 => (fX12_ringOf N u2 S).bind fun u4 => (if ¬ u4 = (Int32.ofInt (-1)) then some l2 else lX12_till N n l1 (l2 + (Int32.ofInt 1)) S)
set_option maxRecDepth 4000 in
theorem uX12_till {ro : xRo} {T : yK} {d N : Nat} : ∀ n : Nat, (∀ (l1 : Int32) (l2 : Int32) (S : yS) {q : Int32}, lX12_till N n l1 l2 S = some q → ∀ z, Ry ro xNo (yKx T) z (d + 2) mX12_till 11 [(0, .ref 265), (1, .int l1), (2, .int l2)] [] S (some (.int q), yH (yKx T) z S)) := by
  intro n
  induction n with
  | zero => exact (by intro _ _ _ _ hf; cases hf)
  | succ n ih =>
    intro l1 l2 S q hf z
    unfold lX12_till at hf
    iterate 4 (refine ry_step rfl rfl ?_)
    obtain ⟨u2, hv1, hf⟩ := Option.bind_eq_some_iff.mp hf
    refine ry_call rfl rfl rfl rfl rfl (tX12_afterOf hv1) ?_
    obtain ⟨u4, hv3, hf⟩ := Option.bind_eq_some_iff.mp hf
    refine ry_call rfl rfl rfl rfl rfl (tX12_ringOf hv3) ?_
    iterate 2 (refine ry_step rfl rfl ?_)
    refine ry_br hf (fun hc hf => ?_) (fun hc hf => ?_)
    · refine ry_step rfl rfl ?_
      cases hf
      exact ry_ret rfl rfl
    · iterate 2 (refine ry_step rfl rfl ?_)
      refine ry_sub [1, 2, 0] rfl rfl ?_
      exact ih l1 (l2 + (Int32.ofInt 1)) S hf _
def fX12_till (N : Nat) (v0 : Int32) (S : yS) : Option Int32 := (if ¬ (fX12_isCount v0) = 0 then lX12_till N N v0 (Int32.ofInt 0) S else some (Int32.ofInt (-1)))
set_option maxRecDepth 4000 in
theorem tX12_till {ro : xRo} {T : yK} {S : yS} {d N : Nat} {v0 : Int32} {q : Int32} (hf : fX12_till N v0 S = some q) : yEv ro xNo (yKx T) (d + 3) jX12_till [.ref 265, .int v0] S (some (.int q)) S := by
  refine ry_meth pX12_till rfl (fun z => ?_)
  unfold fX12_till at hf
  refine ry_step rfl rfl ?_
  refine ry_call rfl rfl rfl rfl rfl tX12_isCount ?_
  refine ry_step rfl rfl ?_
  refine ry_br hf (fun hc hf => ?_) (fun hc hf => ?_)
  · iterate 2 (refine ry_step rfl rfl ?_)
    refine ry_sub [1, 2, 0] rfl rfl ?_
    exact uX12_till (ro := ro) _ v0 (Int32.ofInt 0) S hf _
  · refine ry_step rfl rfl ?_
    cases hf
    exact ry_ret rfl rfl
def fX12_after (N : Nat) (v0 : Int32) (v1 : Int32) (S : yS) : Option Int32 := (if (fX12_isCount v0) = 0 then some (Int32.ofInt (-1)) else (if (fX12_isIn v1 (Int32.ofInt 0) (Int32.ofInt 1000000)) = 0 then some (Int32.ofInt (-1)) else (fX12_afterOf N v0 v1 S).bind fun u2 => some u2))
set_option maxRecDepth 4000 in
theorem tX12_after {ro : xRo} {T : yK} {S : yS} {d N : Nat} {v0 : Int32} {v1 : Int32} {q : Int32} (hf : fX12_after N v0 v1 S = some q) : yEv ro xNo (yKx T) (d + 3) jX12_after [.ref 265, .int v0, .int v1] S (some (.int q)) S := by
  refine ry_meth pX12_after rfl (fun z => ?_)
  unfold fX12_after at hf
  refine ry_step rfl rfl ?_
  refine ry_call rfl rfl rfl rfl rfl tX12_isCount ?_
  refine ry_step rfl rfl ?_
  refine ry_br hf (fun hc hf => ?_) (fun hc hf => ?_)
  · refine ry_step rfl rfl ?_
    cases hf
    exact ry_ret rfl rfl
  · iterate 3 (refine ry_step rfl rfl ?_)
    refine ry_call rfl rfl rfl rfl rfl tX12_isIn ?_
    refine ry_step rfl rfl ?_
    refine ry_br hf (fun hc hf => ?_) (fun hc hf => ?_)
    · refine ry_step rfl rfl ?_
      cases hf
      exact ry_ret rfl rfl
    · iterate 3 (refine ry_step rfl rfl ?_)
      obtain ⟨u2, hv1, hf⟩ := Option.bind_eq_some_iff.mp hf
      refine ry_call rfl rfl rfl rfl rfl (tX12_afterOf hv1) ?_
      refine ry_step rfl rfl ?_
      cases hf
      exact ry_ret rfl rfl
def lX12_layTest (N : Nat) : Nat → Int32 → Int32 → Int64 → Int32 → yS → Option (Int64 × yS)
  | 0, _, _, _, _, _ => none
  | n + 1, l1, l2, l3, l5, S => (if l1 ≤ l5 then some (l3, S) else (fX12_oneMore N l2 S).bind fun S4 => lX12_layTest N n l1 l2 (l3 * (Int64.ofInt 10)) (l5 + (Int32.ofInt 1)) S4)
set_option maxRecDepth 4000 in
theorem uX12_layTest {ro : xRo} {T : yK} {d N : Nat} : ∀ n : Nat, (∀ (l1 : Int32) (l2 : Int32) (l3 : Int64) (l5 : Int32) (S : yS) {q : Int64} {S' : yS}, lX12_layTest N n l1 l2 l3 l5 S = some (q, S') → ∀ z, Ry ro xNo (yKx T) z (d + 1) mX12_layTest 9 [(0, .ref 265), (1, .int l1), (2, .int l2), (3, .long l3), (5, .int l5)] [] S (some (.long q), yH (yKx T) z S')) := by
  intro n
  induction n with
  | zero => exact (by intro _ _ _ _ _ _ _ hf; cases hf)
  | succ n ih =>
    intro l1 l2 l3 l5 S q S' hf z
    unfold lX12_layTest at hf
    iterate 3 (refine ry_step rfl rfl ?_)
    refine ry_br hf (fun hc hf => ?_) (fun hc hf => ?_)
    · refine ry_step rfl rfl ?_
      cases hf
      exact ry_ret rfl rfl
    · iterate 2 (refine ry_step rfl rfl ?_)
      obtain ⟨S4, hv3, hf⟩ := Option.bind_eq_some_iff.mp hf
      refine ry_call rfl rfl rfl rfl rfl (tX12_oneMore hv3) ?_
      iterate 6 (refine ry_step rfl rfl ?_)
      refine ry_sub [2, 3, 4, 1, 0] rfl rfl ?_
      exact ih l1 l2 (l3 * (Int64.ofInt 10)) (l5 + (Int32.ofInt 1)) S4 hf _
def fX12_layTest (N : Nat) (v0 : Int32) (v1 : Int32) (S : yS) : Option (Int64 × yS) := (fX12_noRows N  S).bind fun S2 => lX12_layTest N N v0 v1 (Int64.ofNat 1) (Int32.ofInt 0) S2
set_option maxRecDepth 4000 in
theorem tX12_layTest {ro : xRo} {T : yK} {S : yS} {d N : Nat} {v0 : Int32} {v1 : Int32} {q : Int64} {S' : yS} (hf : fX12_layTest N v0 v1 S = some (q, S')) : yEv ro xNo (yKx T) (d + 2) jX12_layTest [.ref 265, .int v0, .int v1] S (some (.long q)) S' := by
  refine ry_meth pX12_layTest rfl (fun z => ?_)
  unfold fX12_layTest at hf
  refine ry_step rfl rfl ?_
  obtain ⟨S2, hv1, hf⟩ := Option.bind_eq_some_iff.mp hf
  refine ry_call rfl rfl rfl rfl rfl (tX12_noRows hv1) ?_
  iterate 4 (refine ry_step rfl rfl ?_)
  refine ry_sub [2, 3, 4, 1, 0] rfl rfl ?_
  exact uX12_layTest (ro := ro) _ v0 v1 (Int64.ofNat 1) (Int32.ofInt 0) S2 hf _
def lX12_rowsFrom (N : Nat) : Nat → Int64 → Int32 → yS → Option Int64
  | 0, _, _, _ => none
  | n + 1, l2, l4, S => (if (Int32.ofInt 13) ≤ l4 then some l2 else (ain 13 l4).bind fun j1 => lX12_rowsFrom N n (l2 + (S.2.2.2.1 275 j1)) (l4 + (Int32.ofInt 1)) S)
set_option maxRecDepth 4000 in
theorem uX12_rowsFrom {ro : xRo} {T : yK} {d N : Nat} : ∀ n : Nat, (∀ (l2 : Int64) (l4 : Int32) (S : yS) {q : Int64}, lX12_rowsFrom N n l2 l4 S = some q → ∀ z, Ry ro xNo (yKx T) z (d + 0) mX12_rowsFrom 5 [(0, .ref 265), (2, .long l2), (4, .int l4)] [] S (some (.long q), yH (yKx T) z S)) := by
  intro n
  induction n with
  | zero => exact (by intro _ _ _ _ hf; cases hf)
  | succ n ih =>
    intro l2 l4 S q hf z
    unfold lX12_rowsFrom at hf
    iterate 3 (refine ry_step rfl rfl ?_)
    refine ry_br hf (fun hc hf => ?_) (fun hc hf => ?_)
    · refine ry_step rfl rfl ?_
      cases hf
      exact ry_ret rfl rfl
    · iterate 4 (refine ry_step rfl rfl ?_)
      refine ry_lald hf rfl rfl (fun j1 hf => ?_)
      iterate 4 (refine ry_step rfl rfl ?_)
      refine ry_sub [2, 1, 0] rfl rfl ?_
      exact ih (l2 + (S.2.2.2.1 275 j1)) (l4 + (Int32.ofInt 1)) S hf _
def fX12_rowsFrom (N : Nat) (v0 : Int32) (S : yS) : Option Int64 := lX12_rowsFrom N N (Int64.ofNat 0) v0 S
set_option maxRecDepth 4000 in
theorem tX12_rowsFrom {ro : xRo} {T : yK} {S : yS} {d N : Nat} {v0 : Int32} {q : Int64} (hf : fX12_rowsFrom N v0 S = some q) : yEv ro xNo (yKx T) (d + 1) jX12_rowsFrom [.ref 265, .int v0] S (some (.long q)) S := by
  refine ry_meth pX12_rowsFrom rfl (fun z => ?_)
  unfold fX12_rowsFrom at hf
  iterate 4 (refine ry_step rfl rfl ?_)
  refine ry_sub [2, 1, 0] rfl rfl ?_
  exact uX12_rowsFrom (ro := ro) _ (Int64.ofNat 0) v0 S hf _
def fX12_test (N : Nat) (v0 : Int32) (v1 : Int32) (v2 : Int32) (v3 : Int32) (S : yS) : Option (Int64 × yS) := (if (fX12_isIn v0 (Int32.ofInt 0) (Int32.ofInt 12)) = 0 then some ((Int64.ofInt (-1)), S) else (if (fX12_isIn v1 (Int32.ofInt 0) v0) = 0 then some ((Int64.ofInt (-1)), S) else (if ¬ (fX12_areOdds v2) = 0 then (fX12_layTest N v0 v2 S).bind fun (u3, S2) => (fX12_rowsFrom N v1 S2).bind fun u5 => (fX12_part N u5 u3 v3 S2).bind fun u7 => some (u7, S2) else some ((Int64.ofInt (-1)), S))))
set_option maxRecDepth 4000 in
theorem tX12_test {ro : xRo} {T : yK} {S : yS} {d N : Nat} {v0 : Int32} {v1 : Int32} {v2 : Int32} {v3 : Int32} {q : Int64} {S' : yS} (hf : fX12_test N v0 v1 v2 v3 S = some (q, S')) : yEv ro xNo (yKx T) (d + 3) jX12_test [.ref 265, .int v0, .int v1, .int v2, .int v3] S (some (.long q)) S' := by
  refine ry_meth pX12_test rfl (fun z => ?_)
  unfold fX12_test at hf
  iterate 3 (refine ry_step rfl rfl ?_)
  refine ry_call rfl rfl rfl rfl rfl tX12_isIn ?_
  refine ry_step rfl rfl ?_
  refine ry_br hf (fun hc hf => ?_) (fun hc hf => ?_)
  · refine ry_step rfl rfl ?_
    cases hf
    exact ry_ret rfl rfl
  · iterate 3 (refine ry_step rfl rfl ?_)
    refine ry_call rfl rfl rfl rfl rfl tX12_isIn ?_
    refine ry_step rfl rfl ?_
    refine ry_br hf (fun hc hf => ?_) (fun hc hf => ?_)
    · refine ry_step rfl rfl ?_
      cases hf
      exact ry_ret rfl rfl
    · refine ry_step rfl rfl ?_
      refine ry_call rfl rfl rfl rfl rfl tX12_areOdds ?_
      refine ry_step rfl rfl ?_
      refine ry_br hf (fun hc hf => ?_) (fun hc hf => ?_)
      · iterate 3 (refine ry_step rfl rfl ?_)
        obtain ⟨⟨u3, S2⟩, hv1, hf⟩ := Option.bind_eq_some_iff.mp hf
        dsimp only at hf
        refine ry_call rfl rfl rfl rfl rfl (tX12_layTest hv1) ?_
        iterate 3 (refine ry_step rfl rfl ?_)
        obtain ⟨u5, hv4, hf⟩ := Option.bind_eq_some_iff.mp hf
        refine ry_call rfl rfl rfl rfl rfl (tX12_rowsFrom hv4) ?_
        iterate 2 (refine ry_step rfl rfl ?_)
        obtain ⟨u7, hv6, hf⟩ := Option.bind_eq_some_iff.mp hf
        refine ry_call rfl rfl rfl rfl rfl (tX12_part hv6) ?_
        cases hf
        exact ry_ret rfl rfl
      · refine ry_step rfl rfl ?_
        cases hf
        exact ry_ret rfl rfl
def lX12_bound (N : Nat) : Nat → Int32 → Int64 → Int32 → yS → Option (Int32 × yS)
  | 0, _, _, _, _ => none
  | n + 1, l1, l3, l5, S => (if l1 < l5 then some ((Int32.ofInt (-1)), S) else (fX12_rowsFrom N l5 S).bind fun u5 => (if 0 < (lg_cmp (u5 * (Int64.ofInt 20)) l3) then lX12_bound N n l1 l3 (l5 + (Int32.ofInt 1)) S else some (l5, S)))
set_option maxRecDepth 4000 in
theorem uX12_bound {ro : xRo} {T : yK} {d N : Nat} : ∀ n : Nat, (∀ (l1 : Int32) (l3 : Int64) (l5 : Int32) (S : yS) {q : Int32} {S' : yS}, lX12_bound N n l1 l3 l5 S = some (q, S') → ∀ z, Ry ro xNo (yKx T) z (d + 2) mX12_bound 29 [(0, .ref 265), (1, .int l1), (3, .long l3), (5, .int l5)] [] S (some (.int q), yH (yKx T) z S')) := by
  intro n
  induction n with
  | zero => exact (by intro _ _ _ _ _ _ hf; cases hf)
  | succ n ih =>
    intro l1 l3 l5 S q S' hf z
    unfold lX12_bound at hf
    iterate 3 (refine ry_step rfl rfl ?_)
    refine ry_br hf (fun hc hf => ?_) (fun hc hf => ?_)
    · refine ry_step rfl rfl ?_
      cases hf
      exact ry_ret rfl rfl
    · iterate 2 (refine ry_step rfl rfl ?_)
      obtain ⟨u5, hv4, hf⟩ := Option.bind_eq_some_iff.mp hf
      refine ry_call rfl rfl rfl rfl rfl (tX12_rowsFrom hv4) ?_
      iterate 5 (refine ry_step rfl rfl ?_)
      refine ry_br hf (fun hc hf => ?_) (fun hc hf => ?_)
      · iterate 2 (refine ry_step rfl rfl ?_)
        refine ry_sub [1, 2, 3, 0] rfl rfl ?_
        exact ih l1 l3 (l5 + (Int32.ofInt 1)) S hf _
      · refine ry_step rfl rfl ?_
        cases hf
        exact ry_ret rfl rfl
def fX12_bound (N : Nat) (v0 : Int32) (v1 : Int32) (S : yS) : Option (Int32 × yS) := (if (fX12_isIn v0 (Int32.ofInt 1) (Int32.ofInt 12)) = 0 then some ((Int32.ofInt (-1)), S) else (if ¬ (fX12_areOdds v1) = 0 then (fX12_layTest N v0 v1 S).bind fun (u3, S2) => lX12_bound N N v0 u3 (Int32.ofInt 0) S2 else some ((Int32.ofInt (-1)), S)))
set_option maxRecDepth 4000 in
theorem tX12_bound {ro : xRo} {T : yK} {S : yS} {d N : Nat} {v0 : Int32} {v1 : Int32} {q : Int32} {S' : yS} (hf : fX12_bound N v0 v1 S = some (q, S')) : yEv ro xNo (yKx T) (d + 3) jX12_bound [.ref 265, .int v0, .int v1] S (some (.int q)) S' := by
  refine ry_meth pX12_bound rfl (fun z => ?_)
  unfold fX12_bound at hf
  iterate 3 (refine ry_step rfl rfl ?_)
  refine ry_call rfl rfl rfl rfl rfl tX12_isIn ?_
  refine ry_step rfl rfl ?_
  refine ry_br hf (fun hc hf => ?_) (fun hc hf => ?_)
  · refine ry_step rfl rfl ?_
    cases hf
    exact ry_ret rfl rfl
  · refine ry_step rfl rfl ?_
    refine ry_call rfl rfl rfl rfl rfl tX12_areOdds ?_
    refine ry_step rfl rfl ?_
    refine ry_br hf (fun hc hf => ?_) (fun hc hf => ?_)
    · iterate 3 (refine ry_step rfl rfl ?_)
      obtain ⟨⟨u3, S2⟩, hv1, hf⟩ := Option.bind_eq_some_iff.mp hf
      dsimp only at hf
      refine ry_call rfl rfl rfl rfl rfl (tX12_layTest hv1) ?_
      iterate 3 (refine ry_step rfl rfl ?_)
      refine ry_sub [2, 3, 1, 0] rfl rfl ?_
      exact uX12_bound (ro := ro) _ v0 u3 (Int32.ofInt 0) S2 hf _
    · refine ry_step rfl rfl ?_
      cases hf
      exact ry_ret rfl rfl
def fX12_sure (N : Nat) (v0 : Int32) (v1 : Int32) (v2 : Int32) (v3 : Int32) (S : yS) : Option (Int64 × yS) := (fX12_bound N v0 v1 S).bind fun (u3, S2) => (if u3 = (Int32.ofInt (-1)) then some ((Int64.ofInt (-1)), S2) else (if ¬ (fX12_areOdds v2) = 0 then (fX12_test N v0 u3 v2 v3 S2).bind fun (u6, S5) => some (u6, S5) else some ((Int64.ofInt (-1)), S2)))
set_option maxRecDepth 4000 in
theorem tX12_sure {ro : xRo} {T : yK} {S : yS} {d N : Nat} {v0 : Int32} {v1 : Int32} {v2 : Int32} {v3 : Int32} {q : Int64} {S' : yS} (hf : fX12_sure N v0 v1 v2 v3 S = some (q, S')) : yEv ro xNo (yKx T) (d + 4) jX12_sure [.ref 265, .int v0, .int v1, .int v2, .int v3] S (some (.long q)) S' := by
  refine ry_meth pX12_sure rfl (fun z => ?_)
  unfold fX12_sure at hf
  iterate 3 (refine ry_step rfl rfl ?_)
  obtain ⟨⟨u3, S2⟩, hv1, hf⟩ := Option.bind_eq_some_iff.mp hf
  dsimp only at hf
  refine ry_call rfl rfl rfl rfl rfl (tX12_bound hv1) ?_
  iterate 4 (refine ry_step rfl rfl ?_)
  refine ry_br hf (fun hc hf => ?_) (fun hc hf => ?_)
  · iterate 2 (refine ry_step rfl rfl ?_)
    cases hf
    exact ry_ret rfl rfl
  · refine ry_step rfl rfl ?_
    refine ry_call rfl rfl rfl rfl rfl tX12_areOdds ?_
    refine ry_step rfl rfl ?_
    refine ry_br hf (fun hc hf => ?_) (fun hc hf => ?_)
    · iterate 5 (refine ry_step rfl rfl ?_)
      obtain ⟨⟨u6, S5⟩, hv4, hf⟩ := Option.bind_eq_some_iff.mp hf
      dsimp only at hf
      refine ry_call rfl rfl rfl rfl rfl (tX12_test hv4) ?_
      cases hf
      exact ry_ret rfl rfl
    · iterate 2 (refine ry_step rfl rfl ?_)
      cases hf
      exact ry_ret rfl rfl
def fX12_votes (v0 : Int32) (v1 : Int32) (S : yS) : Option (Int32 × yS) := (if (fX12_isIn v0 (Int32.ofInt 0) (Int32.ofInt 4)) = 0 then some ((Int32.ofInt 0), S) else (if ¬ (fX12_isIn v1 (Int32.ofInt 0) (Int32.ofInt 999)) = 0 then (ain 1338 ((Int32.ofInt 87) + v0)).bind fun j2 => pSt (ySa S 266 (upd (S.2.2.1 266) j2 v1)) fun S1 => some ((Int32.ofInt 1), S1) else some ((Int32.ofInt 0), S)))
set_option maxRecDepth 4000 in
theorem tX12_votes {ro : xRo} {T : yK} {S : yS} {d : Nat} {v0 : Int32} {v1 : Int32} {q : Int32} {S' : yS} (hf : fX12_votes v0 v1 S = some (q, S')) : yEv ro xNo (yKx T) (d + 2) jX12_votes [.ref 265, .int v0, .int v1] S (some (.int q)) S' := by
  refine ry_meth pX12_votes rfl (fun z => ?_)
  unfold fX12_votes at hf
  iterate 3 (refine ry_step rfl rfl ?_)
  refine ry_call rfl rfl rfl rfl rfl tX12_isIn ?_
  refine ry_step rfl rfl ?_
  refine ry_br hf (fun hc hf => ?_) (fun hc hf => ?_)
  · refine ry_step rfl rfl ?_
    cases hf
    exact ry_ret rfl rfl
  · iterate 3 (refine ry_step rfl rfl ?_)
    refine ry_call rfl rfl rfl rfl rfl tX12_isIn ?_
    refine ry_step rfl rfl ?_
    refine ry_br hf (fun hc hf => ?_) (fun hc hf => ?_)
    · iterate 6 (refine ry_step rfl rfl ?_)
      refine ry_iast hf rfl rfl (fun j2 S1 hf => ?_)
      refine ry_step rfl rfl ?_
      cases hf
      exact ry_ret rfl rfl
    · refine ry_step rfl rfl ?_
      cases hf
      exact ry_ret rfl rfl
def lX12_allVotes (N : Nat) : Nat → Int32 → Int32 → yS → Option Int32
  | 0, _, _, _ => none
  | n + 1, l1, l2, S => (if (Int32.ofInt 5) ≤ l2 then some l1 else (ain 1338 ((Int32.ofInt 87) + l2)).bind fun j1 => lX12_allVotes N n (l1 + (S.2.2.1 266 j1)) (l2 + (Int32.ofInt 1)) S)
set_option maxRecDepth 4000 in
theorem uX12_allVotes {ro : xRo} {T : yK} {d N : Nat} : ∀ n : Nat, (∀ (l1 : Int32) (l2 : Int32) (S : yS) {q : Int32}, lX12_allVotes N n l1 l2 S = some q → ∀ z, Ry ro xNo (yKx T) z (d + 0) mX12_allVotes 4 [(0, .ref 265), (1, .int l1), (2, .int l2)] [] S (some (.int q), yH (yKx T) z S)) := by
  intro n
  induction n with
  | zero => exact (by intro _ _ _ _ hf; cases hf)
  | succ n ih =>
    intro l1 l2 S q hf z
    unfold lX12_allVotes at hf
    iterate 3 (refine ry_step rfl rfl ?_)
    refine ry_br hf (fun hc hf => ?_) (fun hc hf => ?_)
    · refine ry_step rfl rfl ?_
      cases hf
      exact ry_ret rfl rfl
    · iterate 6 (refine ry_step rfl rfl ?_)
      refine ry_iald hf rfl rfl rfl (fun j1 hf => ?_)
      iterate 4 (refine ry_step rfl rfl ?_)
      refine ry_sub [2, 1, 0] rfl rfl ?_
      exact ih (l1 + (S.2.2.1 266 j1)) (l2 + (Int32.ofInt 1)) S hf _
def fX12_allVotes (N : Nat) (S : yS) : Option Int32 := lX12_allVotes N N (Int32.ofInt 0) (Int32.ofInt 0) S
set_option maxRecDepth 4000 in
theorem tX12_allVotes {ro : xRo} {T : yK} {S : yS} {d N : Nat} {q : Int32} (hf : fX12_allVotes N  S = some q) : yEv ro xNo (yKx T) (d + 1) jX12_allVotes [.ref 265] S (some (.int q)) S := by
  refine ry_meth pX12_allVotes rfl (fun z => ?_)
  unfold fX12_allVotes at hf
  iterate 4 (refine ry_step rfl rfl ?_)
  refine ry_sub [2, 1, 0] rfl rfl ?_
  exact uX12_allVotes (ro := ro) _ (Int32.ofInt 0) (Int32.ofInt 0) S hf _
def fX12_isAhead (v0 : Int32) (v1 : Int32) (S : yS) : Option Int32 := (ain 1338 ((Int32.ofInt 87) + v0)).bind fun j1 => (ain 5 v1).bind fun j2 => (ain 1338 ((Int32.ofInt 87) + v1)).bind fun j3 => (ain 5 v0).bind fun j4 => (if ((S.2.2.1 266 j1) * ((S.2.2.1 276 j2) + (Int32.ofInt 1))) ≤ ((S.2.2.1 266 j3) * ((S.2.2.1 276 j4) + (Int32.ofInt 1))) then some (Int32.ofInt 0) else some (Int32.ofInt 1))
set_option maxRecDepth 4000 in
theorem tX12_isAhead {ro : xRo} {T : yK} {S : yS} {d : Nat} {v0 : Int32} {v1 : Int32} {q : Int32} (hf : fX12_isAhead v0 v1 S = some q) : yEv ro xNo (yKx T) (d + 1) jX12_isAhead [.ref 265, .int v0, .int v1] S (some (.int q)) S := by
  refine ry_meth pX12_isAhead rfl (fun z => ?_)
  unfold fX12_isAhead at hf
  iterate 5 (refine ry_step rfl rfl ?_)
  refine ry_iald hf rfl rfl rfl (fun j1 hf => ?_)
  iterate 3 (refine ry_step rfl rfl ?_)
  refine ry_iald hf rfl rfl rfl (fun j2 hf => ?_)
  iterate 8 (refine ry_step rfl rfl ?_)
  refine ry_iald hf rfl rfl rfl (fun j3 hf => ?_)
  iterate 3 (refine ry_step rfl rfl ?_)
  refine ry_iald hf rfl rfl rfl (fun j4 hf => ?_)
  iterate 4 (refine ry_step rfl rfl ?_)
  refine ry_br hf (fun hc hf => ?_) (fun hc hf => ?_)
  · refine ry_step rfl rfl ?_
    cases hf
    exact ry_ret rfl rfl
  · iterate 2 (refine ry_step rfl rfl ?_)
    cases hf
    exact ry_ret rfl rfl
def lX12_laySeats (N : Nat) : Nat → Nat → Int32 → Int32 → Int32 → Int32 → Int32 → Int32 → yS → Option yS
  | 0, _, _, _, _, _, _, _, _ => none
  | n + 1, m, l1, l2, l3, l4, l5, l6, S => if m = 0 then (if (Int32.ofInt 5) ≤ l4 then lX12_laySeats N n 1 l1 0 l3 (Int32.ofInt 0) 0 0 S else (ain 5 l4).bind fun j11 => pSt (ySa S 276 (upd (S.2.2.1 276) j11 (Int32.ofInt 0))) fun S3 => (ain 1338 ((Int32.ofInt 87) + l4)).bind fun j4 => (if l2 = 0 then none else (ain 5 l4).bind fun j10 => pSt (ySa S3 277 (upd (S3.2.2.1 277) j10 (((S3.2.2.1 266 j4) * l1) / l2))) fun S5 => (ain 1338 ((Int32.ofInt 87) + l4)).bind fun j6 => (if l2 = 0 then none else (ain 5 l4).bind fun j9 => pSt (ySa S5 278 (upd (S5.2.2.1 278) j9 (((S5.2.2.1 266 j6) * l1) - ((S5.2.2.1 266 j6) * l1) / l2 * l2))) fun S7 => (ain 5 l4).bind fun j8 => lX12_laySeats N n 0 l1 l2 (l3 + (S7.2.2.1 277 j8)) (l4 + (Int32.ofInt 1)) 0 0 S7))) else if m = 1 then (if l1 ≤ l4 then lX12_laySeats N n 3 l1 0 0 l3 0 0 S else lX12_laySeats N n 2 l1 0 l3 l4 (Int32.ofInt 0) (Int32.ofInt 1) S) else if m = 2 then (if (Int32.ofInt 5) ≤ l6 then (ain 5 l5).bind fun j12 => (ain 5 l5).bind fun j14 => pSt (ySa S 276 (upd (S.2.2.1 276) j14 ((S.2.2.1 276 j12) + (Int32.ofInt 1)))) fun S13 => lX12_laySeats N n 1 l1 0 l3 (l4 + (Int32.ofInt 1)) 0 0 S13 else (fX12_isAhead l6 l5 S).bind fun u16 => (if u16 = 0 then lX12_laySeats N n 2 l1 0 l3 l4 l5 (l6 + (Int32.ofInt 1)) S else lX12_laySeats N n 2 l1 0 l3 l4 l6 (l6 + (Int32.ofInt 1)) S)) else if m = 3 then (if l1 ≤ l4 then some S else lX12_laySeats N n 4 l1 0 0 l4 (Int32.ofInt 0) (Int32.ofInt 1) S) else (if (Int32.ofInt 5) ≤ l6 then (ain 5 l5).bind fun j17 => (ain 5 l5).bind fun j21 => pSt (ySa S 277 (upd (S.2.2.1 277) j21 ((S.2.2.1 277 j17) + (Int32.ofInt 1)))) fun S18 => (ain 5 l5).bind fun j20 => pSt (ySa S18 278 (upd (S18.2.2.1 278) j20 (Int32.ofInt (-1)))) fun S19 => lX12_laySeats N n 3 l1 0 0 (l4 + (Int32.ofInt 1)) 0 0 S19 else (ain 5 l6).bind fun j22 => (ain 5 l5).bind fun j23 => (if (S.2.2.1 278 j22) ≤ (S.2.2.1 278 j23) then lX12_laySeats N n 4 l1 0 0 l4 l5 (l6 + (Int32.ofInt 1)) S else lX12_laySeats N n 4 l1 0 0 l4 l6 (l6 + (Int32.ofInt 1)) S))
set_option maxRecDepth 4000 in
theorem uX12_laySeats {ro : xRo} {T : yK} {d N : Nat} : ∀ n : Nat, (∀ (l1 : Int32) (l2 : Int32) (l3 : Int32) (l4 : Int32) (l5 : Int32) (l6 : Int32) (S : yS) {S' : yS}, lX12_laySeats N n 0 l1 l2 l3 l4 l5 l6 S = some S' → ∀ z, Ry ro xNo (yKx T) z (d + 1) mX12_laySeats 10 [(0, .ref 265), (1, .int l1), (2, .int l2), (3, .int l3), (4, .int l4)] [] S (none, yH (yKx T) z S')) ∧ (∀ (l1 : Int32) (l2 : Int32) (l3 : Int32) (l4 : Int32) (l5 : Int32) (l6 : Int32) (S : yS) {S' : yS}, lX12_laySeats N n 1 l1 l2 l3 l4 l5 l6 S = some S' → ∀ z, Ry ro xNo (yKx T) z (d + 1) mX12_laySeats 85 [(0, .ref 265), (1, .int l1), (3, .int l3), (4, .int l4)] [] S (none, yH (yKx T) z S')) ∧ (∀ (l1 : Int32) (l2 : Int32) (l3 : Int32) (l4 : Int32) (l5 : Int32) (l6 : Int32) (S : yS) {S' : yS}, lX12_laySeats N n 2 l1 l2 l3 l4 l5 l6 S = some S' → ∀ z, Ry ro xNo (yKx T) z (d + 1) mX12_laySeats 97 [(0, .ref 265), (1, .int l1), (3, .int l3), (4, .int l4), (5, .int l5), (6, .int l6)] [] S (none, yH (yKx T) z S')) ∧ (∀ (l1 : Int32) (l2 : Int32) (l3 : Int32) (l4 : Int32) (l5 : Int32) (l6 : Int32) (S : yS) {S' : yS}, lX12_laySeats N n 3 l1 l2 l3 l4 l5 l6 S = some S' → ∀ z, Ry ro xNo (yKx T) z (d + 1) mX12_laySeats 144 [(0, .ref 265), (1, .int l1), (4, .int l4)] [] S (none, yH (yKx T) z S')) ∧ (∀ (l1 : Int32) (l2 : Int32) (l3 : Int32) (l4 : Int32) (l5 : Int32) (l6 : Int32) (S : yS) {S' : yS}, lX12_laySeats N n 4 l1 l2 l3 l4 l5 l6 S = some S' → ∀ z, Ry ro xNo (yKx T) z (d + 1) mX12_laySeats 156 [(0, .ref 265), (1, .int l1), (4, .int l4), (5, .int l5), (6, .int l6)] [] S (none, yH (yKx T) z S')) := by
  intro n
  induction n with
  | zero => exact ⟨(by intro _ _ _ _ _ _ _ _ hf; cases hf), (by intro _ _ _ _ _ _ _ _ hf; cases hf), (by intro _ _ _ _ _ _ _ _ hf; cases hf), (by intro _ _ _ _ _ _ _ _ hf; cases hf), (by intro _ _ _ _ _ _ _ _ hf; cases hf)⟩
  | succ n ih =>
    refine ⟨?_, ?_, ?_, ?_, ?_⟩
    · intro l1 l2 l3 l4 l5 l6 S S' hf z
      unfold lX12_laySeats at hf
      rw [if_pos rfl] at hf
      iterate 3 (refine ry_step rfl rfl ?_)
      refine ry_br hf (fun hc hf => ?_) (fun hc hf => ?_)
      · iterate 2 (refine ry_step rfl rfl ?_)
        refine ry_sub [1, 2, 4, 0] rfl rfl ?_
        exact ih.2.1 l1 0 l3 (Int32.ofInt 0) 0 0 S hf _
      · iterate 4 (refine ry_step rfl rfl ?_)
        refine ry_iast hf rfl rfl (fun j11 S3 hf => ?_)
        iterate 8 (refine ry_step rfl rfl ?_)
        refine ry_iald hf rfl rfl rfl (fun j4 hf => ?_)
        iterate 3 (refine ry_step rfl rfl ?_)
        refine ry_div hf rfl (fun hf => ?_)
        refine ry_iast hf rfl rfl (fun j10 S5 hf => ?_)
        iterate 8 (refine ry_step rfl rfl ?_)
        refine ry_iald hf rfl rfl rfl (fun j6 hf => ?_)
        iterate 3 (refine ry_step rfl rfl ?_)
        refine ry_rem hf rfl (fun hf => ?_)
        refine ry_iast hf rfl rfl (fun j9 S7 hf => ?_)
        iterate 4 (refine ry_step rfl rfl ?_)
        refine ry_iald hf rfl rfl rfl (fun j8 hf => ?_)
        iterate 4 (refine ry_step rfl rfl ?_)
        refine ry_sub [2, 3, 4, 1, 0] rfl rfl ?_
        exact ih.1 l1 l2 (l3 + (S7.2.2.1 277 j8)) (l4 + (Int32.ofInt 1)) 0 0 S7 hf _
    · intro l1 l2 l3 l4 l5 l6 S S' hf z
      unfold lX12_laySeats at hf
      rw [if_neg (by decide)] at hf; rw [if_pos rfl] at hf
      iterate 3 (refine ry_step rfl rfl ?_)
      refine ry_br hf (fun hc hf => ?_) (fun hc hf => ?_)
      · iterate 2 (refine ry_step rfl rfl ?_)
        refine ry_sub [1, 2, 0] rfl rfl ?_
        exact ih.2.2.2.1 l1 0 0 l3 0 0 S hf _
      · iterate 4 (refine ry_step rfl rfl ?_)
        refine ry_sub [2, 3, 4, 5, 1, 0] rfl rfl ?_
        exact ih.2.2.1 l1 0 l3 l4 (Int32.ofInt 0) (Int32.ofInt 1) S hf _
    · intro l1 l2 l3 l4 l5 l6 S S' hf z
      unfold lX12_laySeats at hf
      rw [if_neg (by decide)] at hf; rw [if_neg (by decide)] at hf; rw [if_pos rfl] at hf
      iterate 3 (refine ry_step rfl rfl ?_)
      refine ry_br hf (fun hc hf => ?_) (fun hc hf => ?_)
      · iterate 4 (refine ry_step rfl rfl ?_)
        refine ry_iald hf rfl rfl rfl (fun j12 hf => ?_)
        iterate 2 (refine ry_step rfl rfl ?_)
        refine ry_iast hf rfl rfl (fun j14 S13 hf => ?_)
        iterate 2 (refine ry_step rfl rfl ?_)
        refine ry_sub [1, 2, 3, 0] rfl rfl ?_
        exact ih.2.1 l1 0 l3 (l4 + (Int32.ofInt 1)) 0 0 S13 hf _
      · iterate 3 (refine ry_step rfl rfl ?_)
        obtain ⟨u16, hv15, hf⟩ := Option.bind_eq_some_iff.mp hf
        refine ry_call rfl rfl rfl rfl rfl (tX12_isAhead hv15) ?_
        refine ry_step rfl rfl ?_
        refine ry_br hf (fun hc hf => ?_) (fun hc hf => ?_)
        · iterate 2 (refine ry_step rfl rfl ?_)
          refine ry_sub [1, 2, 3, 4, 5, 0] rfl rfl ?_
          exact ih.2.2.1 l1 0 l3 l4 l5 (l6 + (Int32.ofInt 1)) S hf _
        · iterate 4 (refine ry_step rfl rfl ?_)
          refine ry_sub [2, 3, 4, 5, 1, 0] rfl rfl ?_
          exact ih.2.2.1 l1 0 l3 l4 l6 (l6 + (Int32.ofInt 1)) S hf _
    · intro l1 l2 l3 l4 l5 l6 S S' hf z
      unfold lX12_laySeats at hf
      rw [if_neg (by decide)] at hf; rw [if_neg (by decide)] at hf; rw [if_neg (by decide)] at hf; rw [if_pos rfl] at hf
      iterate 3 (refine ry_step rfl rfl ?_)
      refine ry_br hf (fun hc hf => ?_) (fun hc hf => ?_)
      · cases hf
        exact ry_ret rfl rfl
      · iterate 4 (refine ry_step rfl rfl ?_)
        refine ry_sub [2, 3, 4, 1, 0] rfl rfl ?_
        exact ih.2.2.2.2 l1 0 0 l4 (Int32.ofInt 0) (Int32.ofInt 1) S hf _
    · intro l1 l2 l3 l4 l5 l6 S S' hf z
      unfold lX12_laySeats at hf
      rw [if_neg (by decide)] at hf; rw [if_neg (by decide)] at hf; rw [if_neg (by decide)] at hf; rw [if_neg (by decide)] at hf; skip
      iterate 3 (refine ry_step rfl rfl ?_)
      refine ry_br hf (fun hc hf => ?_) (fun hc hf => ?_)
      · iterate 4 (refine ry_step rfl rfl ?_)
        refine ry_iald hf rfl rfl rfl (fun j17 hf => ?_)
        iterate 2 (refine ry_step rfl rfl ?_)
        refine ry_iast hf rfl rfl (fun j21 S18 hf => ?_)
        iterate 4 (refine ry_step rfl rfl ?_)
        refine ry_iast hf rfl rfl (fun j20 S19 hf => ?_)
        iterate 2 (refine ry_step rfl rfl ?_)
        refine ry_sub [1, 2, 0] rfl rfl ?_
        exact ih.2.2.2.1 l1 0 0 (l4 + (Int32.ofInt 1)) 0 0 S19 hf _
      · iterate 3 (refine ry_step rfl rfl ?_)
        refine ry_iald hf rfl rfl rfl (fun j22 hf => ?_)
        iterate 3 (refine ry_step rfl rfl ?_)
        refine ry_iald hf rfl rfl rfl (fun j23 hf => ?_)
        refine ry_step rfl rfl ?_
        refine ry_br hf (fun hc hf => ?_) (fun hc hf => ?_)
        · iterate 2 (refine ry_step rfl rfl ?_)
          refine ry_sub [1, 2, 3, 4, 0] rfl rfl ?_
          exact ih.2.2.2.2 l1 0 0 l4 l5 (l6 + (Int32.ofInt 1)) S hf _
        · iterate 4 (refine ry_step rfl rfl ?_)
          refine ry_sub [2, 3, 4, 1, 0] rfl rfl ?_
          exact ih.2.2.2.2 l1 0 0 l4 l6 (l6 + (Int32.ofInt 1)) S hf _
def fX12_laySeats (N : Nat) (v0 : Int32) (S : yS) : Option yS := (fX12_allVotes N  S).bind fun u2 => lX12_laySeats N N 0 v0 u2 (Int32.ofInt 0) (Int32.ofInt 0) 0 0 S
set_option maxRecDepth 4000 in
theorem tX12_laySeats {ro : xRo} {T : yK} {S : yS} {d N : Nat} {v0 : Int32} {S' : yS} (hf : fX12_laySeats N v0 S = some S') : yEv ro xNo (yKx T) (d + 2) jX12_laySeats [.ref 265, .int v0] S (none) S' := by
  refine ry_meth pX12_laySeats rfl (fun z => ?_)
  unfold fX12_laySeats at hf
  refine ry_step rfl rfl ?_
  obtain ⟨u2, hv1, hf⟩ := Option.bind_eq_some_iff.mp hf
  refine ry_call rfl rfl rfl rfl rfl (tX12_allVotes hv1) ?_
  iterate 5 (refine ry_step rfl rfl ?_)
  refine ry_sub [3, 4, 2, 1, 0] rfl rfl ?_
  exact (uX12_laySeats (ro := ro) _).1 v0 u2 (Int32.ofInt 0) (Int32.ofInt 0) 0 0 S hf _
def fX12_areSeats (N : Nat) (v0 : Int32) (S : yS) : Option Int32 := (if (fX12_isIn v0 (Int32.ofInt 0) (Int32.ofInt 30)) = 0 then some (Int32.ofInt 0) else (fX12_allVotes N  S).bind fun u2 => (if u2 ≤ 0 then some (Int32.ofInt 0) else some (Int32.ofInt 1)))
set_option maxRecDepth 4000 in
theorem tX12_areSeats {ro : xRo} {T : yK} {S : yS} {d N : Nat} {v0 : Int32} {q : Int32} (hf : fX12_areSeats N v0 S = some q) : yEv ro xNo (yKx T) (d + 2) jX12_areSeats [.ref 265, .int v0] S (some (.int q)) S := by
  refine ry_meth pX12_areSeats rfl (fun z => ?_)
  unfold fX12_areSeats at hf
  iterate 3 (refine ry_step rfl rfl ?_)
  refine ry_call rfl rfl rfl rfl rfl tX12_isIn ?_
  refine ry_step rfl rfl ?_
  refine ry_br hf (fun hc hf => ?_) (fun hc hf => ?_)
  · refine ry_step rfl rfl ?_
    cases hf
    exact ry_ret rfl rfl
  · refine ry_step rfl rfl ?_
    obtain ⟨u2, hv1, hf⟩ := Option.bind_eq_some_iff.mp hf
    refine ry_call rfl rfl rfl rfl rfl (tX12_allVotes hv1) ?_
    refine ry_step rfl rfl ?_
    refine ry_br hf (fun hc hf => ?_) (fun hc hf => ?_)
    · refine ry_step rfl rfl ?_
      cases hf
      exact ry_ret rfl rfl
    · iterate 2 (refine ry_step rfl rfl ?_)
      cases hf
      exact ry_ret rfl rfl
def fX12_seats (N : Nat) (v0 : Int32) (v1 : Int32) (v2 : Int32) (S : yS) : Option (Int32 × yS) := (if (fX12_isIn v0 (Int32.ofInt 0) (Int32.ofInt 4)) = 0 then some ((Int32.ofInt (-1)), S) else (fX12_areSeats N v1 S).bind fun u2 => (if ¬ u2 = 0 then (fX12_laySeats N v1 S).bind fun S4 => (if v2 = 0 then (ain 5 v0).bind fun j5 => some ((S4.2.2.1 276 j5), S4) else (ain 5 v0).bind fun j6 => some ((S4.2.2.1 277 j6), S4)) else some ((Int32.ofInt (-1)), S)))
set_option maxRecDepth 4000 in
theorem tX12_seats {ro : xRo} {T : yK} {S : yS} {d N : Nat} {v0 : Int32} {v1 : Int32} {v2 : Int32} {q : Int32} {S' : yS} (hf : fX12_seats N v0 v1 v2 S = some (q, S')) : yEv ro xNo (yKx T) (d + 3) jX12_seats [.ref 265, .int v0, .int v1, .int v2] S (some (.int q)) S' := by
  refine ry_meth pX12_seats rfl (fun z => ?_)
  unfold fX12_seats at hf
  iterate 3 (refine ry_step rfl rfl ?_)
  refine ry_call rfl rfl rfl rfl rfl tX12_isIn ?_
  refine ry_step rfl rfl ?_
  refine ry_br hf (fun hc hf => ?_) (fun hc hf => ?_)
  · refine ry_step rfl rfl ?_
    cases hf
    exact ry_ret rfl rfl
  · iterate 2 (refine ry_step rfl rfl ?_)
    obtain ⟨u2, hv1, hf⟩ := Option.bind_eq_some_iff.mp hf
    refine ry_call rfl rfl rfl rfl rfl (tX12_areSeats hv1) ?_
    refine ry_step rfl rfl ?_
    refine ry_br hf (fun hc hf => ?_) (fun hc hf => ?_)
    · iterate 2 (refine ry_step rfl rfl ?_)
      obtain ⟨S4, hv3, hf⟩ := Option.bind_eq_some_iff.mp hf
      refine ry_call rfl rfl rfl rfl rfl (tX12_laySeats hv3) ?_
      iterate 2 (refine ry_step rfl rfl ?_)
      refine ry_br hf (fun hc hf => ?_) (fun hc hf => ?_)
      · iterate 3 (refine ry_step rfl rfl ?_)
        refine ry_iald hf rfl rfl rfl (fun j5 hf => ?_)
        cases hf
        exact ry_ret rfl rfl
      · iterate 3 (refine ry_step rfl rfl ?_)
        refine ry_iald hf rfl rfl rfl (fun j6 hf => ?_)
        refine ry_step rfl rfl ?_
        cases hf
        exact ry_ret rfl rfl
    · refine ry_step rfl rfl ?_
      cases hf
      exact ry_ret rfl rfl
def lX12_unlike (N : Nat) : Nat → Int32 → Int32 → yS → Option (Int32 × yS)
  | 0, _, _, _ => none
  | n + 1, l2, l3, S => (if (Int32.ofInt 5) ≤ l3 then some (l2, S) else (ain 5 l3).bind fun j5 => (ain 5 l3).bind fun j6 => (if (S.2.2.1 276 j5) = (S.2.2.1 277 j6) then lX12_unlike N n (l2 ||| (Int32.ofInt 0)) (l3 + (Int32.ofInt 1)) S else pSt (l2 ||| ((Int32.ofInt 1) <<< (l3 &&& 31))) fun w7 => lX12_unlike N n w7 (l3 + (Int32.ofInt 1)) S))
set_option maxRecDepth 4000 in
theorem uX12_unlike {ro : xRo} {T : yK} {d N : Nat} : ∀ n : Nat, (∀ (l2 : Int32) (l3 : Int32) (S : yS) {q : Int32} {S' : yS}, lX12_unlike N n l2 l3 S = some (q, S') → ∀ z, Ry ro xNo (yKx T) z (d + 2) mX12_unlike 19 [(0, .ref 265), (2, .int l2), (3, .int l3)] [] S (some (.int q), yH (yKx T) z S')) := by
  intro n
  induction n with
  | zero => exact (by intro _ _ _ _ _ hf; cases hf)
  | succ n ih =>
    intro l2 l3 S q S' hf z
    unfold lX12_unlike at hf
    iterate 3 (refine ry_step rfl rfl ?_)
    refine ry_br hf (fun hc hf => ?_) (fun hc hf => ?_)
    · refine ry_step rfl rfl ?_
      cases hf
      exact ry_ret rfl rfl
    · iterate 4 (refine ry_step rfl rfl ?_)
      refine ry_iald hf rfl rfl rfl (fun j5 hf => ?_)
      iterate 3 (refine ry_step rfl rfl ?_)
      refine ry_iald hf rfl rfl rfl (fun j6 hf => ?_)
      refine ry_step rfl rfl ?_
      refine ry_br hf (fun hc hf => ?_) (fun hc hf => ?_)
      · iterate 5 (refine ry_step rfl rfl ?_)
        refine ry_sub [2, 1, 0] rfl rfl ?_
        exact ih (l2 ||| (Int32.ofInt 0)) (l3 + (Int32.ofInt 1)) S hf _
      · iterate 5 (refine ry_step rfl rfl ?_)
        refine ry_nmi hf (fun w7 hf => ?_)
        iterate 3 (refine ry_step rfl rfl ?_)
        refine ry_sub [2, 1, 0] rfl rfl ?_
        exact ih w7 (l3 + (Int32.ofInt 1)) S hf _
def fX12_unlike (N : Nat) (v0 : Int32) (S : yS) : Option (Int32 × yS) := (fX12_areSeats N v0 S).bind fun u2 => (if ¬ u2 = 0 then (fX12_laySeats N v0 S).bind fun S4 => lX12_unlike N N (Int32.ofInt 0) (Int32.ofInt 0) S4 else some ((Int32.ofInt (-1)), S))
set_option maxRecDepth 4000 in
theorem tX12_unlike {ro : xRo} {T : yK} {S : yS} {d N : Nat} {v0 : Int32} {q : Int32} {S' : yS} (hf : fX12_unlike N v0 S = some (q, S')) : yEv ro xNo (yKx T) (d + 3) jX12_unlike [.ref 265, .int v0] S (some (.int q)) S' := by
  refine ry_meth pX12_unlike rfl (fun z => ?_)
  unfold fX12_unlike at hf
  iterate 2 (refine ry_step rfl rfl ?_)
  obtain ⟨u2, hv1, hf⟩ := Option.bind_eq_some_iff.mp hf
  refine ry_call rfl rfl rfl rfl rfl (tX12_areSeats hv1) ?_
  refine ry_step rfl rfl ?_
  refine ry_br hf (fun hc hf => ?_) (fun hc hf => ?_)
  · iterate 2 (refine ry_step rfl rfl ?_)
    obtain ⟨S4, hv3, hf⟩ := Option.bind_eq_some_iff.mp hf
    refine ry_call rfl rfl rfl rfl rfl (tX12_laySeats hv3) ?_
    iterate 4 (refine ry_step rfl rfl ?_)
    refine ry_sub [2, 1, 0] rfl rfl ?_
    exact uX12_unlike (ro := ro) _ (Int32.ofInt 0) (Int32.ofInt 0) S4 hf _
  · refine ry_step rfl rfl ?_
    cases hf
    exact ry_ret rfl rfl
def fX12_ranks (v0 : Int32) (v1 : Int32) (S : yS) : Option (Int32 × yS) := (if (fX12_isIn v0 (Int32.ofInt 0) (Int32.ofInt 4)) = 0 then some ((Int32.ofInt 0), S) else (if ¬ (fX12_isIn v1 (Int32.ofInt 0) (Int32.ofInt 23)) = 0 then (ain 1338 ((Int32.ofInt 108) + v0)).bind fun j2 => pSt (ySa S 266 (upd (S.2.2.1 266) j2 v1)) fun S1 => some ((Int32.ofInt 1), S1) else some ((Int32.ofInt 0), S)))
set_option maxRecDepth 4000 in
theorem tX12_ranks {ro : xRo} {T : yK} {S : yS} {d : Nat} {v0 : Int32} {v1 : Int32} {q : Int32} {S' : yS} (hf : fX12_ranks v0 v1 S = some (q, S')) : yEv ro xNo (yKx T) (d + 2) jX12_ranks [.ref 265, .int v0, .int v1] S (some (.int q)) S' := by
  refine ry_meth pX12_ranks rfl (fun z => ?_)
  unfold fX12_ranks at hf
  iterate 3 (refine ry_step rfl rfl ?_)
  refine ry_call rfl rfl rfl rfl rfl tX12_isIn ?_
  refine ry_step rfl rfl ?_
  refine ry_br hf (fun hc hf => ?_) (fun hc hf => ?_)
  · refine ry_step rfl rfl ?_
    cases hf
    exact ry_ret rfl rfl
  · iterate 3 (refine ry_step rfl rfl ?_)
    refine ry_call rfl rfl rfl rfl rfl tX12_isIn ?_
    refine ry_step rfl rfl ?_
    refine ry_br hf (fun hc hf => ?_) (fun hc hf => ?_)
    · iterate 6 (refine ry_step rfl rfl ?_)
      refine ry_iast hf rfl rfl (fun j2 S1 hf => ?_)
      refine ry_step rfl rfl ?_
      cases hf
      exact ry_ret rfl rfl
    · refine ry_step rfl rfl ?_
      cases hf
      exact ry_ret rfl rfl
def lX12_factorial (N : Nat) : Nat → Int32 → Int32 → Int32 → yS → Option Int32
  | 0, _, _, _, _ => none
  | n + 1, l0, l1, l2, S => (if l0 < l2 then some l1 else lX12_factorial N n l0 (l1 * l2) (l2 + (Int32.ofInt 1)) S)
set_option maxRecDepth 4000 in
theorem uX12_factorial {ro : xRo} {T : yK} {d N : Nat} : ∀ n : Nat, (∀ (l0 : Int32) (l1 : Int32) (l2 : Int32) (S : yS) {q : Int32}, lX12_factorial N n l0 l1 l2 S = some q → ∀ z, Ry ro xNo (yKx T) z (d + 0) mX12_factorial 4 [(0, .int l0), (1, .int l1), (2, .int l2)] [] S (some (.int q), yH (yKx T) z S)) := by
  intro n
  induction n with
  | zero => exact (by intro _ _ _ _ _ hf; cases hf)
  | succ n ih =>
    intro l0 l1 l2 S q hf z
    unfold lX12_factorial at hf
    iterate 3 (refine ry_step rfl rfl ?_)
    refine ry_br hf (fun hc hf => ?_) (fun hc hf => ?_)
    · refine ry_step rfl rfl ?_
      cases hf
      exact ry_ret rfl rfl
    · iterate 6 (refine ry_step rfl rfl ?_)
      refine ry_sub [2, 1, 0] rfl rfl ?_
      exact ih l0 (l1 * l2) (l2 + (Int32.ofInt 1)) S hf _
def fX12_factorial (N : Nat) (v0 : Int32) (S : yS) : Option Int32 := lX12_factorial N N v0 (Int32.ofInt 1) (Int32.ofInt 2) S
set_option maxRecDepth 4000 in
theorem tX12_factorial {ro : xRo} {T : yK} {S : yS} {d N : Nat} {v0 : Int32} {q : Int32} (hf : fX12_factorial N v0 S = some q) : yEv ro xNo (yKx T) (d + 1) jX12_factorial [.int v0] S (some (.int q)) S := by
  refine ry_meth pX12_factorial rfl (fun z => ?_)
  unfold fX12_factorial at hf
  iterate 4 (refine ry_step rfl rfl ?_)
  refine ry_sub [2, 1, 0] rfl rfl ?_
  exact uX12_factorial (ro := ro) _ v0 (Int32.ofInt 1) (Int32.ofInt 2) S hf _
def lX12_causeAt (N : Nat) : Nat → Nat → Int32 → Int32 → Int32 → Int32 → Int32 → Int32 → yS → Option Int32
  | 0, _, _, _, _, _, _, _, _ => none
  | n + 1, m, l1, l2, l3, l4, l5, l6, S => if m = 0 then (if l1 < l5 then some l4 else (fX12_factorial N ((Int32.ofInt 3) - l5) S).bind fun u2 => (if u2 = 0 then none else (fX12_factorial N ((Int32.ofInt 3) - l5) S).bind fun u4 => (if u4 = 0 then none else lX12_causeAt N n 1 l1 (l2 - l2 / u4 * u4) l3 (Int32.ofInt 0) l5 (l2 / u2) S))) else (if ¬ (fX12_has l3 l4) = 0 then (if (fX12_has l3 l4) = 0 then lX12_causeAt N n 1 l1 l2 l3 (l4 + (Int32.ofInt 1)) l5 (l6 - (Int32.ofInt 1)) S else lX12_causeAt N n 1 l1 l2 l3 (l4 + (Int32.ofInt 1)) l5 (l6 - (Int32.ofInt 0)) S) else (if l6 ≤ 0 then pSt (l3 ||| ((Int32.ofInt 1) <<< (l4 &&& 31))) fun w5 => lX12_causeAt N n 0 l1 l2 w5 l4 (l5 + (Int32.ofInt 1)) 0 S else (if (fX12_has l3 l4) = 0 then lX12_causeAt N n 1 l1 l2 l3 (l4 + (Int32.ofInt 1)) l5 (l6 - (Int32.ofInt 1)) S else lX12_causeAt N n 1 l1 l2 l3 (l4 + (Int32.ofInt 1)) l5 (l6 - (Int32.ofInt 0)) S)))
set_option maxRecDepth 4000 in
theorem uX12_causeAt {ro : xRo} {T : yK} {d N : Nat} : ∀ n : Nat, (∀ (l1 : Int32) (l2 : Int32) (l3 : Int32) (l4 : Int32) (l5 : Int32) (l6 : Int32) (S : yS) {q : Int32}, lX12_causeAt N n 0 l1 l2 l3 l4 l5 l6 S = some q → ∀ z, Ry ro xNo (yKx T) z (d + 1) mX12_causeAt 10 [(1, .int l1), (2, .int l2), (3, .int l3), (4, .int l4), (5, .int l5)] [] S (some (.int q), yH (yKx T) z S)) ∧ (∀ (l1 : Int32) (l2 : Int32) (l3 : Int32) (l4 : Int32) (l5 : Int32) (l6 : Int32) (S : yS) {q : Int32}, lX12_causeAt N n 1 l1 l2 l3 l4 l5 l6 S = some q → ∀ z, Ry ro xNo (yKx T) z (d + 1) mX12_causeAt 40 [(1, .int l1), (2, .int l2), (3, .int l3), (4, .int l4), (5, .int l5), (6, .int l6)] [] S (some (.int q), yH (yKx T) z S)) := by
  intro n
  induction n with
  | zero => exact ⟨(by intro _ _ _ _ _ _ _ _ hf; cases hf), (by intro _ _ _ _ _ _ _ _ hf; cases hf)⟩
  | succ n ih =>
    refine ⟨?_, ?_⟩
    · intro l1 l2 l3 l4 l5 l6 S q hf z
      unfold lX12_causeAt at hf
      rw [if_pos rfl] at hf
      iterate 3 (refine ry_step rfl rfl ?_)
      refine ry_br hf (fun hc hf => ?_) (fun hc hf => ?_)
      · refine ry_step rfl rfl ?_
        cases hf
        exact ry_ret rfl rfl
      · iterate 4 (refine ry_step rfl rfl ?_)
        obtain ⟨u2, hv1, hf⟩ := Option.bind_eq_some_iff.mp hf
        refine ry_call rfl rfl rfl rfl rfl (tX12_factorial hv1) ?_
        refine ry_div hf rfl (fun hf => ?_)
        iterate 5 (refine ry_step rfl rfl ?_)
        obtain ⟨u4, hv3, hf⟩ := Option.bind_eq_some_iff.mp hf
        refine ry_call rfl rfl rfl rfl rfl (tX12_factorial hv3) ?_
        refine ry_rem hf rfl (fun hf => ?_)
        iterate 3 (refine ry_step rfl rfl ?_)
        refine ry_sub [3, 1, 4, 0, 5, 2] rfl rfl ?_
        exact ih.2 l1 (l2 - l2 / u4 * u4) l3 (Int32.ofInt 0) l5 (l2 / u2) S hf _
    · intro l1 l2 l3 l4 l5 l6 S q hf z
      unfold lX12_causeAt at hf
      rw [if_neg (by decide)] at hf; skip
      iterate 2 (refine ry_step rfl rfl ?_)
      refine ry_call rfl rfl rfl rfl rfl tX12_has ?_
      refine ry_step rfl rfl ?_
      refine ry_br hf (fun hc hf => ?_) (fun hc hf => ?_)
      · iterate 3 (refine ry_step rfl rfl ?_)
        refine ry_call rfl rfl rfl rfl rfl tX12_has ?_
        refine ry_step rfl rfl ?_
        refine ry_br hf (fun hc hf => ?_) (fun hc hf => ?_)
        · iterate 5 (refine ry_step rfl rfl ?_)
          refine ry_sub [2, 3, 4, 0, 5, 1] rfl rfl ?_
          exact ih.2 l1 l2 l3 (l4 + (Int32.ofInt 1)) l5 (l6 - (Int32.ofInt 1)) S hf _
        · iterate 6 (refine ry_step rfl rfl ?_)
          refine ry_sub [2, 3, 4, 0, 5, 1] rfl rfl ?_
          exact ih.2 l1 l2 l3 (l4 + (Int32.ofInt 1)) l5 (l6 - (Int32.ofInt 0)) S hf _
      · iterate 2 (refine ry_step rfl rfl ?_)
        refine ry_br hf (fun hc hf => ?_) (fun hc hf => ?_)
        · iterate 5 (refine ry_step rfl rfl ?_)
          refine ry_nmi hf (fun w5 hf => ?_)
          iterate 3 (refine ry_step rfl rfl ?_)
          refine ry_sub [2, 3, 1, 4, 0] rfl rfl ?_
          exact ih.1 l1 l2 w5 l4 (l5 + (Int32.ofInt 1)) 0 S hf _
        · iterate 3 (refine ry_step rfl rfl ?_)
          refine ry_call rfl rfl rfl rfl rfl tX12_has ?_
          refine ry_step rfl rfl ?_
          refine ry_br hf (fun hc hf => ?_) (fun hc hf => ?_)
          · iterate 5 (refine ry_step rfl rfl ?_)
            refine ry_sub [2, 3, 4, 0, 5, 1] rfl rfl ?_
            exact ih.2 l1 l2 l3 (l4 + (Int32.ofInt 1)) l5 (l6 - (Int32.ofInt 1)) S hf _
          · iterate 6 (refine ry_step rfl rfl ?_)
            refine ry_sub [2, 3, 4, 0, 5, 1] rfl rfl ?_
            exact ih.2 l1 l2 l3 (l4 + (Int32.ofInt 1)) l5 (l6 - (Int32.ofInt 0)) S hf _
def fX12_causeAt (N : Nat) (v0 : Int32) (v1 : Int32) (S : yS) : Option Int32 := lX12_causeAt N N 0 v1 v0 (Int32.ofInt 0) (Int32.ofInt 0) (Int32.ofInt 0) 0 S
set_option maxRecDepth 4000 in
theorem tX12_causeAt {ro : xRo} {T : yK} {S : yS} {d N : Nat} {v0 : Int32} {v1 : Int32} {q : Int32} (hf : fX12_causeAt N v0 v1 S = some q) : yEv ro xNo (yKx T) (d + 2) jX12_causeAt [.int v0, .int v1] S (some (.int q)) S := by
  refine ry_meth pX12_causeAt rfl (fun z => ?_)
  unfold fX12_causeAt at hf
  iterate 8 (refine ry_step rfl rfl ?_)
  refine ry_sub [5, 3, 2, 1, 0] rfl rfl ?_
  exact (uX12_causeAt (ro := ro) _).1 v1 v0 (Int32.ofInt 0) (Int32.ofInt 0) (Int32.ofInt 0) 0 S hf _
def lX12_placeBy (N : Nat) : Nat → Int32 → Int32 → Int32 → yS → Option Int32
  | 0, _, _, _, _ => none
  | n + 1, l1, l2, l3, S => (ain 1338 ((Int32.ofInt 108) + l1)).bind fun j1 => (fX12_causeAt N (S.2.2.1 266 j1) l3 S).bind fun u3 => (if u3 = l2 then some l3 else lX12_placeBy N n l1 l2 (l3 + (Int32.ofInt 1)) S)
set_option maxRecDepth 4000 in
theorem uX12_placeBy {ro : xRo} {T : yK} {d N : Nat} : ∀ n : Nat, (∀ (l1 : Int32) (l2 : Int32) (l3 : Int32) (S : yS) {q : Int32}, lX12_placeBy N n l1 l2 l3 S = some q → ∀ z, Ry ro xNo (yKx T) z (d + 2) mX12_placeBy 2 [(0, .ref 265), (1, .int l1), (2, .int l2), (3, .int l3)] [] S (some (.int q), yH (yKx T) z S)) := by
  intro n
  induction n with
  | zero => exact (by intro _ _ _ _ _ hf; cases hf)
  | succ n ih =>
    intro l1 l2 l3 S q hf z
    unfold lX12_placeBy at hf
    iterate 5 (refine ry_step rfl rfl ?_)
    refine ry_iald hf rfl rfl rfl (fun j1 hf => ?_)
    refine ry_step rfl rfl ?_
    obtain ⟨u3, hv2, hf⟩ := Option.bind_eq_some_iff.mp hf
    refine ry_call rfl rfl rfl rfl rfl (tX12_causeAt hv2) ?_
    iterate 2 (refine ry_step rfl rfl ?_)
    refine ry_br hf (fun hc hf => ?_) (fun hc hf => ?_)
    · refine ry_step rfl rfl ?_
      cases hf
      exact ry_ret rfl rfl
    · iterate 2 (refine ry_step rfl rfl ?_)
      refine ry_sub [1, 2, 3, 0] rfl rfl ?_
      exact ih l1 l2 (l3 + (Int32.ofInt 1)) S hf _
def fX12_placeBy (N : Nat) (v0 : Int32) (v1 : Int32) (S : yS) : Option Int32 := lX12_placeBy N N v0 v1 (Int32.ofInt 0) S
set_option maxRecDepth 4000 in
theorem tX12_placeBy {ro : xRo} {T : yK} {S : yS} {d N : Nat} {v0 : Int32} {v1 : Int32} {q : Int32} (hf : fX12_placeBy N v0 v1 S = some q) : yEv ro xNo (yKx T) (d + 3) jX12_placeBy [.ref 265, .int v0, .int v1] S (some (.int q)) S := by
  refine ry_meth pX12_placeBy rfl (fun z => ?_)
  unfold fX12_placeBy at hf
  iterate 2 (refine ry_step rfl rfl ?_)
  refine ry_sub [1, 2, 3, 0] rfl rfl ?_
  exact uX12_placeBy (ro := ro) _ v0 v1 (Int32.ofInt 0) S hf _
def lX12_doesBeat (N : Nat) : Nat → Int32 → Int32 → Int32 → Int32 → yS → Option Int32
  | 0, _, _, _, _, _ => none
  | n + 1, l1, l2, l3, l4, S => (if (Int32.ofInt 5) ≤ l4 then (if l3 ≤ 0 then some (Int32.ofInt 0) else some (Int32.ofInt 1)) else (fX12_placeBy N l4 l1 S).bind fun u2 => (fX12_placeBy N l4 l2 S).bind fun u4 => (if u4 ≤ u2 then (ain 1338 ((Int32.ofInt 87) + l4)).bind fun j5 => lX12_doesBeat N n l1 l2 (l3 + (-(S.2.2.1 266 j5))) (l4 + (Int32.ofInt 1)) S else (ain 1338 ((Int32.ofInt 87) + l4)).bind fun j6 => lX12_doesBeat N n l1 l2 (l3 + (S.2.2.1 266 j6)) (l4 + (Int32.ofInt 1)) S))
set_option maxRecDepth 4000 in
theorem uX12_doesBeat {ro : xRo} {T : yK} {d N : Nat} : ∀ n : Nat, (∀ (l1 : Int32) (l2 : Int32) (l3 : Int32) (l4 : Int32) (S : yS) {q : Int32}, lX12_doesBeat N n l1 l2 l3 l4 S = some q → ∀ z, Ry ro xNo (yKx T) z (d + 3) mX12_doesBeat 5 [(0, .ref 265), (1, .int l1), (2, .int l2), (3, .int l3), (4, .int l4)] [] S (some (.int q), yH (yKx T) z S)) := by
  intro n
  induction n with
  | zero => exact (by intro _ _ _ _ _ _ hf; cases hf)
  | succ n ih =>
    intro l1 l2 l3 l4 S q hf z
    unfold lX12_doesBeat at hf
    iterate 3 (refine ry_step rfl rfl ?_)
    refine ry_br hf (fun hc hf => ?_) (fun hc hf => ?_)
    · iterate 2 (refine ry_step rfl rfl ?_)
      refine ry_br hf (fun hc hf => ?_) (fun hc hf => ?_)
      · refine ry_step rfl rfl ?_
        cases hf
        exact ry_ret rfl rfl
      · iterate 2 (refine ry_step rfl rfl ?_)
        cases hf
        exact ry_ret rfl rfl
    · iterate 4 (refine ry_step rfl rfl ?_)
      obtain ⟨u2, hv1, hf⟩ := Option.bind_eq_some_iff.mp hf
      refine ry_call rfl rfl rfl rfl rfl (tX12_placeBy hv1) ?_
      iterate 3 (refine ry_step rfl rfl ?_)
      obtain ⟨u4, hv3, hf⟩ := Option.bind_eq_some_iff.mp hf
      refine ry_call rfl rfl rfl rfl rfl (tX12_placeBy hv3) ?_
      refine ry_step rfl rfl ?_
      refine ry_br hf (fun hc hf => ?_) (fun hc hf => ?_)
      · iterate 5 (refine ry_step rfl rfl ?_)
        refine ry_iald hf rfl rfl rfl (fun j5 hf => ?_)
        iterate 5 (refine ry_step rfl rfl ?_)
        refine ry_sub [2, 3, 4, 1, 0] rfl rfl ?_
        exact ih l1 l2 (l3 + (-(S.2.2.1 266 j5))) (l4 + (Int32.ofInt 1)) S hf _
      · iterate 5 (refine ry_step rfl rfl ?_)
        refine ry_iald hf rfl rfl rfl (fun j6 hf => ?_)
        iterate 5 (refine ry_step rfl rfl ?_)
        refine ry_sub [2, 3, 4, 1, 0] rfl rfl ?_
        exact ih l1 l2 (l3 + (S.2.2.1 266 j6)) (l4 + (Int32.ofInt 1)) S hf _
def fX12_doesBeat (N : Nat) (v0 : Int32) (v1 : Int32) (S : yS) : Option Int32 := lX12_doesBeat N N v0 v1 (Int32.ofInt 0) (Int32.ofInt 0) S
set_option maxRecDepth 4000 in
theorem tX12_doesBeat {ro : xRo} {T : yK} {S : yS} {d N : Nat} {v0 : Int32} {v1 : Int32} {q : Int32} (hf : fX12_doesBeat N v0 v1 S = some q) : yEv ro xNo (yKx T) (d + 4) jX12_doesBeat [.ref 265, .int v0, .int v1] S (some (.int q)) S := by
  refine ry_meth pX12_doesBeat rfl (fun z => ?_)
  unfold fX12_doesBeat at hf
  iterate 4 (refine ry_step rfl rfl ?_)
  refine ry_sub [2, 3, 4, 1, 0] rfl rfl ?_
  exact uX12_doesBeat (ro := ro) _ v0 v1 (Int32.ofInt 0) (Int32.ofInt 0) S hf _
def fX12_beats (N : Nat) (v0 : Int32) (v1 : Int32) (S : yS) : Option Int32 := (if (fX12_isCause v0) = 0 then some (Int32.ofInt 0) else (if (fX12_isCause v1) = 0 then some (Int32.ofInt 0) else (if v0 = v1 then some (Int32.ofInt 0) else (fX12_doesBeat N v0 v1 S).bind fun u2 => (if u2 = 0 then some (Int32.ofInt 0) else some (Int32.ofInt 1)))))
set_option maxRecDepth 4000 in
theorem tX12_beats {ro : xRo} {T : yK} {S : yS} {d N : Nat} {v0 : Int32} {v1 : Int32} {q : Int32} (hf : fX12_beats N v0 v1 S = some q) : yEv ro xNo (yKx T) (d + 5) jX12_beats [.ref 265, .int v0, .int v1] S (some (.int q)) S := by
  refine ry_meth pX12_beats rfl (fun z => ?_)
  unfold fX12_beats at hf
  refine ry_step rfl rfl ?_
  refine ry_call rfl rfl rfl rfl rfl tX12_isCause ?_
  refine ry_step rfl rfl ?_
  refine ry_br hf (fun hc hf => ?_) (fun hc hf => ?_)
  · refine ry_step rfl rfl ?_
    cases hf
    exact ry_ret rfl rfl
  · refine ry_step rfl rfl ?_
    refine ry_call rfl rfl rfl rfl rfl tX12_isCause ?_
    refine ry_step rfl rfl ?_
    refine ry_br hf (fun hc hf => ?_) (fun hc hf => ?_)
    · refine ry_step rfl rfl ?_
      cases hf
      exact ry_ret rfl rfl
    · iterate 3 (refine ry_step rfl rfl ?_)
      refine ry_br hf (fun hc hf => ?_) (fun hc hf => ?_)
      · refine ry_step rfl rfl ?_
        cases hf
        exact ry_ret rfl rfl
      · iterate 3 (refine ry_step rfl rfl ?_)
        obtain ⟨u2, hv1, hf⟩ := Option.bind_eq_some_iff.mp hf
        refine ry_call rfl rfl rfl rfl rfl (tX12_doesBeat hv1) ?_
        refine ry_step rfl rfl ?_
        refine ry_br hf (fun hc hf => ?_) (fun hc hf => ?_)
        · refine ry_step rfl rfl ?_
          cases hf
          exact ry_ret rfl rfl
        · iterate 2 (refine ry_step rfl rfl ?_)
          cases hf
          exact ry_ret rfl rfl
def lX12_winner (N : Nat) : Nat → Nat → Int32 → Int32 → Int32 → yS → Option Int32
  | 0, _, _, _, _, _ => none
  | n + 1, m, l1, l2, l3, S => if m = 0 then (if (Int32.ofInt 4) ≤ l1 then some (Int32.ofInt (-1)) else lX12_winner N n 1 l1 (Int32.ofInt 1) (Int32.ofInt 0) S) else (if (Int32.ofInt 4) ≤ l3 then (if l2 = 0 then lX12_winner N n 0 (l1 + (Int32.ofInt 1)) 0 0 S else some l1) else (if l2 = 0 then lX12_winner N n 1 l1 (Int32.ofInt 0) (l3 + (Int32.ofInt 1)) S else (if l1 = l3 then lX12_winner N n 1 l1 (Int32.ofInt 1) (l3 + (Int32.ofInt 1)) S else (fX12_doesBeat N l1 l3 S).bind fun u2 => (if u2 = 0 then lX12_winner N n 1 l1 (Int32.ofInt 0) (l3 + (Int32.ofInt 1)) S else lX12_winner N n 1 l1 (Int32.ofInt 1) (l3 + (Int32.ofInt 1)) S))))
set_option maxRecDepth 4000 in
theorem uX12_winner {ro : xRo} {T : yK} {d N : Nat} : ∀ n : Nat, (∀ (l1 : Int32) (l2 : Int32) (l3 : Int32) (S : yS) {q : Int32}, lX12_winner N n 0 l1 l2 l3 S = some q → ∀ z, Ry ro xNo (yKx T) z (d + 4) mX12_winner 2 [(0, .ref 265), (1, .int l1)] [] S (some (.int q), yH (yKx T) z S)) ∧ (∀ (l1 : Int32) (l2 : Int32) (l3 : Int32) (S : yS) {q : Int32}, lX12_winner N n 1 l1 l2 l3 S = some q → ∀ z, Ry ro xNo (yKx T) z (d + 4) mX12_winner 11 [(0, .ref 265), (1, .int l1), (2, .int l2), (3, .int l3)] [] S (some (.int q), yH (yKx T) z S)) := by
  intro n
  induction n with
  | zero => exact ⟨(by intro _ _ _ _ _ hf; cases hf), (by intro _ _ _ _ _ hf; cases hf)⟩
  | succ n ih =>
    refine ⟨?_, ?_⟩
    · intro l1 l2 l3 S q hf z
      unfold lX12_winner at hf
      rw [if_pos rfl] at hf
      iterate 3 (refine ry_step rfl rfl ?_)
      refine ry_br hf (fun hc hf => ?_) (fun hc hf => ?_)
      · refine ry_step rfl rfl ?_
        cases hf
        exact ry_ret rfl rfl
      · iterate 4 (refine ry_step rfl rfl ?_)
        refine ry_sub [2, 3, 1, 0] rfl rfl ?_
        exact ih.2 l1 (Int32.ofInt 1) (Int32.ofInt 0) S hf _
    · intro l1 l2 l3 S q hf z
      unfold lX12_winner at hf
      rw [if_neg (by decide)] at hf; skip
      iterate 3 (refine ry_step rfl rfl ?_)
      refine ry_br hf (fun hc hf => ?_) (fun hc hf => ?_)
      · iterate 2 (refine ry_step rfl rfl ?_)
        refine ry_br hf (fun hc hf => ?_) (fun hc hf => ?_)
        · iterate 2 (refine ry_step rfl rfl ?_)
          refine ry_sub [1, 0] rfl rfl ?_
          exact ih.1 (l1 + (Int32.ofInt 1)) 0 0 S hf _
        · refine ry_step rfl rfl ?_
          cases hf
          exact ry_ret rfl rfl
      · iterate 2 (refine ry_step rfl rfl ?_)
        refine ry_br hf (fun hc hf => ?_) (fun hc hf => ?_)
        · iterate 4 (refine ry_step rfl rfl ?_)
          refine ry_sub [2, 3, 1, 0] rfl rfl ?_
          exact ih.2 l1 (Int32.ofInt 0) (l3 + (Int32.ofInt 1)) S hf _
        · iterate 3 (refine ry_step rfl rfl ?_)
          refine ry_br hf (fun hc hf => ?_) (fun hc hf => ?_)
          · iterate 5 (refine ry_step rfl rfl ?_)
            refine ry_sub [2, 3, 1, 0] rfl rfl ?_
            exact ih.2 l1 (Int32.ofInt 1) (l3 + (Int32.ofInt 1)) S hf _
          · iterate 3 (refine ry_step rfl rfl ?_)
            obtain ⟨u2, hv1, hf⟩ := Option.bind_eq_some_iff.mp hf
            refine ry_call rfl rfl rfl rfl rfl (tX12_doesBeat hv1) ?_
            refine ry_step rfl rfl ?_
            refine ry_br hf (fun hc hf => ?_) (fun hc hf => ?_)
            · iterate 4 (refine ry_step rfl rfl ?_)
              refine ry_sub [2, 3, 1, 0] rfl rfl ?_
              exact ih.2 l1 (Int32.ofInt 0) (l3 + (Int32.ofInt 1)) S hf _
            · iterate 5 (refine ry_step rfl rfl ?_)
              refine ry_sub [2, 3, 1, 0] rfl rfl ?_
              exact ih.2 l1 (Int32.ofInt 1) (l3 + (Int32.ofInt 1)) S hf _
def fX12_winner (N : Nat) (S : yS) : Option Int32 := lX12_winner N N 0 (Int32.ofInt 0) 0 0 S
set_option maxRecDepth 4000 in
theorem tX12_winner {ro : xRo} {T : yK} {S : yS} {d N : Nat} {q : Int32} (hf : fX12_winner N  S = some q) : yEv ro xNo (yKx T) (d + 5) jX12_winner [.ref 265] S (some (.int q)) S := by
  refine ry_meth pX12_winner rfl (fun z => ?_)
  unfold fX12_winner at hf
  iterate 2 (refine ry_step rfl rfl ?_)
  refine ry_sub [1, 0] rfl rfl ?_
  exact (uX12_winner (ro := ro) _).1 (Int32.ofInt 0) 0 0 S hf _
def lX12_points (N : Nat) : Nat → Int32 → Int32 → Int32 → yS → Option Int32
  | 0, _, _, _, _ => none
  | n + 1, l1, l2, l3, S => (if (Int32.ofInt 5) ≤ l3 then some l2 else (ain 1338 ((Int32.ofInt 87) + l3)).bind fun j1 => (fX12_placeBy N l3 l1 S).bind fun u3 => pSt (l2 + ((S.2.2.1 266 j1) * ((Int32.ofInt 3) - u3))) fun w4 => lX12_points N n l1 w4 (l3 + (Int32.ofInt 1)) S)
set_option maxRecDepth 4000 in
theorem uX12_points {ro : xRo} {T : yK} {d N : Nat} : ∀ n : Nat, (∀ (l1 : Int32) (l2 : Int32) (l3 : Int32) (S : yS) {q : Int32}, lX12_points N n l1 l2 l3 S = some q → ∀ z, Ry ro xNo (yKx T) z (d + 3) mX12_points 13 [(0, .ref 265), (1, .int l1), (2, .int l2), (3, .int l3)] [] S (some (.int q), yH (yKx T) z S)) := by
  intro n
  induction n with
  | zero => exact (by intro _ _ _ _ _ hf; cases hf)
  | succ n ih =>
    intro l1 l2 l3 S q hf z
    unfold lX12_points at hf
    iterate 3 (refine ry_step rfl rfl ?_)
    refine ry_br hf (fun hc hf => ?_) (fun hc hf => ?_)
    · refine ry_step rfl rfl ?_
      cases hf
      exact ry_ret rfl rfl
    · iterate 6 (refine ry_step rfl rfl ?_)
      refine ry_iald hf rfl rfl rfl (fun j1 hf => ?_)
      iterate 4 (refine ry_step rfl rfl ?_)
      obtain ⟨u3, hv2, hf⟩ := Option.bind_eq_some_iff.mp hf
      refine ry_call rfl rfl rfl rfl rfl (tX12_placeBy hv2) ?_
      iterate 3 (refine ry_step rfl rfl ?_)
      refine ry_nmi hf (fun w4 hf => ?_)
      iterate 3 (refine ry_step rfl rfl ?_)
      refine ry_sub [2, 3, 1, 0] rfl rfl ?_
      exact ih l1 w4 (l3 + (Int32.ofInt 1)) S hf _
def fX12_points (N : Nat) (v0 : Int32) (S : yS) : Option Int32 := (if ¬ (fX12_isCause v0) = 0 then lX12_points N N v0 (Int32.ofInt 0) (Int32.ofInt 0) S else some (Int32.ofInt (-1)))
set_option maxRecDepth 4000 in
theorem tX12_points {ro : xRo} {T : yK} {S : yS} {d N : Nat} {v0 : Int32} {q : Int32} (hf : fX12_points N v0 S = some q) : yEv ro xNo (yKx T) (d + 4) jX12_points [.ref 265, .int v0] S (some (.int q)) S := by
  refine ry_meth pX12_points rfl (fun z => ?_)
  unfold fX12_points at hf
  refine ry_step rfl rfl ?_
  refine ry_call rfl rfl rfl rfl rfl tX12_isCause ?_
  refine ry_step rfl rfl ?_
  refine ry_br hf (fun hc hf => ?_) (fun hc hf => ?_)
  · iterate 4 (refine ry_step rfl rfl ?_)
    refine ry_sub [2, 3, 1, 0] rfl rfl ?_
    exact uX12_points (ro := ro) _ v0 (Int32.ofInt 0) (Int32.ofInt 0) S hf _
  · refine ry_step rfl rfl ?_
    cases hf
    exact ry_ret rfl rfl
def lX12_firstVotes (N : Nat) : Nat → Nat → Int32 → Int32 → Int32 → Int32 → Int32 → Int32 → yS → Option Int32
  | 0, _, _, _, _, _, _, _, _ => none
  | n + 1, m, l1, l2, l3, l4, l5, l6, S => if m = 0 then (if (Int32.ofInt 5) ≤ l4 then some l3 else lX12_firstVotes N n 1 l1 l2 l3 l4 (Int32.ofInt 1) (Int32.ofInt 0) S) else (if (Int32.ofInt 4) ≤ l6 then (if l5 = 0 then lX12_firstVotes N n 0 l1 l2 (l3 + (Int32.ofInt 0)) (l4 + (Int32.ofInt 1)) 0 0 S else (ain 1338 ((Int32.ofInt 87) + l4)).bind fun j1 => lX12_firstVotes N n 0 l1 l2 (l3 + (S.2.2.1 266 j1)) (l4 + (Int32.ofInt 1)) 0 0 S) else (if l5 = 0 then lX12_firstVotes N n 1 l1 l2 l3 l4 (Int32.ofInt 0) (l6 + (Int32.ofInt 1)) S else (if (fX12_has l2 l6) = 0 then lX12_firstVotes N n 1 l1 l2 l3 l4 (Int32.ofInt 1) (l6 + (Int32.ofInt 1)) S else (fX12_placeBy N l4 l1 S).bind fun u3 => (fX12_placeBy N l4 l6 S).bind fun u5 => (if u5 < u3 then lX12_firstVotes N n 1 l1 l2 l3 l4 (Int32.ofInt 0) (l6 + (Int32.ofInt 1)) S else lX12_firstVotes N n 1 l1 l2 l3 l4 (Int32.ofInt 1) (l6 + (Int32.ofInt 1)) S))))
set_option maxRecDepth 4000 in
theorem uX12_firstVotes {ro : xRo} {T : yK} {d N : Nat} : ∀ n : Nat, (∀ (l1 : Int32) (l2 : Int32) (l3 : Int32) (l4 : Int32) (l5 : Int32) (l6 : Int32) (S : yS) {q : Int32}, lX12_firstVotes N n 0 l1 l2 l3 l4 l5 l6 S = some q → ∀ z, Ry ro xNo (yKx T) z (d + 3) mX12_firstVotes 5 [(0, .ref 265), (1, .int l1), (2, .int l2), (3, .int l3), (4, .int l4)] [] S (some (.int q), yH (yKx T) z S)) ∧ (∀ (l1 : Int32) (l2 : Int32) (l3 : Int32) (l4 : Int32) (l5 : Int32) (l6 : Int32) (S : yS) {q : Int32}, lX12_firstVotes N n 1 l1 l2 l3 l4 l5 l6 S = some q → ∀ z, Ry ro xNo (yKx T) z (d + 3) mX12_firstVotes 17 [(0, .ref 265), (1, .int l1), (2, .int l2), (3, .int l3), (4, .int l4), (5, .int l5), (6, .int l6)] [] S (some (.int q), yH (yKx T) z S)) := by
  intro n
  induction n with
  | zero => exact ⟨(by intro _ _ _ _ _ _ _ _ hf; cases hf), (by intro _ _ _ _ _ _ _ _ hf; cases hf)⟩
  | succ n ih =>
    refine ⟨?_, ?_⟩
    · intro l1 l2 l3 l4 l5 l6 S q hf z
      unfold lX12_firstVotes at hf
      rw [if_pos rfl] at hf
      iterate 3 (refine ry_step rfl rfl ?_)
      refine ry_br hf (fun hc hf => ?_) (fun hc hf => ?_)
      · refine ry_step rfl rfl ?_
        cases hf
        exact ry_ret rfl rfl
      · iterate 4 (refine ry_step rfl rfl ?_)
        refine ry_sub [2, 3, 4, 5, 6, 1, 0] rfl rfl ?_
        exact ih.2 l1 l2 l3 l4 (Int32.ofInt 1) (Int32.ofInt 0) S hf _
    · intro l1 l2 l3 l4 l5 l6 S q hf z
      unfold lX12_firstVotes at hf
      rw [if_neg (by decide)] at hf; skip
      iterate 3 (refine ry_step rfl rfl ?_)
      refine ry_br hf (fun hc hf => ?_) (fun hc hf => ?_)
      · iterate 3 (refine ry_step rfl rfl ?_)
        refine ry_br hf (fun hc hf => ?_) (fun hc hf => ?_)
        · iterate 5 (refine ry_step rfl rfl ?_)
          refine ry_sub [2, 3, 4, 1, 0] rfl rfl ?_
          exact ih.1 l1 l2 (l3 + (Int32.ofInt 0)) (l4 + (Int32.ofInt 1)) 0 0 S hf _
        · iterate 5 (refine ry_step rfl rfl ?_)
          refine ry_iald hf rfl rfl rfl (fun j1 hf => ?_)
          iterate 5 (refine ry_step rfl rfl ?_)
          refine ry_sub [2, 3, 4, 1, 0] rfl rfl ?_
          exact ih.1 l1 l2 (l3 + (S.2.2.1 266 j1)) (l4 + (Int32.ofInt 1)) 0 0 S hf _
      · iterate 2 (refine ry_step rfl rfl ?_)
        refine ry_br hf (fun hc hf => ?_) (fun hc hf => ?_)
        · iterate 4 (refine ry_step rfl rfl ?_)
          refine ry_sub [2, 3, 4, 5, 6, 1, 0] rfl rfl ?_
          exact ih.2 l1 l2 l3 l4 (Int32.ofInt 0) (l6 + (Int32.ofInt 1)) S hf _
        · iterate 2 (refine ry_step rfl rfl ?_)
          refine ry_call rfl rfl rfl rfl rfl tX12_has ?_
          refine ry_step rfl rfl ?_
          refine ry_br hf (fun hc hf => ?_) (fun hc hf => ?_)
          · iterate 5 (refine ry_step rfl rfl ?_)
            refine ry_sub [2, 3, 4, 5, 6, 1, 0] rfl rfl ?_
            exact ih.2 l1 l2 l3 l4 (Int32.ofInt 1) (l6 + (Int32.ofInt 1)) S hf _
          · iterate 3 (refine ry_step rfl rfl ?_)
            obtain ⟨u3, hv2, hf⟩ := Option.bind_eq_some_iff.mp hf
            refine ry_call rfl rfl rfl rfl rfl (tX12_placeBy hv2) ?_
            iterate 3 (refine ry_step rfl rfl ?_)
            obtain ⟨u5, hv4, hf⟩ := Option.bind_eq_some_iff.mp hf
            refine ry_call rfl rfl rfl rfl rfl (tX12_placeBy hv4) ?_
            refine ry_step rfl rfl ?_
            refine ry_br hf (fun hc hf => ?_) (fun hc hf => ?_)
            · iterate 4 (refine ry_step rfl rfl ?_)
              refine ry_sub [2, 3, 4, 5, 6, 1, 0] rfl rfl ?_
              exact ih.2 l1 l2 l3 l4 (Int32.ofInt 0) (l6 + (Int32.ofInt 1)) S hf _
            · iterate 5 (refine ry_step rfl rfl ?_)
              refine ry_sub [2, 3, 4, 5, 6, 1, 0] rfl rfl ?_
              exact ih.2 l1 l2 l3 l4 (Int32.ofInt 1) (l6 + (Int32.ofInt 1)) S hf _
def fX12_firstVotes (N : Nat) (v0 : Int32) (v1 : Int32) (S : yS) : Option Int32 := lX12_firstVotes N N 0 v0 v1 (Int32.ofInt 0) (Int32.ofInt 0) 0 0 S
set_option maxRecDepth 4000 in
theorem tX12_firstVotes {ro : xRo} {T : yK} {S : yS} {d N : Nat} {v0 : Int32} {v1 : Int32} {q : Int32} (hf : fX12_firstVotes N v0 v1 S = some q) : yEv ro xNo (yKx T) (d + 4) jX12_firstVotes [.ref 265, .int v0, .int v1] S (some (.int q)) S := by
  refine ry_meth pX12_firstVotes rfl (fun z => ?_)
  unfold fX12_firstVotes at hf
  iterate 4 (refine ry_step rfl rfl ?_)
  refine ry_sub [2, 3, 4, 1, 0] rfl rfl ?_
  exact (uX12_firstVotes (ro := ro) _).1 v0 v1 (Int32.ofInt 0) (Int32.ofInt 0) 0 0 S hf _
def lX12_runoff (N : Nat) : Nat → Nat → Int32 → Int32 → Int32 → yS → Option Int32
  | 0, _, _, _, _, _ => none
  | n + 1, m, l1, l2, l3, S => if m = 0 then (fX12_bits N l1 S).bind fun u2 => (if u2 ≤ (Int32.ofInt 1) then lX12_runoff N n 2 l1 (Int32.ofInt 0) 0 S else lX12_runoff N n 1 l1 (Int32.ofInt (-1)) (Int32.ofInt 3) S) else if m = 1 then (if l3 < 0 then pSt (l1 &&& (((Int32.ofInt 1) <<< (l2 &&& 31)) ^^^ (Int32.ofInt (-1)))) fun w3 => lX12_runoff N n 0 w3 0 0 S else (if (fX12_has l1 l3) = 0 then lX12_runoff N n 1 l1 l2 (l3 + (Int32.ofInt (-1))) S else (if l2 = (Int32.ofInt (-1)) then lX12_runoff N n 1 l1 l3 (l3 + (Int32.ofInt (-1))) S else (fX12_firstVotes N l3 l1 S).bind fun u5 => (fX12_firstVotes N l2 l1 S).bind fun u7 => (if u7 ≤ u5 then lX12_runoff N n 1 l1 l2 (l3 + (Int32.ofInt (-1))) S else lX12_runoff N n 1 l1 l3 (l3 + (Int32.ofInt (-1))) S)))) else (if ¬ (fX12_has l1 l2) = 0 then some l2 else lX12_runoff N n 2 l1 (l2 + (Int32.ofInt 1)) 0 S)
set_option maxRecDepth 4000 in
theorem uX12_runoff {ro : xRo} {T : yK} {d N : Nat} : ∀ n : Nat, (∀ (l1 : Int32) (l2 : Int32) (l3 : Int32) (S : yS) {q : Int32}, lX12_runoff N n 0 l1 l2 l3 S = some q → ∀ z, Ry ro xNo (yKx T) z (d + 4) mX12_runoff 3 [(0, .ref 265), (1, .int l1)] [] S (some (.int q), yH (yKx T) z S)) ∧ (∀ (l1 : Int32) (l2 : Int32) (l3 : Int32) (S : yS) {q : Int32}, lX12_runoff N n 1 l1 l2 l3 S = some q → ∀ z, Ry ro xNo (yKx T) z (d + 4) mX12_runoff 15 [(0, .ref 265), (1, .int l1), (2, .int l2), (3, .int l3)] [] S (some (.int q), yH (yKx T) z S)) ∧ (∀ (l1 : Int32) (l2 : Int32) (l3 : Int32) (S : yS) {q : Int32}, lX12_runoff N n 2 l1 l2 l3 S = some q → ∀ z, Ry ro xNo (yKx T) z (d + 4) mX12_runoff 68 [(1, .int l1), (2, .int l2)] [] S (some (.int q), yH (yKx T) z S)) := by
  intro n
  induction n with
  | zero => exact ⟨(by intro _ _ _ _ _ hf; cases hf), (by intro _ _ _ _ _ hf; cases hf), (by intro _ _ _ _ _ hf; cases hf)⟩
  | succ n ih =>
    refine ⟨?_, ?_, ?_⟩
    · intro l1 l2 l3 S q hf z
      unfold lX12_runoff at hf
      rw [if_pos rfl] at hf
      refine ry_step rfl rfl ?_
      obtain ⟨u2, hv1, hf⟩ := Option.bind_eq_some_iff.mp hf
      refine ry_call rfl rfl rfl rfl rfl (tX12_bits hv1) ?_
      iterate 2 (refine ry_step rfl rfl ?_)
      refine ry_br hf (fun hc hf => ?_) (fun hc hf => ?_)
      · iterate 2 (refine ry_step rfl rfl ?_)
        refine ry_sub [2, 0] rfl rfl ?_
        exact ih.2.2 l1 (Int32.ofInt 0) 0 S hf _
      · iterate 4 (refine ry_step rfl rfl ?_)
        refine ry_sub [2, 3, 1, 0] rfl rfl ?_
        exact ih.2.1 l1 (Int32.ofInt (-1)) (Int32.ofInt 3) S hf _
    · intro l1 l2 l3 S q hf z
      unfold lX12_runoff at hf
      rw [if_neg (by decide)] at hf; rw [if_pos rfl] at hf
      iterate 2 (refine ry_step rfl rfl ?_)
      refine ry_br hf (fun hc hf => ?_) (fun hc hf => ?_)
      · iterate 7 (refine ry_step rfl rfl ?_)
        refine ry_nmi hf (fun w3 hf => ?_)
        iterate 2 (refine ry_step rfl rfl ?_)
        refine ry_sub [1, 0] rfl rfl ?_
        exact ih.1 w3 0 0 S hf _
      · iterate 2 (refine ry_step rfl rfl ?_)
        refine ry_call rfl rfl rfl rfl rfl tX12_has ?_
        refine ry_step rfl rfl ?_
        refine ry_br hf (fun hc hf => ?_) (fun hc hf => ?_)
        · iterate 2 (refine ry_step rfl rfl ?_)
          refine ry_sub [1, 2, 3, 0] rfl rfl ?_
          exact ih.2.1 l1 l2 (l3 + (Int32.ofInt (-1))) S hf _
        · iterate 3 (refine ry_step rfl rfl ?_)
          refine ry_br hf (fun hc hf => ?_) (fun hc hf => ?_)
          · iterate 4 (refine ry_step rfl rfl ?_)
            refine ry_sub [2, 3, 1, 0] rfl rfl ?_
            exact ih.2.1 l1 l3 (l3 + (Int32.ofInt (-1))) S hf _
          · iterate 3 (refine ry_step rfl rfl ?_)
            obtain ⟨u5, hv4, hf⟩ := Option.bind_eq_some_iff.mp hf
            refine ry_call rfl rfl rfl rfl rfl (tX12_firstVotes hv4) ?_
            iterate 3 (refine ry_step rfl rfl ?_)
            obtain ⟨u7, hv6, hf⟩ := Option.bind_eq_some_iff.mp hf
            refine ry_call rfl rfl rfl rfl rfl (tX12_firstVotes hv6) ?_
            refine ry_step rfl rfl ?_
            refine ry_br hf (fun hc hf => ?_) (fun hc hf => ?_)
            · iterate 2 (refine ry_step rfl rfl ?_)
              refine ry_sub [1, 2, 3, 0] rfl rfl ?_
              exact ih.2.1 l1 l2 (l3 + (Int32.ofInt (-1))) S hf _
            · iterate 4 (refine ry_step rfl rfl ?_)
              refine ry_sub [2, 3, 1, 0] rfl rfl ?_
              exact ih.2.1 l1 l3 (l3 + (Int32.ofInt (-1))) S hf _
    · intro l1 l2 l3 S q hf z
      unfold lX12_runoff at hf
      rw [if_neg (by decide)] at hf; rw [if_neg (by decide)] at hf; skip
      iterate 2 (refine ry_step rfl rfl ?_)
      refine ry_call rfl rfl rfl rfl rfl tX12_has ?_
      refine ry_step rfl rfl ?_
      refine ry_br hf (fun hc hf => ?_) (fun hc hf => ?_)
      · refine ry_step rfl rfl ?_
        cases hf
        exact ry_ret rfl rfl
      · iterate 2 (refine ry_step rfl rfl ?_)
        refine ry_sub [1, 0] rfl rfl ?_
        exact ih.2.2 l1 (l2 + (Int32.ofInt 1)) 0 S hf _
def fX12_runoff (N : Nat) (S : yS) : Option Int32 := lX12_runoff N N 0 (Int32.ofInt 15) 0 0 S
set_option maxRecDepth 4000 in
theorem tX12_runoff {ro : xRo} {T : yK} {S : yS} {d N : Nat} {q : Int32} (hf : fX12_runoff N  S = some q) : yEv ro xNo (yKx T) (d + 5) jX12_runoff [.ref 265] S (some (.int q)) S := by
  refine ry_meth pX12_runoff rfl (fun z => ?_)
  unfold fX12_runoff at hf
  iterate 2 (refine ry_step rfl rfl ?_)
  refine ry_sub [1, 0] rfl rfl ?_
  exact (uX12_runoff (ro := ro) _).1 (Int32.ofInt 15) 0 0 S hf _
