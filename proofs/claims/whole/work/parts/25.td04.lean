/-! ===== methods as functions, and their walks, by program ===== -/
def lX12_keep (N : Nat) : Nat → Nat → Int32 → Int32 → yS → Option yS
  | 0, _, _, _, _ => none
  | n + 1, m, l1, l2, S => if m = 0 then (if (Int32.ofInt 1160) ≤ l1 then pSt (ySa S 266 (upd (S.2.2.1 266) 3 ((S.2.2.1 266 3) - (Int32.ofInt 1)))) fun S2 => pSt ((Int32.ofInt 113) + ((Int32.ofInt 40) * (S2.2.2.1 266 3))) fun w3 => lX12_keep N n 1 w3 (Int32.ofInt 0) S2 else (ain 1338 ((Int32.ofInt 153) + l1)).bind fun j4 => (ain 1338 ((Int32.ofInt 113) + l1)).bind fun j6 => pSt (ySa S 266 (upd (S.2.2.1 266) j6 (S.2.2.1 266 j4))) fun S5 => lX12_keep N n 0 (l1 + (Int32.ofInt 1)) 0 S5) else if m = 1 then (if (Int32.ofInt 15) ≤ l2 then lX12_keep N n 2 l1 (Int32.ofInt 0) S else (ain 1338 ((Int32.ofInt 6) + l2)).bind fun j7 => (ain 1338 (l1 + l2)).bind fun j9 => pSt (ySa S 266 (upd (S.2.2.1 266) j9 (S.2.2.1 266 j7))) fun S8 => lX12_keep N n 1 l1 (l2 + (Int32.ofInt 1)) S8) else (if (Int32.ofInt 25) ≤ l2 then pSt (ySa S 266 (upd (S.2.2.1 266) 3 ((S.2.2.1 266 3) + (Int32.ofInt 1)))) fun S10 => some S10 else (ain 1338 ((Int32.ofInt 1313) + l2)).bind fun j11 => (ain 1338 ((l1 + (Int32.ofInt 15)) + l2)).bind fun j13 => pSt (ySa S 266 (upd (S.2.2.1 266) j13 (S.2.2.1 266 j11))) fun S12 => lX12_keep N n 2 l1 (l2 + (Int32.ofInt 1)) S12)
set_option maxRecDepth 4000 in
theorem uX12_keep {ro : xRo} {T : yK} {d N : Nat} : ∀ n : Nat, (∀ (l1 : Int32) (l2 : Int32) (S : yS) {S' : yS}, lX12_keep N n 0 l1 l2 S = some S' → ∀ z, Ry ro xNo (yKx T) z (d + 0) mX12_keep 13 [(0, .ref 265), (1, .int l1)] [] S (none, yH (yKx T) z S')) ∧ (∀ (l1 : Int32) (l2 : Int32) (S : yS) {S' : yS}, lX12_keep N n 1 l1 l2 S = some S' → ∀ z, Ry ro xNo (yKx T) z (d + 0) mX12_keep 70 [(0, .ref 265), (1, .int l1), (2, .int l2)] [] S (none, yH (yKx T) z S')) ∧ (∀ (l1 : Int32) (l2 : Int32) (S : yS) {S' : yS}, lX12_keep N n 2 l1 l2 S = some S' → ∀ z, Ry ro xNo (yKx T) z (d + 0) mX12_keep 101 [(0, .ref 265), (1, .int l1), (2, .int l2)] [] S (none, yH (yKx T) z S')) := by
  intro n
  induction n with
  | zero => exact ⟨(by intro _ _ _ _ hf; cases hf), (by intro _ _ _ _ hf; cases hf), (by intro _ _ _ _ hf; cases hf)⟩
  | succ n ih =>
    refine ⟨?_, ?_, ?_⟩
    · intro l1 l2 S S' hf z
      unfold lX12_keep at hf
      rw [if_pos rfl] at hf
      iterate 3 (refine ry_step rfl rfl ?_)
      refine ry_br hf (fun hc hf => ?_) (fun hc hf => ?_)
      · iterate 7 (refine ry_step rfl rfl ?_)
        refine ry_stepS hf rfl rfl (fun S2 hf => ?_)
        iterate 8 (refine ry_step rfl rfl ?_)
        refine ry_nmi hf (fun w3 hf => ?_)
        iterate 3 (refine ry_step rfl rfl ?_)
        refine ry_sub [2, 1, 0] rfl rfl ?_
        exact ih.2.1 w3 (Int32.ofInt 0) S2 hf _
      · iterate 10 (refine ry_step rfl rfl ?_)
        refine ry_iald hf rfl rfl rfl (fun j4 hf => ?_)
        refine ry_iast hf rfl rfl (fun j6 S5 hf => ?_)
        iterate 2 (refine ry_step rfl rfl ?_)
        refine ry_sub [1, 0] rfl rfl ?_
        exact ih.1 (l1 + (Int32.ofInt 1)) 0 S5 hf _
    · intro l1 l2 S S' hf z
      unfold lX12_keep at hf
      rw [if_neg (by decide)] at hf; rw [if_pos rfl] at hf
      iterate 3 (refine ry_step rfl rfl ?_)
      refine ry_br hf (fun hc hf => ?_) (fun hc hf => ?_)
      · iterate 2 (refine ry_step rfl rfl ?_)
        refine ry_sub [1, 2, 0] rfl rfl ?_
        exact ih.2.2 l1 (Int32.ofInt 0) S hf _
      · iterate 10 (refine ry_step rfl rfl ?_)
        refine ry_iald hf rfl rfl rfl (fun j7 hf => ?_)
        refine ry_iast hf rfl rfl (fun j9 S8 hf => ?_)
        iterate 2 (refine ry_step rfl rfl ?_)
        refine ry_sub [1, 2, 0] rfl rfl ?_
        exact ih.2.1 l1 (l2 + (Int32.ofInt 1)) S8 hf _
    · intro l1 l2 S S' hf z
      unfold lX12_keep at hf
      rw [if_neg (by decide)] at hf; rw [if_neg (by decide)] at hf; skip
      iterate 3 (refine ry_step rfl rfl ?_)
      refine ry_br hf (fun hc hf => ?_) (fun hc hf => ?_)
      · iterate 7 (refine ry_step rfl rfl ?_)
        refine ry_stepS hf rfl rfl (fun S10 hf => ?_)
        cases hf
        exact ry_ret rfl rfl
      · iterate 12 (refine ry_step rfl rfl ?_)
        refine ry_iald hf rfl rfl rfl (fun j11 hf => ?_)
        refine ry_iast hf rfl rfl (fun j13 S12 hf => ?_)
        iterate 2 (refine ry_step rfl rfl ?_)
        refine ry_sub [1, 2, 0] rfl rfl ?_
        exact ih.2.2 l1 (l2 + (Int32.ofInt 1)) S12 hf _
def fX12_keep (N : Nat) (S : yS) : Option yS := (if ¬ (S.2.2.1 266 3) = (Int32.ofInt 30) then pSt ((Int32.ofInt 113) + ((Int32.ofInt 40) * (S.2.2.1 266 3))) fun w1 => lX12_keep N N 1 w1 (Int32.ofInt 0) S else lX12_keep N N 0 (Int32.ofInt 0) 0 S)
set_option maxRecDepth 4000 in
theorem tX12_keep {ro : xRo} {T : yK} {S : yS} {d N : Nat} {S' : yS} (hf : fX12_keep N  S = some S') : yEv ro xNo (yKx T) (d + 1) jX12_keep [.ref 265] S (none) S' := by
  refine ry_meth pX12_keep rfl (fun z => ?_)
  unfold fX12_keep at hf
  iterate 6 (refine ry_step rfl rfl ?_)
  refine ry_br hf (fun hc hf => ?_) (fun hc hf => ?_)
  · iterate 8 (refine ry_step rfl rfl ?_)
    refine ry_nmi hf (fun w1 hf => ?_)
    iterate 3 (refine ry_step rfl rfl ?_)
    refine ry_sub [2, 1, 0] rfl rfl ?_
    exact (uX12_keep (ro := ro) _).2.1 w1 (Int32.ofInt 0) S hf _
  · iterate 2 (refine ry_step rfl rfl ?_)
    refine ry_sub [1, 0] rfl rfl ?_
    exact (uX12_keep (ro := ro) _).1 (Int32.ofInt 0) 0 S hf _
def lX12_undo (N : Nat) : Nat → Nat → Int32 → Int32 → yS → Option (Int32 × yS)
  | 0, _, _, _, _ => none
  | n + 1, m, l1, l2, S => if m = 0 then (if (Int32.ofInt 15) ≤ l2 then lX12_undo N n 1 l1 (Int32.ofInt 0) S else (ain 1338 (l1 + l2)).bind fun j3 => (ain 1338 ((Int32.ofInt 6) + l2)).bind fun j5 => pSt (ySa S 266 (upd (S.2.2.1 266) j5 (S.2.2.1 266 j3))) fun S4 => lX12_undo N n 0 l1 (l2 + (Int32.ofInt 1)) S4) else (if (Int32.ofInt 25) ≤ l2 then some ((S.2.2.1 266 3), S) else (ain 1338 ((l1 + (Int32.ofInt 15)) + l2)).bind fun j6 => (ain 1338 ((Int32.ofInt 1313) + l2)).bind fun j8 => pSt (ySa S 266 (upd (S.2.2.1 266) j8 (S.2.2.1 266 j6))) fun S7 => lX12_undo N n 1 l1 (l2 + (Int32.ofInt 1)) S7)
set_option maxRecDepth 4000 in
theorem uX12_undo {ro : xRo} {T : yK} {d N : Nat} : ∀ n : Nat, (∀ (l1 : Int32) (l2 : Int32) (S : yS) {q : Int32} {S' : yS}, lX12_undo N n 0 l1 l2 S = some (q, S') → ∀ z, Ry ro xNo (yKx T) z (d + 0) mX12_undo 36 [(0, .ref 265), (1, .int l1), (2, .int l2)] [] S (some (.int q), yH (yKx T) z S')) ∧ (∀ (l1 : Int32) (l2 : Int32) (S : yS) {q : Int32} {S' : yS}, lX12_undo N n 1 l1 l2 S = some (q, S') → ∀ z, Ry ro xNo (yKx T) z (d + 0) mX12_undo 67 [(0, .ref 265), (1, .int l1), (2, .int l2)] [] S (some (.int q), yH (yKx T) z S')) := by
  intro n
  induction n with
  | zero => exact ⟨(by intro _ _ _ _ _ hf; cases hf), (by intro _ _ _ _ _ hf; cases hf)⟩
  | succ n ih =>
    refine ⟨?_, ?_⟩
    · intro l1 l2 S q S' hf z
      unfold lX12_undo at hf
      rw [if_pos rfl] at hf
      iterate 3 (refine ry_step rfl rfl ?_)
      refine ry_br hf (fun hc hf => ?_) (fun hc hf => ?_)
      · iterate 2 (refine ry_step rfl rfl ?_)
        refine ry_sub [1, 2, 0] rfl rfl ?_
        exact ih.2 l1 (Int32.ofInt 0) S hf _
      · iterate 10 (refine ry_step rfl rfl ?_)
        refine ry_iald hf rfl rfl rfl (fun j3 hf => ?_)
        refine ry_iast hf rfl rfl (fun j5 S4 hf => ?_)
        iterate 2 (refine ry_step rfl rfl ?_)
        refine ry_sub [1, 2, 0] rfl rfl ?_
        exact ih.1 l1 (l2 + (Int32.ofInt 1)) S4 hf _
    · intro l1 l2 S q S' hf z
      unfold lX12_undo at hf
      rw [if_neg (by decide)] at hf; skip
      iterate 3 (refine ry_step rfl rfl ?_)
      refine ry_br hf (fun hc hf => ?_) (fun hc hf => ?_)
      · iterate 4 (refine ry_step rfl rfl ?_)
        cases hf
        exact ry_ret rfl rfl
      · iterate 12 (refine ry_step rfl rfl ?_)
        refine ry_iald hf rfl rfl rfl (fun j6 hf => ?_)
        refine ry_iast hf rfl rfl (fun j8 S7 hf => ?_)
        iterate 2 (refine ry_step rfl rfl ?_)
        refine ry_sub [1, 2, 0] rfl rfl ?_
        exact ih.2 l1 (l2 + (Int32.ofInt 1)) S7 hf _
def fX12_undo (N : Nat) (S : yS) : Option (Int32 × yS) := (if ¬ (S.2.2.1 266 3) = 0 then pSt (ySa S 266 (upd (S.2.2.1 266) 3 ((S.2.2.1 266 3) - (Int32.ofInt 1)))) fun S1 => pSt ((Int32.ofInt 113) + ((Int32.ofInt 40) * (S1.2.2.1 266 3))) fun w2 => lX12_undo N N 0 w2 (Int32.ofInt 0) S1 else some ((Int32.ofInt (-1)), S))
set_option maxRecDepth 4000 in
theorem tX12_undo {ro : xRo} {T : yK} {S : yS} {d N : Nat} {q : Int32} {S' : yS} (hf : fX12_undo N  S = some (q, S')) : yEv ro xNo (yKx T) (d + 1) jX12_undo [.ref 265] S (some (.int q)) S' := by
  refine ry_meth pX12_undo rfl (fun z => ?_)
  unfold fX12_undo at hf
  iterate 5 (refine ry_step rfl rfl ?_)
  refine ry_br hf (fun hc hf => ?_) (fun hc hf => ?_)
  · iterate 7 (refine ry_step rfl rfl ?_)
    refine ry_stepS hf rfl rfl (fun S1 hf => ?_)
    iterate 8 (refine ry_step rfl rfl ?_)
    refine ry_nmi hf (fun w2 hf => ?_)
    iterate 3 (refine ry_step rfl rfl ?_)
    refine ry_sub [2, 1, 0] rfl rfl ?_
    exact (uX12_undo (ro := ro) _).1 w2 (Int32.ofInt 0) S1 hf _
  · refine ry_step rfl rfl ?_
    cases hf
    exact ry_ret rfl rfl
def fX12_thin (N : Nat) (v0 : Int32) (S : yS) : Option (Int32 × yS) := (fX12_isBird v0 S).bind fun u2 => (if u2 = 0 then some ((Int32.ofInt 0), S) else (fX12_isGone v0 S).bind fun u4 => (if u4 = 0 then (fX12_keep N  S).bind fun S6 => pSt (ySa S6 266 (upd (S6.2.2.1 266) 12 ((S6.2.2.1 266 12) ||| ((Int32.ofInt 1) <<< (v0 &&& 31))))) fun S7 => some ((Int32.ofInt 1), S7) else some ((Int32.ofInt 0), S)))
set_option maxRecDepth 4000 in
theorem tX12_thin {ro : xRo} {T : yK} {S : yS} {d N : Nat} {v0 : Int32} {q : Int32} {S' : yS} (hf : fX12_thin N v0 S = some (q, S')) : yEv ro xNo (yKx T) (d + 3) jX12_thin [.ref 265, .int v0] S (some (.int q)) S' := by
  refine ry_meth pX12_thin rfl (fun z => ?_)
  unfold fX12_thin at hf
  iterate 2 (refine ry_step rfl rfl ?_)
  obtain ⟨u2, hv1, hf⟩ := Option.bind_eq_some_iff.mp hf
  refine ry_call rfl rfl rfl rfl rfl (tX12_isBird hv1) ?_
  refine ry_step rfl rfl ?_
  refine ry_br hf (fun hc hf => ?_) (fun hc hf => ?_)
  · refine ry_step rfl rfl ?_
    cases hf
    exact ry_ret rfl rfl
  · iterate 2 (refine ry_step rfl rfl ?_)
    obtain ⟨u4, hv3, hf⟩ := Option.bind_eq_some_iff.mp hf
    refine ry_call rfl rfl rfl rfl rfl (tX12_isGone hv3) ?_
    refine ry_step rfl rfl ?_
    refine ry_br hf (fun hc hf => ?_) (fun hc hf => ?_)
    · refine ry_step rfl rfl ?_
      obtain ⟨S6, hv5, hf⟩ := Option.bind_eq_some_iff.mp hf
      refine ry_call rfl rfl rfl rfl rfl (tX12_keep hv5) ?_
      iterate 9 (refine ry_step rfl rfl ?_)
      refine ry_stepS hf rfl rfl (fun S7 hf => ?_)
      refine ry_step rfl rfl ?_
      cases hf
      exact ry_ret rfl rfl
    · refine ry_step rfl rfl ?_
      cases hf
      exact ry_ret rfl rfl
def fX12_call (N : Nat) (v0 : Int32) (S : yS) : Option (Int32 × yS) := (fX12_isBird v0 S).bind fun u2 => (if u2 = 0 then some ((Int32.ofInt 0), S) else (fX12_isGone v0 S).bind fun u4 => (if ¬ u4 = 0 then (fX12_keep N  S).bind fun S6 => pSt (ySa S6 266 (upd (S6.2.2.1 266) 12 ((S6.2.2.1 266 12) ^^^ ((Int32.ofInt 1) <<< (v0 &&& 31))))) fun S7 => some ((Int32.ofInt 1), S7) else some ((Int32.ofInt 0), S)))
set_option maxRecDepth 4000 in
theorem tX12_call {ro : xRo} {T : yK} {S : yS} {d N : Nat} {v0 : Int32} {q : Int32} {S' : yS} (hf : fX12_call N v0 S = some (q, S')) : yEv ro xNo (yKx T) (d + 3) jX12_call [.ref 265, .int v0] S (some (.int q)) S' := by
  refine ry_meth pX12_call rfl (fun z => ?_)
  unfold fX12_call at hf
  iterate 2 (refine ry_step rfl rfl ?_)
  obtain ⟨u2, hv1, hf⟩ := Option.bind_eq_some_iff.mp hf
  refine ry_call rfl rfl rfl rfl rfl (tX12_isBird hv1) ?_
  refine ry_step rfl rfl ?_
  refine ry_br hf (fun hc hf => ?_) (fun hc hf => ?_)
  · refine ry_step rfl rfl ?_
    cases hf
    exact ry_ret rfl rfl
  · iterate 2 (refine ry_step rfl rfl ?_)
    obtain ⟨u4, hv3, hf⟩ := Option.bind_eq_some_iff.mp hf
    refine ry_call rfl rfl rfl rfl rfl (tX12_isGone hv3) ?_
    refine ry_step rfl rfl ?_
    refine ry_br hf (fun hc hf => ?_) (fun hc hf => ?_)
    · refine ry_step rfl rfl ?_
      obtain ⟨S6, hv5, hf⟩ := Option.bind_eq_some_iff.mp hf
      refine ry_call rfl rfl rfl rfl rfl (tX12_keep hv5) ?_
      iterate 9 (refine ry_step rfl rfl ?_)
      refine ry_stepS hf rfl rfl (fun S7 hf => ?_)
      refine ry_step rfl rfl ?_
      cases hf
      exact ry_ret rfl rfl
    · refine ry_step rfl rfl ?_
      cases hf
      exact ry_ret rfl rfl
def fX12_grant (N : Nat) (v0 : Int32) (S : yS) : Option (Int32 × yS) := (fX12_canGrant v0 S).bind fun u2 => (if ¬ u2 = 0 then (fX12_keep N  S).bind fun S4 => pSt (ySa S4 266 (upd (S4.2.2.1 266) 8 ((S4.2.2.1 266 8) + v0))) fun S5 => some ((Int32.ofInt 1), S5) else some ((Int32.ofInt 0), S))
set_option maxRecDepth 4000 in
theorem tX12_grant {ro : xRo} {T : yK} {S : yS} {d N : Nat} {v0 : Int32} {q : Int32} {S' : yS} (hf : fX12_grant N v0 S = some (q, S')) : yEv ro xNo (yKx T) (d + 3) jX12_grant [.ref 265, .int v0] S (some (.int q)) S' := by
  refine ry_meth pX12_grant rfl (fun z => ?_)
  unfold fX12_grant at hf
  iterate 2 (refine ry_step rfl rfl ?_)
  obtain ⟨u2, hv1, hf⟩ := Option.bind_eq_some_iff.mp hf
  refine ry_call rfl rfl rfl rfl rfl (tX12_canGrant hv1) ?_
  refine ry_step rfl rfl ?_
  refine ry_br hf (fun hc hf => ?_) (fun hc hf => ?_)
  · refine ry_step rfl rfl ?_
    obtain ⟨S4, hv3, hf⟩ := Option.bind_eq_some_iff.mp hf
    refine ry_call rfl rfl rfl rfl rfl (tX12_keep hv3) ?_
    iterate 7 (refine ry_step rfl rfl ?_)
    refine ry_stepS hf rfl rfl (fun S5 hf => ?_)
    refine ry_step rfl rfl ?_
    cases hf
    exact ry_ret rfl rfl
  · refine ry_step rfl rfl ?_
    cases hf
    exact ry_ret rfl rfl
def fX12_of (N : Nat) (v0 : Int32) (v1 : Int32) (S : yS) : Option (Int32 × yS) := (fX12_isBird v0 S).bind fun u2 => (if ¬ u2 = 0 then (if v1 = (Int32.ofInt 0) then (ain 1338 ((Int32.ofInt 21) + v0)).bind fun j11 => some ((S.2.2.1 266 j11), S) else (if v1 = (Int32.ofInt 1) then (ain 1338 ((Int32.ofInt 29) + v0)).bind fun j10 => some ((S.2.2.1 266 j10), S) else (if v1 = (Int32.ofInt 2) then (ain 1338 ((Int32.ofInt 37) + v0)).bind fun j9 => some ((S.2.2.1 266 j9), S) else (if v1 = (Int32.ofInt 3) then (fX12_isGone v0 S).bind fun u8 => (if u8 = 0 then some ((Int32.ofInt 0), S) else some ((Int32.ofInt 1), S)) else (if v1 = (Int32.ofInt 4) then (ain 1338 ((Int32.ofInt 13) + v0)).bind fun j6 => some ((S.2.2.1 266 j6), S) else (if v1 = (Int32.ofInt 5) then (fX12_chanceOf N v0 S).bind fun (u5, S4) => some (u5, S4) else some ((Int32.ofInt (-1)), S))))))) else some ((Int32.ofInt (-1)), S))
set_option maxRecDepth 4000 in
theorem tX12_of {ro : xRo} {T : yK} {S : yS} {d N : Nat} {v0 : Int32} {v1 : Int32} {q : Int32} {S' : yS} (hf : fX12_of N v0 v1 S = some (q, S')) : yEv ro xNo (yKx T) (d + 6) jX12_of [.ref 265, .int v0, .int v1] S (some (.int q)) S' := by
  refine ry_meth pX12_of rfl (fun z => ?_)
  unfold fX12_of at hf
  iterate 2 (refine ry_step rfl rfl ?_)
  obtain ⟨u2, hv1, hf⟩ := Option.bind_eq_some_iff.mp hf
  refine ry_call rfl rfl rfl rfl rfl (tX12_isBird hv1) ?_
  refine ry_step rfl rfl ?_
  refine ry_br hf (fun hc hf => ?_) (fun hc hf => ?_)
  · refine ry_step rfl rfl ?_
    refine ry_sw hf (fun hf => ?_) (fun n0 hf => ?_)
    · iterate 6 (refine ry_step rfl rfl ?_)
      refine ry_iald hf rfl rfl rfl (fun j11 hf => ?_)
      cases hf
      exact ry_ret rfl rfl
    · refine ry_sw hf (fun hf => ?_) (fun n1 hf => ?_)
      · iterate 6 (refine ry_step rfl rfl ?_)
        refine ry_iald hf rfl rfl rfl (fun j10 hf => ?_)
        cases hf
        exact ry_ret rfl rfl
      · refine ry_sw hf (fun hf => ?_) (fun n2 hf => ?_)
        · iterate 6 (refine ry_step rfl rfl ?_)
          refine ry_iald hf rfl rfl rfl (fun j9 hf => ?_)
          cases hf
          exact ry_ret rfl rfl
        · refine ry_sw hf (fun hf => ?_) (fun n3 hf => ?_)
          · iterate 3 (refine ry_step rfl rfl ?_)
            obtain ⟨u8, hv7, hf⟩ := Option.bind_eq_some_iff.mp hf
            refine ry_call rfl rfl rfl rfl rfl (tX12_isGone hv7) ?_
            refine ry_step rfl rfl ?_
            refine ry_br hf (fun hc hf => ?_) (fun hc hf => ?_)
            · refine ry_step rfl rfl ?_
              cases hf
              exact ry_ret rfl rfl
            · iterate 2 (refine ry_step rfl rfl ?_)
              cases hf
              exact ry_ret rfl rfl
          · refine ry_sw hf (fun hf => ?_) (fun n4 hf => ?_)
            · iterate 6 (refine ry_step rfl rfl ?_)
              refine ry_iald hf rfl rfl rfl (fun j6 hf => ?_)
              cases hf
              exact ry_ret rfl rfl
            · refine ry_sw hf (fun hf => ?_) (fun n5 hf => ?_)
              · iterate 3 (refine ry_step rfl rfl ?_)
                obtain ⟨⟨u5, S4⟩, hv3, hf⟩ := Option.bind_eq_some_iff.mp hf
                dsimp only at hf
                refine ry_call rfl rfl rfl rfl rfl (tX12_chanceOf hv3) ?_
                cases hf
                exact ry_ret rfl rfl
              · have m0 := xne_toInt (k := 0) rfl n0
                have m1 := xne_toInt (k := 1) rfl n1
                have m2 := xne_toInt (k := 2) rfl n2
                have m3 := xne_toInt (k := 3) rfl n3
                have m4 := xne_toInt (k := 4) rfl n4
                have m5 := xne_toInt (k := 5) rfl n5
                refine ry_tb rfl (by omega) ?_
                refine ry_step rfl rfl ?_
                cases hf
                exact ry_ret rfl rfl
  · refine ry_step rfl rfl ?_
    cases hf
    exact ry_ret rfl rfl
def fX12_is (v0 : Int32) (S : yS) : Option Int32 := (if (fX12_isIn v0 (Int32.ofInt 0) (Int32.ofInt 4)) = 0 then some (Int32.ofInt (-100000)) else (ain 1338 ((Int32.ofInt 6) + v0)).bind fun j1 => some (S.2.2.1 266 j1))
set_option maxRecDepth 4000 in
theorem tX12_is {ro : xRo} {T : yK} {S : yS} {d : Nat} {v0 : Int32} {q : Int32} (hf : fX12_is v0 S = some q) : yEv ro xNo (yKx T) (d + 2) jX12_is [.ref 265, .int v0] S (some (.int q)) S := by
  refine ry_meth pX12_is rfl (fun z => ?_)
  unfold fX12_is at hf
  iterate 3 (refine ry_step rfl rfl ?_)
  refine ry_call rfl rfl rfl rfl rfl tX12_isIn ?_
  refine ry_step rfl rfl ?_
  refine ry_br hf (fun hc hf => ?_) (fun hc hf => ?_)
  · refine ry_step rfl rfl ?_
    cases hf
    exact ry_ret rfl rfl
  · iterate 5 (refine ry_step rfl rfl ?_)
    refine ry_iald hf rfl rfl rfl (fun j1 hf => ?_)
    refine ry_step rfl rfl ?_
    cases hf
    exact ry_ret rfl rfl
def fX12_things (v0 : Int32) (S : yS) : Option Int32 := (if (fX12_isCount v0) = 0 then some (Int32.ofInt (-1)) else (ain 1338 ((Int32.ofInt 45) + v0)).bind fun j1 => some (S.2.2.1 266 j1))
set_option maxRecDepth 4000 in
theorem tX12_things {ro : xRo} {T : yK} {S : yS} {d : Nat} {v0 : Int32} {q : Int32} (hf : fX12_things v0 S = some q) : yEv ro xNo (yKx T) (d + 3) jX12_things [.ref 265, .int v0] S (some (.int q)) S := by
  refine ry_meth pX12_things rfl (fun z => ?_)
  unfold fX12_things at hf
  refine ry_step rfl rfl ?_
  refine ry_call rfl rfl rfl rfl rfl tX12_isCount ?_
  refine ry_step rfl rfl ?_
  refine ry_br hf (fun hc hf => ?_) (fun hc hf => ?_)
  · refine ry_step rfl rfl ?_
    cases hf
    exact ry_ret rfl rfl
  · iterate 5 (refine ry_step rfl rfl ?_)
    refine ry_iald hf rfl rfl rfl (fun j1 hf => ?_)
    refine ry_step rfl rfl ?_
    cases hf
    exact ry_ret rfl rfl
def fX12_brings (N : Nat) (v0 : Int32) (S : yS) : Option (Int32 × yS) := (if (fX12_isCount v0) = 0 then some ((Int32.ofInt (-1000)), S) else (fX12_bringsOf N (S.2.2.1 266 2) v0 S).bind fun (u3, S2) => some (u3, S2))
set_option maxRecDepth 4000 in
theorem tX12_brings {ro : xRo} {T : yK} {S : yS} {d N : Nat} {v0 : Int32} {q : Int32} {S' : yS} (hf : fX12_brings N v0 S = some (q, S')) : yEv ro xNo (yKx T) (d + 6) jX12_brings [.ref 265, .int v0] S (some (.int q)) S' := by
  refine ry_meth pX12_brings rfl (fun z => ?_)
  unfold fX12_brings at hf
  refine ry_step rfl rfl ?_
  refine ry_call rfl rfl rfl rfl rfl tX12_isCount ?_
  refine ry_step rfl rfl ?_
  refine ry_br hf (fun hc hf => ?_) (fun hc hf => ?_)
  · refine ry_step rfl rfl ?_
    cases hf
    exact ry_ret rfl rfl
  · iterate 6 (refine ry_step rfl rfl ?_)
    obtain ⟨⟨u3, S2⟩, hv1, hf⟩ := Option.bind_eq_some_iff.mp hf
    dsimp only at hf
    refine ry_call rfl rfl rfl rfl rfl (tX12_bringsOf hv1) ?_
    refine ry_step rfl rfl ?_
    cases hf
    exact ry_ret rfl rfl
def fX12_lineOf (v0 : Int32) (v1 : Int32) (S : yS) : Option Int32 := (ain 1338 ((Int32.ofInt 1313) + v0)).bind fun j1 => (if ¬ v1 = 0 then (if ¬ v1 = (Int32.ofInt 1) then (if ¬ v1 = (Int32.ofInt 2) then some (((S.2.2.1 266 j1) - (S.2.2.1 266 j1) / (Int32.ofInt 200) * (Int32.ofInt 200)) - (Int32.ofInt 100)) else some (((S.2.2.1 266 j1) / (Int32.ofInt 200)) - ((S.2.2.1 266 j1) / (Int32.ofInt 200)) / (Int32.ofInt 10) * (Int32.ofInt 10))) else some (((S.2.2.1 266 j1) / (Int32.ofInt 2000)) - ((S.2.2.1 266 j1) / (Int32.ofInt 2000)) / (Int32.ofInt 9) * (Int32.ofInt 9))) else some ((S.2.2.1 266 j1) / (Int32.ofInt 18000)))
set_option maxRecDepth 4000 in
theorem tX12_lineOf {ro : xRo} {T : yK} {S : yS} {d : Nat} {v0 : Int32} {v1 : Int32} {q : Int32} (hf : fX12_lineOf v0 v1 S = some q) : yEv ro xNo (yKx T) (d + 1) jX12_lineOf [.ref 265, .int v0, .int v1] S (some (.int q)) S := by
  refine ry_meth pX12_lineOf rfl (fun z => ?_)
  unfold fX12_lineOf at hf
  iterate 5 (refine ry_step rfl rfl ?_)
  refine ry_iald hf rfl rfl rfl (fun j1 hf => ?_)
  iterate 3 (refine ry_step rfl rfl ?_)
  refine ry_br hf (fun hc hf => ?_) (fun hc hf => ?_)
  · iterate 3 (refine ry_step rfl rfl ?_)
    refine ry_br hf (fun hc hf => ?_) (fun hc hf => ?_)
    · iterate 3 (refine ry_step rfl rfl ?_)
      refine ry_br hf (fun hc hf => ?_) (fun hc hf => ?_)
      · iterate 5 (refine ry_step rfl rfl ?_)
        cases hf
        exact ry_ret rfl rfl
      · iterate 6 (refine ry_step rfl rfl ?_)
        cases hf
        exact ry_ret rfl rfl
    · iterate 6 (refine ry_step rfl rfl ?_)
      cases hf
      exact ry_ret rfl rfl
  · iterate 4 (refine ry_step rfl rfl ?_)
    cases hf
    exact ry_ret rfl rfl
def fX12_book (v0 : Int32) (v1 : Int32) (S : yS) : Option Int32 := (if ¬ v0 = (Int32.ofInt (-1)) then (if (fX12_isIn v0 (Int32.ofInt 0) ((S.2.2.1 266 11) - (Int32.ofInt 1))) = 0 then some (Int32.ofInt (-1000)) else (if (fX12_isIn v1 (Int32.ofInt 0) (Int32.ofInt 3)) = 0 then some (Int32.ofInt (-1000)) else (fX12_lineOf v0 v1 S).bind fun u2 => some u2)) else some (S.2.2.1 266 11))
set_option maxRecDepth 4000 in
theorem tX12_book {ro : xRo} {T : yK} {S : yS} {d : Nat} {v0 : Int32} {v1 : Int32} {q : Int32} (hf : fX12_book v0 v1 S = some q) : yEv ro xNo (yKx T) (d + 2) jX12_book [.ref 265, .int v0, .int v1] S (some (.int q)) S := by
  refine ry_meth pX12_book rfl (fun z => ?_)
  unfold fX12_book at hf
  iterate 3 (refine ry_step rfl rfl ?_)
  refine ry_br hf (fun hc hf => ?_) (fun hc hf => ?_)
  · iterate 8 (refine ry_step rfl rfl ?_)
    refine ry_call rfl rfl rfl rfl rfl tX12_isIn ?_
    refine ry_step rfl rfl ?_
    refine ry_br hf (fun hc hf => ?_) (fun hc hf => ?_)
    · refine ry_step rfl rfl ?_
      cases hf
      exact ry_ret rfl rfl
    · iterate 3 (refine ry_step rfl rfl ?_)
      refine ry_call rfl rfl rfl rfl rfl tX12_isIn ?_
      refine ry_step rfl rfl ?_
      refine ry_br hf (fun hc hf => ?_) (fun hc hf => ?_)
      · refine ry_step rfl rfl ?_
        cases hf
        exact ry_ret rfl rfl
      · iterate 3 (refine ry_step rfl rfl ?_)
        obtain ⟨u2, hv1, hf⟩ := Option.bind_eq_some_iff.mp hf
        refine ry_call rfl rfl rfl rfl rfl (tX12_lineOf hv1) ?_
        refine ry_step rfl rfl ?_
        cases hf
        exact ry_ret rfl rfl
  · iterate 4 (refine ry_step rfl rfl ?_)
    cases hf
    exact ry_ret rfl rfl
def lX12_ledger (N : Nat) : Nat → Int32 → Int32 → Int32 → yS → Option Int32
  | 0, _, _, _, _ => none
  | n + 1, l1, l2, l3, S => (if (S.2.2.1 266 11) ≤ l3 then some l2 else (fX12_lineOf l3 (Int32.ofInt 2) S).bind fun u2 => (if ¬ u2 = l1 then lX12_ledger N n l1 (l2 + (Int32.ofInt 0)) (l3 + (Int32.ofInt 1)) S else lX12_ledger N n l1 (l2 + (Int32.ofInt 1)) (l3 + (Int32.ofInt 1)) S))
set_option maxRecDepth 4000 in
theorem uX12_ledger {ro : xRo} {T : yK} {d N : Nat} : ∀ n : Nat, (∀ (l1 : Int32) (l2 : Int32) (l3 : Int32) (S : yS) {q : Int32}, lX12_ledger N n l1 l2 l3 S = some q → ∀ z, Ry ro xNo (yKx T) z (d + 1) mX12_ledger 17 [(0, .ref 265), (1, .int l1), (2, .int l2), (3, .int l3)] [] S (some (.int q), yH (yKx T) z S)) := by
  intro n
  induction n with
  | zero => exact (by intro _ _ _ _ _ hf; cases hf)
  | succ n ih =>
    intro l1 l2 l3 S q hf z
    unfold lX12_ledger at hf
    iterate 6 (refine ry_step rfl rfl ?_)
    refine ry_br hf (fun hc hf => ?_) (fun hc hf => ?_)
    · refine ry_step rfl rfl ?_
      cases hf
      exact ry_ret rfl rfl
    · iterate 4 (refine ry_step rfl rfl ?_)
      obtain ⟨u2, hv1, hf⟩ := Option.bind_eq_some_iff.mp hf
      refine ry_call rfl rfl rfl rfl rfl (tX12_lineOf hv1) ?_
      iterate 2 (refine ry_step rfl rfl ?_)
      refine ry_br hf (fun hc hf => ?_) (fun hc hf => ?_)
      · iterate 5 (refine ry_step rfl rfl ?_)
        refine ry_sub [2, 3, 1, 0] rfl rfl ?_
        exact ih l1 (l2 + (Int32.ofInt 0)) (l3 + (Int32.ofInt 1)) S hf _
      · iterate 6 (refine ry_step rfl rfl ?_)
        refine ry_sub [2, 3, 1, 0] rfl rfl ?_
        exact ih l1 (l2 + (Int32.ofInt 1)) (l3 + (Int32.ofInt 1)) S hf _
def fX12_ledger (N : Nat) (v0 : Int32) (S : yS) : Option Int32 := (if ¬ (fX12_isIn v0 (Int32.ofInt 0) (Int32.ofInt 9)) = 0 then lX12_ledger N N v0 (Int32.ofInt 0) (Int32.ofInt 0) S else some (Int32.ofInt (-2)))
set_option maxRecDepth 4000 in
theorem tX12_ledger {ro : xRo} {T : yK} {S : yS} {d N : Nat} {v0 : Int32} {q : Int32} (hf : fX12_ledger N v0 S = some q) : yEv ro xNo (yKx T) (d + 2) jX12_ledger [.ref 265, .int v0] S (some (.int q)) S := by
  refine ry_meth pX12_ledger rfl (fun z => ?_)
  unfold fX12_ledger at hf
  iterate 3 (refine ry_step rfl rfl ?_)
  refine ry_call rfl rfl rfl rfl rfl tX12_isIn ?_
  refine ry_step rfl rfl ?_
  refine ry_br hf (fun hc hf => ?_) (fun hc hf => ?_)
  · iterate 4 (refine ry_step rfl rfl ?_)
    refine ry_sub [2, 3, 1, 0] rfl rfl ?_
    exact uX12_ledger (ro := ro) _ v0 (Int32.ofInt 0) (Int32.ofInt 0) S hf _
  · refine ry_step rfl rfl ?_
    cases hf
    exact ry_ret rfl rfl
def lX12_eldest (N : Nat) : Nat → Int32 → Int32 → yS → Option Int32
  | 0, _, _, _ => none
  | n + 1, l1, l2, S => (if (S.2.2.1 266 0) ≤ l2 then some l1 else (ain 1338 ((Int32.ofInt 13) + l2)).bind fun j1 => (if ¬ l1 = (Int32.ofInt (-1)) then (ain 1338 ((Int32.ofInt 13) + l1)).bind fun j2 => (if (S.2.2.1 266 j1) ≤ (S.2.2.1 266 j2) then lX12_eldest N n l1 (l2 + (Int32.ofInt 1)) S else lX12_eldest N n l2 (l2 + (Int32.ofInt 1)) S) else (if (S.2.2.1 266 j1) ≤ (Int32.ofInt 0) then lX12_eldest N n l1 (l2 + (Int32.ofInt 1)) S else lX12_eldest N n l2 (l2 + (Int32.ofInt 1)) S)))
set_option maxRecDepth 4000 in
theorem uX12_eldest {ro : xRo} {T : yK} {d N : Nat} : ∀ n : Nat, (∀ (l1 : Int32) (l2 : Int32) (S : yS) {q : Int32}, lX12_eldest N n l1 l2 S = some q → ∀ z, Ry ro xNo (yKx T) z (d + 0) mX12_eldest 4 [(0, .ref 265), (1, .int l1), (2, .int l2)] [] S (some (.int q), yH (yKx T) z S)) := by
  intro n
  induction n with
  | zero => exact (by intro _ _ _ _ hf; cases hf)
  | succ n ih =>
    intro l1 l2 S q hf z
    unfold lX12_eldest at hf
    iterate 6 (refine ry_step rfl rfl ?_)
    refine ry_br hf (fun hc hf => ?_) (fun hc hf => ?_)
    · refine ry_step rfl rfl ?_
      cases hf
      exact ry_ret rfl rfl
    · iterate 5 (refine ry_step rfl rfl ?_)
      refine ry_iald hf rfl rfl rfl (fun j1 hf => ?_)
      iterate 3 (refine ry_step rfl rfl ?_)
      refine ry_br hf (fun hc hf => ?_) (fun hc hf => ?_)
      · iterate 5 (refine ry_step rfl rfl ?_)
        refine ry_iald hf rfl rfl rfl (fun j2 hf => ?_)
        refine ry_step rfl rfl ?_
        refine ry_br hf (fun hc hf => ?_) (fun hc hf => ?_)
        · iterate 2 (refine ry_step rfl rfl ?_)
          refine ry_sub [1, 2, 0] rfl rfl ?_
          exact ih l1 (l2 + (Int32.ofInt 1)) S hf _
        · iterate 4 (refine ry_step rfl rfl ?_)
          refine ry_sub [2, 1, 0] rfl rfl ?_
          exact ih l2 (l2 + (Int32.ofInt 1)) S hf _
      · iterate 3 (refine ry_step rfl rfl ?_)
        refine ry_br hf (fun hc hf => ?_) (fun hc hf => ?_)
        · iterate 2 (refine ry_step rfl rfl ?_)
          refine ry_sub [1, 2, 0] rfl rfl ?_
          exact ih l1 (l2 + (Int32.ofInt 1)) S hf _
        · iterate 4 (refine ry_step rfl rfl ?_)
          refine ry_sub [2, 1, 0] rfl rfl ?_
          exact ih l2 (l2 + (Int32.ofInt 1)) S hf _
def fX12_eldest (N : Nat) (S : yS) : Option Int32 := lX12_eldest N N (Int32.ofInt (-1)) (Int32.ofInt 0) S
set_option maxRecDepth 4000 in
theorem tX12_eldest {ro : xRo} {T : yK} {S : yS} {d N : Nat} {q : Int32} (hf : fX12_eldest N  S = some q) : yEv ro xNo (yKx T) (d + 1) jX12_eldest [.ref 265] S (some (.int q)) S := by
  refine ry_meth pX12_eldest rfl (fun z => ?_)
  unfold fX12_eldest at hf
  iterate 4 (refine ry_step rfl rfl ?_)
  refine ry_sub [2, 1, 0] rfl rfl ?_
  exact uX12_eldest (ro := ro) _ (Int32.ofInt (-1)) (Int32.ofInt 0) S hf _
def fX12_due (N : Nat) (S : yS) : Option Int32 := (fX12_dueNow N  S).bind fun u2 => some u2
set_option maxRecDepth 4000 in
theorem tX12_due {ro : xRo} {T : yK} {S : yS} {d N : Nat} {q : Int32} (hf : fX12_due N  S = some q) : yEv ro xNo (yKx T) (d + 6) jX12_due [.ref 265] S (some (.int q)) S := by
  refine ry_meth pX12_due rfl (fun z => ?_)
  unfold fX12_due at hf
  refine ry_step rfl rfl ?_
  obtain ⟨u2, hv1, hf⟩ := Option.bind_eq_some_iff.mp hf
  refine ry_call rfl rfl rfl rfl rfl (tX12_dueNow hv1) ?_
  cases hf
  exact ry_ret rfl rfl
def lX12_divisor (N : Nat) : Nat → Int64 → Int64 → yS → Option Int64
  | 0, _, _, _ => none
  | n + 1, l4, l6, S => (if (lg_cmp l6 (Int64.ofNat 0)) = 0 then some l4 else (if l6 = 0 then none else lX12_divisor N n l6 (l4 - l4 / l6 * l6) S))
set_option maxRecDepth 4000 in
theorem uX12_divisor {ro : xRo} {T : yK} {d N : Nat} : ∀ n : Nat, (∀ (l4 : Int64) (l6 : Int64) (S : yS) {q : Int64}, lX12_divisor N n l4 l6 S = some q → ∀ z, Ry ro xNo (yKx T) z (d + 0) mX12_divisor 6 [(4, .long l4), (6, .long l6)] [] S (some (.long q), yH (yKx T) z S)) := by
  intro n
  induction n with
  | zero => exact (by intro _ _ _ _ hf; cases hf)
  | succ n ih =>
    intro l4 l6 S q hf z
    unfold lX12_divisor at hf
    iterate 4 (refine ry_step rfl rfl ?_)
    refine ry_br hf (fun hc hf => ?_) (fun hc hf => ?_)
    · refine ry_step rfl rfl ?_
      cases hf
      exact ry_ret rfl rfl
    · iterate 2 (refine ry_step rfl rfl ?_)
      refine ry_lrem hf rfl (fun hf => ?_)
      iterate 6 (refine ry_step rfl rfl ?_)
      refine ry_sub [1, 0] rfl rfl ?_
      exact ih l6 (l4 - l4 / l6 * l6) S hf _
def fX12_divisor (N : Nat) (v0 : Int64) (v1 : Int64) (S : yS) : Option Int64 := lX12_divisor N N v0 v1 S
set_option maxRecDepth 4000 in
theorem tX12_divisor {ro : xRo} {T : yK} {S : yS} {d N : Nat} {v0 : Int64} {v1 : Int64} {q : Int64} (hf : fX12_divisor N v0 v1 S = some q) : yEv ro xNo (yKx T) (d + 1) jX12_divisor [.long v0, .long v1] S (some (.long q)) S := by
  refine ry_meth pX12_divisor rfl (fun z => ?_)
  unfold fX12_divisor at hf
  iterate 4 (refine ry_step rfl rfl ?_)
  refine ry_sub [1, 0] rfl rfl ?_
  exact uX12_divisor (ro := ro) _ v0 v1 S hf _
def fX12_part (N : Nat) (v0 : Int64) (v1 : Int64) (v2 : Int32) (S : yS) : Option Int64 := (if v2 = 0 then (fX12_divisor N v0 v1 S).bind fun u2 => (if u2 = 0 then none else some (v0 / u2)) else (fX12_divisor N v0 v1 S).bind fun u4 => (if u4 = 0 then none else some (v1 / u4)))
set_option maxRecDepth 4000 in
theorem tX12_part {ro : xRo} {T : yK} {S : yS} {d N : Nat} {v0 : Int64} {v1 : Int64} {v2 : Int32} {q : Int64} (hf : fX12_part N v0 v1 v2 S = some q) : yEv ro xNo (yKx T) (d + 2) jX12_part [.long v0, .long v1, .int v2] S (some (.long q)) S := by
  refine ry_meth pX12_part rfl (fun z => ?_)
  unfold fX12_part at hf
  iterate 2 (refine ry_step rfl rfl ?_)
  refine ry_br hf (fun hc hf => ?_) (fun hc hf => ?_)
  · iterate 3 (refine ry_step rfl rfl ?_)
    obtain ⟨u2, hv1, hf⟩ := Option.bind_eq_some_iff.mp hf
    refine ry_call rfl rfl rfl rfl rfl (tX12_divisor hv1) ?_
    refine ry_ldiv hf rfl (fun hf => ?_)
    cases hf
    exact ry_ret rfl rfl
  · iterate 4 (refine ry_step rfl rfl ?_)
    obtain ⟨u4, hv3, hf⟩ := Option.bind_eq_some_iff.mp hf
    refine ry_call rfl rfl rfl rfl rfl (tX12_divisor hv3) ?_
    refine ry_ldiv hf rfl (fun hf => ?_)
    cases hf
    exact ry_ret rfl rfl
def lX12_noRows (N : Nat) : Nat → Int32 → yS → Option yS
  | 0, _, _ => none
  | n + 1, l1, S => (if (Int32.ofInt 13) ≤ l1 then some S else (if ¬ l1 = 0 then (ain 13 l1).bind fun j2 => pSt (ySl S 275 (vp_updL (S.2.2.2.1 275) j2 (Int64.ofNat 0))) fun S1 => lX12_noRows N n (l1 + (Int32.ofInt 1)) S1 else (ain 13 l1).bind fun j4 => pSt (ySl S 275 (vp_updL (S.2.2.2.1 275) j4 (Int64.ofNat 1))) fun S3 => lX12_noRows N n (l1 + (Int32.ofInt 1)) S3))
set_option maxRecDepth 4000 in
theorem uX12_noRows {ro : xRo} {T : yK} {d N : Nat} : ∀ n : Nat, (∀ (l1 : Int32) (S : yS) {S' : yS}, lX12_noRows N n l1 S = some S' → ∀ z, Ry ro xNo (yKx T) z (d + 0) mX12_noRows 2 [(0, .ref 265), (1, .int l1)] [] S (none, yH (yKx T) z S')) := by
  intro n
  induction n with
  | zero => exact (by intro _ _ _ hf; cases hf)
  | succ n ih =>
    intro l1 S S' hf z
    unfold lX12_noRows at hf
    iterate 3 (refine ry_step rfl rfl ?_)
    refine ry_br hf (fun hc hf => ?_) (fun hc hf => ?_)
    · cases hf
      exact ry_ret rfl rfl
    · iterate 5 (refine ry_step rfl rfl ?_)
      refine ry_br hf (fun hc hf => ?_) (fun hc hf => ?_)
      · refine ry_step rfl rfl ?_
        refine ry_last hf rfl rfl (fun j2 S1 hf => ?_)
        iterate 2 (refine ry_step rfl rfl ?_)
        refine ry_sub [1, 0] rfl rfl ?_
        exact ih (l1 + (Int32.ofInt 1)) S1 hf _
      · iterate 2 (refine ry_step rfl rfl ?_)
        refine ry_last hf rfl rfl (fun j4 S3 hf => ?_)
        iterate 2 (refine ry_step rfl rfl ?_)
        refine ry_sub [1, 0] rfl rfl ?_
        exact ih (l1 + (Int32.ofInt 1)) S3 hf _
def fX12_noRows (N : Nat) (S : yS) : Option yS := lX12_noRows N N (Int32.ofInt 0) S
set_option maxRecDepth 4000 in
theorem tX12_noRows {ro : xRo} {T : yK} {S : yS} {d N : Nat} {S' : yS} (hf : fX12_noRows N  S = some S') : yEv ro xNo (yKx T) (d + 1) jX12_noRows [.ref 265] S (none) S' := by
  refine ry_meth pX12_noRows rfl (fun z => ?_)
  unfold fX12_noRows at hf
  iterate 2 (refine ry_step rfl rfl ?_)
  refine ry_sub [1, 0] rfl rfl ?_
  exact uX12_noRows (ro := ro) _ (Int32.ofInt 0) S hf _
def lX12_oneMore (N : Nat) : Nat → Int32 → Int32 → yS → Option yS
  | 0, _, _, _ => none
  | n + 1, l1, l2, S => (if l2 < 0 then some S else (ain 13 l2).bind fun j1 => (if l2 ≤ 0 then (ain 13 l2).bind fun j3 => pSt (ySl S 275 (vp_updL (S.2.2.2.1 275) j3 (((S.2.2.2.1 275 j1) * (Int32.toInt64 ((Int32.ofInt 10) - l1))) + (Int64.ofNat 0)))) fun S2 => lX12_oneMore N n l1 (l2 + (Int32.ofInt (-1))) S2 else (ain 13 (l2 - (Int32.ofInt 1))).bind fun j4 => (ain 13 l2).bind fun j6 => pSt (ySl S 275 (vp_updL (S.2.2.2.1 275) j6 (((S.2.2.2.1 275 j1) * (Int32.toInt64 ((Int32.ofInt 10) - l1))) + ((S.2.2.2.1 275 j4) * (Int32.toInt64 l1))))) fun S5 => lX12_oneMore N n l1 (l2 + (Int32.ofInt (-1))) S5))
set_option maxRecDepth 4000 in
theorem uX12_oneMore {ro : xRo} {T : yK} {d N : Nat} : ∀ n : Nat, (∀ (l1 : Int32) (l2 : Int32) (S : yS) {S' : yS}, lX12_oneMore N n l1 l2 S = some S' → ∀ z, Ry ro xNo (yKx T) z (d + 0) mX12_oneMore 3 [(0, .ref 265), (1, .int l1), (2, .int l2)] [] S (none, yH (yKx T) z S')) := by
  intro n
  induction n with
  | zero => exact (by intro _ _ _ _ hf; cases hf)
  | succ n ih =>
    intro l1 l2 S S' hf z
    unfold lX12_oneMore at hf
    iterate 2 (refine ry_step rfl rfl ?_)
    refine ry_br hf (fun hc hf => ?_) (fun hc hf => ?_)
    · cases hf
      exact ry_ret rfl rfl
    · iterate 6 (refine ry_step rfl rfl ?_)
      refine ry_lald hf rfl rfl (fun j1 hf => ?_)
      iterate 7 (refine ry_step rfl rfl ?_)
      refine ry_br hf (fun hc hf => ?_) (fun hc hf => ?_)
      · iterate 2 (refine ry_step rfl rfl ?_)
        refine ry_last hf rfl rfl (fun j3 S2 hf => ?_)
        iterate 2 (refine ry_step rfl rfl ?_)
        refine ry_sub [1, 2, 0] rfl rfl ?_
        exact ih l1 (l2 + (Int32.ofInt (-1))) S2 hf _
      · iterate 5 (refine ry_step rfl rfl ?_)
        refine ry_lald hf rfl rfl (fun j4 hf => ?_)
        iterate 5 (refine ry_step rfl rfl ?_)
        refine ry_last hf rfl rfl (fun j6 S5 hf => ?_)
        iterate 2 (refine ry_step rfl rfl ?_)
        refine ry_sub [1, 2, 0] rfl rfl ?_
        exact ih l1 (l2 + (Int32.ofInt (-1))) S5 hf _
def fX12_oneMore (N : Nat) (v0 : Int32) (S : yS) : Option yS := lX12_oneMore N N v0 (Int32.ofInt 12) S
set_option maxRecDepth 4000 in
theorem tX12_oneMore {ro : xRo} {T : yK} {S : yS} {d N : Nat} {v0 : Int32} {S' : yS} (hf : fX12_oneMore N v0 S = some S') : yEv ro xNo (yKx T) (d + 1) jX12_oneMore [.ref 265, .int v0] S (none) S' := by
  refine ry_meth pX12_oneMore rfl (fun z => ?_)
  unfold fX12_oneMore at hf
  iterate 2 (refine ry_step rfl rfl ?_)
  refine ry_sub [1, 2, 0] rfl rfl ?_
  exact uX12_oneMore (ro := ro) _ v0 (Int32.ofInt 12) S hf _
def lX12_layRows (N : Nat) : Nat → Int32 → Int64 → Int32 → yS → Option (Int64 × yS)
  | 0, _, _, _, _ => none
  | n + 1, l1, l2, l4, S => (if (S.2.2.1 266 0) ≤ l4 then some (l2, S) else (if ¬ (fX12_has l1 l4) = 0 then (fX12_chanceOf N l4 S).bind fun (u5, S4) => (fX12_oneMore N u5 S4).bind fun S7 => lX12_layRows N n l1 (l2 * (Int64.ofInt 10)) (l4 + (Int32.ofInt 1)) S7 else lX12_layRows N n l1 l2 (l4 + (Int32.ofInt 1)) S))
set_option maxRecDepth 4000 in
theorem uX12_layRows {ro : xRo} {T : yK} {d N : Nat} : ∀ n : Nat, (∀ (l1 : Int32) (l2 : Int64) (l4 : Int32) (S : yS) {q : Int64} {S' : yS}, lX12_layRows N n l1 l2 l4 S = some (q, S') → ∀ z, Ry ro xNo (yKx T) z (d + 5) mX12_layRows 9 [(0, .ref 265), (1, .int l1), (2, .long l2), (4, .int l4)] [] S (some (.long q), yH (yKx T) z S')) := by
  intro n
  induction n with
  | zero => exact (by intro _ _ _ _ _ _ hf; cases hf)
  | succ n ih =>
    intro l1 l2 l4 S q S' hf z
    unfold lX12_layRows at hf
    iterate 6 (refine ry_step rfl rfl ?_)
    refine ry_br hf (fun hc hf => ?_) (fun hc hf => ?_)
    · refine ry_step rfl rfl ?_
      cases hf
      exact ry_ret rfl rfl
    · iterate 2 (refine ry_step rfl rfl ?_)
      refine ry_call rfl rfl rfl rfl rfl tX12_has ?_
      refine ry_step rfl rfl ?_
      refine ry_br hf (fun hc hf => ?_) (fun hc hf => ?_)
      · iterate 3 (refine ry_step rfl rfl ?_)
        obtain ⟨⟨u5, S4⟩, hv3, hf⟩ := Option.bind_eq_some_iff.mp hf
        dsimp only at hf
        refine ry_call rfl rfl rfl rfl rfl (tX12_chanceOf hv3) ?_
        obtain ⟨S7, hv6, hf⟩ := Option.bind_eq_some_iff.mp hf
        refine ry_call rfl rfl rfl rfl rfl (tX12_oneMore hv6) ?_
        iterate 6 (refine ry_step rfl rfl ?_)
        refine ry_sub [2, 3, 1, 0] rfl rfl ?_
        exact ih l1 (l2 * (Int64.ofInt 10)) (l4 + (Int32.ofInt 1)) S7 hf _
      · iterate 3 (refine ry_step rfl rfl ?_)
        refine ry_sub [1, 2, 3, 0] rfl rfl ?_
        exact ih l1 l2 (l4 + (Int32.ofInt 1)) S hf _
def fX12_layRows (N : Nat) (v0 : Int32) (S : yS) : Option (Int64 × yS) := (fX12_noRows N  S).bind fun S2 => lX12_layRows N N v0 (Int64.ofNat 1) (Int32.ofInt 0) S2
set_option maxRecDepth 4000 in
theorem tX12_layRows {ro : xRo} {T : yK} {S : yS} {d N : Nat} {v0 : Int32} {q : Int64} {S' : yS} (hf : fX12_layRows N v0 S = some (q, S')) : yEv ro xNo (yKx T) (d + 6) jX12_layRows [.ref 265, .int v0] S (some (.long q)) S' := by
  refine ry_meth pX12_layRows rfl (fun z => ?_)
  unfold fX12_layRows at hf
  refine ry_step rfl rfl ?_
  obtain ⟨S2, hv1, hf⟩ := Option.bind_eq_some_iff.mp hf
  refine ry_call rfl rfl rfl rfl rfl (tX12_noRows hv1) ?_
  iterate 4 (refine ry_step rfl rfl ?_)
  refine ry_sub [2, 3, 1, 0] rfl rfl ?_
  exact uX12_layRows (ro := ro) _ v0 (Int64.ofNat 1) (Int32.ofInt 0) S2 hf _
def fX12_likely (N : Nat) (v0 : Int32) (v1 : Int32) (S : yS) : Option (Int64 × yS) := (if ¬ (fX12_isCount v0) = 0 then (fX12_dueNow N  S).bind fun u2 => (fX12_layRows N u2 S).bind fun (u5, S4) => (ain 13 v0).bind fun j6 => (fX12_part N (S4.2.2.2.1 275 j6) u5 v1 S4).bind fun u8 => some (u8, S4) else some ((Int64.ofInt (-1)), S))
set_option maxRecDepth 4000 in
theorem tX12_likely {ro : xRo} {T : yK} {S : yS} {d N : Nat} {v0 : Int32} {v1 : Int32} {q : Int64} {S' : yS} (hf : fX12_likely N v0 v1 S = some (q, S')) : yEv ro xNo (yKx T) (d + 7) jX12_likely [.ref 265, .int v0, .int v1] S (some (.long q)) S' := by
  refine ry_meth pX12_likely rfl (fun z => ?_)
  unfold fX12_likely at hf
  refine ry_step rfl rfl ?_
  refine ry_call rfl rfl rfl rfl rfl tX12_isCount ?_
  refine ry_step rfl rfl ?_
  refine ry_br hf (fun hc hf => ?_) (fun hc hf => ?_)
  · iterate 2 (refine ry_step rfl rfl ?_)
    obtain ⟨u2, hv1, hf⟩ := Option.bind_eq_some_iff.mp hf
    refine ry_call rfl rfl rfl rfl rfl (tX12_dueNow hv1) ?_
    obtain ⟨⟨u5, S4⟩, hv3, hf⟩ := Option.bind_eq_some_iff.mp hf
    dsimp only at hf
    refine ry_call rfl rfl rfl rfl rfl (tX12_layRows hv3) ?_
    iterate 4 (refine ry_step rfl rfl ?_)
    refine ry_lald hf rfl rfl (fun j6 hf => ?_)
    iterate 2 (refine ry_step rfl rfl ?_)
    obtain ⟨u8, hv7, hf⟩ := Option.bind_eq_some_iff.mp hf
    refine ry_call rfl rfl rfl rfl rfl (tX12_part hv7) ?_
    cases hf
    exact ry_ret rfl rfl
  · refine ry_step rfl rfl ?_
    cases hf
    exact ry_ret rfl rfl
def lX12_mean (N : Nat) : Nat → Int32 → Int64 → Int32 → yS → Option (Int64 × yS)
  | 0, _, _, _, _ => none
  | n + 1, l1, l2, l4, S => (if (S.2.2.1 266 0) ≤ l4 then (fX12_part N l2 (Int64.ofInt 10) l1 S).bind fun u2 => some (u2, S) else (fX12_isDue l4 (Int32.ofInt 0) S).bind fun u4 => (if u4 = 0 then lX12_mean N n l1 (l2 + (Int64.ofNat 0)) (l4 + (Int32.ofInt 1)) S else (fX12_chanceOf N l4 S).bind fun (u7, S6) => lX12_mean N n l1 (l2 + (Int32.toInt64 u7)) (l4 + (Int32.ofInt 1)) S6))
set_option maxRecDepth 4000 in
theorem uX12_mean {ro : xRo} {T : yK} {d N : Nat} : ∀ n : Nat, (∀ (l1 : Int32) (l2 : Int64) (l4 : Int32) (S : yS) {q : Int64} {S' : yS}, lX12_mean N n l1 l2 l4 S = some (q, S') → ∀ z, Ry ro xNo (yKx T) z (d + 5) mX12_mean 5 [(0, .ref 265), (1, .int l1), (2, .long l2), (4, .int l4)] [] S (some (.long q), yH (yKx T) z S')) := by
  intro n
  induction n with
  | zero => exact (by intro _ _ _ _ _ _ hf; cases hf)
  | succ n ih =>
    intro l1 l2 l4 S q S' hf z
    unfold lX12_mean at hf
    iterate 6 (refine ry_step rfl rfl ?_)
    refine ry_br hf (fun hc hf => ?_) (fun hc hf => ?_)
    · iterate 3 (refine ry_step rfl rfl ?_)
      obtain ⟨u2, hv1, hf⟩ := Option.bind_eq_some_iff.mp hf
      refine ry_call rfl rfl rfl rfl rfl (tX12_part hv1) ?_
      cases hf
      exact ry_ret rfl rfl
    · iterate 4 (refine ry_step rfl rfl ?_)
      obtain ⟨u4, hv3, hf⟩ := Option.bind_eq_some_iff.mp hf
      refine ry_call rfl rfl rfl rfl rfl (tX12_isDue hv3) ?_
      refine ry_step rfl rfl ?_
      refine ry_br hf (fun hc hf => ?_) (fun hc hf => ?_)
      · iterate 5 (refine ry_step rfl rfl ?_)
        refine ry_sub [2, 3, 1, 0] rfl rfl ?_
        exact ih l1 (l2 + (Int64.ofNat 0)) (l4 + (Int32.ofInt 1)) S hf _
      · iterate 2 (refine ry_step rfl rfl ?_)
        obtain ⟨⟨u7, S6⟩, hv5, hf⟩ := Option.bind_eq_some_iff.mp hf
        dsimp only at hf
        refine ry_call rfl rfl rfl rfl rfl (tX12_chanceOf hv5) ?_
        iterate 6 (refine ry_step rfl rfl ?_)
        refine ry_sub [2, 3, 1, 0] rfl rfl ?_
        exact ih l1 (l2 + (Int32.toInt64 u7)) (l4 + (Int32.ofInt 1)) S6 hf _
def fX12_mean (N : Nat) (v0 : Int32) (S : yS) : Option (Int64 × yS) := lX12_mean N N v0 (Int64.ofNat 0) (Int32.ofInt 0) S
set_option maxRecDepth 4000 in
theorem tX12_mean {ro : xRo} {T : yK} {S : yS} {d N : Nat} {v0 : Int32} {q : Int64} {S' : yS} (hf : fX12_mean N v0 S = some (q, S')) : yEv ro xNo (yKx T) (d + 6) jX12_mean [.ref 265, .int v0] S (some (.long q)) S' := by
  refine ry_meth pX12_mean rfl (fun z => ?_)
  unfold fX12_mean at hf
  iterate 4 (refine ry_step rfl rfl ?_)
  refine ry_sub [2, 3, 1, 0] rfl rfl ?_
  exact uX12_mean (ro := ro) _ v0 (Int64.ofNat 0) (Int32.ofInt 0) S hf _
def lX12_best (N : Nat) : Nat → Int32 → Int32 → Int32 → Int32 → Int64 → Int32 → yS → Option (Int32 × yS)
  | 0, _, _, _, _, _, _, _ => none
  | n + 1, l1, l2, l3, l4, l5, l7, S => (if (Int32.ofInt 256) ≤ l7 then (if l2 = 0 then some (l4, S) else (fX12_bits N l4 S).bind fun u4 => some (u4, S)) else (if (l7 &&& (l3 ^^^ (Int32.ofInt (-1)))) = 0 then (fX12_layRows N (l3 &&& (l7 ^^^ (Int32.ofInt (-1)))) S).bind fun (u7, S6) => (if u7 = 0 then none else (ain 13 l1).bind fun j8 => pSt (((Int64.ofInt 100000000) / u7) * (S6.2.2.2.1 275 j8)) fun w9 => (if (lg_cmp w9 l5) < 0 then lX12_best N n l1 l2 l3 l4 l5 (l7 + (Int32.ofInt 1)) S6 else (if ¬ (lg_cmp w9 l5) = 0 then lX12_best N n l1 l2 l3 l7 w9 (l7 + (Int32.ofInt 1)) S6 else (fX12_bits N l7 S6).bind fun u11 => (fX12_bits N l4 S6).bind fun u13 => (if u11 < u13 then lX12_best N n l1 l2 l3 l7 w9 (l7 + (Int32.ofInt 1)) S6 else lX12_best N n l1 l2 l3 l4 l5 (l7 + (Int32.ofInt 1)) S6)))) else lX12_best N n l1 l2 l3 l4 l5 (l7 + (Int32.ofInt 1)) S))
set_option maxRecDepth 4000 in
theorem uX12_best {ro : xRo} {T : yK} {d N : Nat} : ∀ n : Nat, (∀ (l1 : Int32) (l2 : Int32) (l3 : Int32) (l4 : Int32) (l5 : Int64) (l7 : Int32) (S : yS) {q : Int32} {S' : yS}, lX12_best N n l1 l2 l3 l4 l5 l7 S = some (q, S') → ∀ z, Ry ro xNo (yKx T) z (d + 6) mX12_best 25 [(0, .ref 265), (1, .int l1), (2, .int l2), (3, .int l3), (4, .int l4), (5, .long l5), (7, .int l7)] [] S (some (.int q), yH (yKx T) z S')) := by
  intro n
  induction n with
  | zero => exact (by intro _ _ _ _ _ _ _ _ _ hf; cases hf)
  | succ n ih =>
    intro l1 l2 l3 l4 l5 l7 S q S' hf z
    unfold lX12_best at hf
    iterate 3 (refine ry_step rfl rfl ?_)
    refine ry_br hf (fun hc hf => ?_) (fun hc hf => ?_)
    · iterate 2 (refine ry_step rfl rfl ?_)
      refine ry_br hf (fun hc hf => ?_) (fun hc hf => ?_)
      · refine ry_step rfl rfl ?_
        cases hf
        exact ry_ret rfl rfl
      · refine ry_step rfl rfl ?_
        obtain ⟨u4, hv3, hf⟩ := Option.bind_eq_some_iff.mp hf
        refine ry_call rfl rfl rfl rfl rfl (tX12_bits hv3) ?_
        refine ry_step rfl rfl ?_
        cases hf
        exact ry_ret rfl rfl
    · iterate 6 (refine ry_step rfl rfl ?_)
      refine ry_br hf (fun hc hf => ?_) (fun hc hf => ?_)
      · iterate 7 (refine ry_step rfl rfl ?_)
        obtain ⟨⟨u7, S6⟩, hv5, hf⟩ := Option.bind_eq_some_iff.mp hf
        dsimp only at hf
        refine ry_call rfl rfl rfl rfl rfl (tX12_layRows hv5) ?_
        refine ry_ldiv hf rfl (fun hf => ?_)
        iterate 3 (refine ry_step rfl rfl ?_)
        refine ry_lald hf rfl rfl (fun j8 hf => ?_)
        refine ry_step rfl rfl ?_
        refine ry_nml hf (fun w9 hf => ?_)
        iterate 5 (refine ry_step rfl rfl ?_)
        refine ry_br hf (fun hc hf => ?_) (fun hc hf => ?_)
        · iterate 2 (refine ry_step rfl rfl ?_)
          refine ry_sub [2, 3, 4, 5, 6, 7, 0] rfl rfl ?_
          exact ih l1 l2 l3 l4 l5 (l7 + (Int32.ofInt 1)) S6 hf _
        · iterate 4 (refine ry_step rfl rfl ?_)
          refine ry_br hf (fun hc hf => ?_) (fun hc hf => ?_)
          · iterate 6 (refine ry_step rfl rfl ?_)
            refine ry_sub [4, 5, 6, 7, 1, 2, 0] rfl rfl ?_
            exact ih l1 l2 l3 l7 w9 (l7 + (Int32.ofInt 1)) S6 hf _
          · refine ry_step rfl rfl ?_
            obtain ⟨u11, hv10, hf⟩ := Option.bind_eq_some_iff.mp hf
            refine ry_call rfl rfl rfl rfl rfl (tX12_bits hv10) ?_
            refine ry_step rfl rfl ?_
            obtain ⟨u13, hv12, hf⟩ := Option.bind_eq_some_iff.mp hf
            refine ry_call rfl rfl rfl rfl rfl (tX12_bits hv12) ?_
            refine ry_step rfl rfl ?_
            refine ry_br hf (fun hc hf => ?_) (fun hc hf => ?_)
            · iterate 6 (refine ry_step rfl rfl ?_)
              refine ry_sub [4, 5, 6, 7, 1, 2, 0] rfl rfl ?_
              exact ih l1 l2 l3 l7 w9 (l7 + (Int32.ofInt 1)) S6 hf _
            · iterate 3 (refine ry_step rfl rfl ?_)
              refine ry_sub [2, 3, 4, 5, 6, 7, 0] rfl rfl ?_
              exact ih l1 l2 l3 l4 l5 (l7 + (Int32.ofInt 1)) S6 hf _
      · iterate 3 (refine ry_step rfl rfl ?_)
        refine ry_sub [1, 2, 3, 4, 5, 6, 0] rfl rfl ?_
        exact ih l1 l2 l3 l4 l5 (l7 + (Int32.ofInt 1)) S hf _
def fX12_best (N : Nat) (v0 : Int32) (v1 : Int32) (S : yS) : Option (Int32 × yS) := (if ¬ (fX12_isCount v0) = 0 then (fX12_dueNow N  S).bind fun u2 => lX12_best N N v0 v1 u2 (Int32.ofInt 0) (Int64.ofInt (-1)) (Int32.ofInt 0) S else some ((Int32.ofInt (-1)), S))
set_option maxRecDepth 4000 in
theorem tX12_best {ro : xRo} {T : yK} {S : yS} {d N : Nat} {v0 : Int32} {v1 : Int32} {q : Int32} {S' : yS} (hf : fX12_best N v0 v1 S = some (q, S')) : yEv ro xNo (yKx T) (d + 7) jX12_best [.ref 265, .int v0, .int v1] S (some (.int q)) S' := by
  refine ry_meth pX12_best rfl (fun z => ?_)
  unfold fX12_best at hf
  refine ry_step rfl rfl ?_
  refine ry_call rfl rfl rfl rfl rfl tX12_isCount ?_
  refine ry_step rfl rfl ?_
  refine ry_br hf (fun hc hf => ?_) (fun hc hf => ?_)
  · refine ry_step rfl rfl ?_
    obtain ⟨u2, hv1, hf⟩ := Option.bind_eq_some_iff.mp hf
    refine ry_call rfl rfl rfl rfl rfl (tX12_dueNow hv1) ?_
    iterate 7 (refine ry_step rfl rfl ?_)
    refine ry_sub [4, 5, 6, 3, 2, 1, 0] rfl rfl ?_
    exact uX12_best (ro := ro) _ v0 v1 u2 (Int32.ofInt 0) (Int64.ofInt (-1)) (Int32.ofInt 0) S hf _
  · refine ry_step rfl rfl ?_
    cases hf
    exact ry_ret rfl rfl
def fX12_morning (v0 : Int32) (v1 : Int32) (S : yS) : Option (Int32 × yS) := (if ¬ v0 = (Int32.ofInt (-1)) then (if (fX12_isIn v0 (Int32.ofInt 0) (Int32.ofInt 99)) = 0 then some ((Int32.ofInt (-2)), S) else (if ¬ (S.2.2.1 266 4) = (Int32.ofInt 12) then (ain 1338 ((Int32.ofInt 54) + ((Int32.ofInt 2) * (S.2.2.1 266 4)))).bind fun j8 => pSt (ySa S 266 (upd (S.2.2.1 266) j8 v0)) fun S1 => (if v1 = 0 then (ain 1338 (((Int32.ofInt 54) + ((Int32.ofInt 2) * (S1.2.2.1 266 4))) + (Int32.ofInt 1))).bind fun j4 => pSt (ySa S1 266 (upd (S1.2.2.1 266) j4 (Int32.ofInt 0))) fun S2 => pSt (ySa S2 266 (upd (S2.2.2.1 266) 4 ((S2.2.2.1 266 4) + (Int32.ofInt 1)))) fun S3 => some ((S3.2.2.1 266 4), S3) else (ain 1338 (((Int32.ofInt 54) + ((Int32.ofInt 2) * (S1.2.2.1 266 4))) + (Int32.ofInt 1))).bind fun j7 => pSt (ySa S1 266 (upd (S1.2.2.1 266) j7 (Int32.ofInt 1))) fun S5 => pSt (ySa S5 266 (upd (S5.2.2.1 266) 4 ((S5.2.2.1 266 4) + (Int32.ofInt 1)))) fun S6 => some ((S6.2.2.1 266 4), S6)) else some ((Int32.ofInt (-2)), S))) else pSt (ySa S 266 (upd (S.2.2.1 266) 4 (Int32.ofInt 0))) fun S9 => some ((Int32.ofInt 0), S9))
set_option maxRecDepth 4000 in
theorem tX12_morning {ro : xRo} {T : yK} {S : yS} {d : Nat} {v0 : Int32} {v1 : Int32} {q : Int32} {S' : yS} (hf : fX12_morning v0 v1 S = some (q, S')) : yEv ro xNo (yKx T) (d + 2) jX12_morning [.ref 265, .int v0, .int v1] S (some (.int q)) S' := by
  refine ry_meth pX12_morning rfl (fun z => ?_)
  unfold fX12_morning at hf
  iterate 3 (refine ry_step rfl rfl ?_)
  refine ry_br hf (fun hc hf => ?_) (fun hc hf => ?_)
  · iterate 3 (refine ry_step rfl rfl ?_)
    refine ry_call rfl rfl rfl rfl rfl tX12_isIn ?_
    refine ry_step rfl rfl ?_
    refine ry_br hf (fun hc hf => ?_) (fun hc hf => ?_)
    · refine ry_step rfl rfl ?_
      cases hf
      exact ry_ret rfl rfl
    · iterate 6 (refine ry_step rfl rfl ?_)
      refine ry_br hf (fun hc hf => ?_) (fun hc hf => ?_)
      · iterate 11 (refine ry_step rfl rfl ?_)
        refine ry_iast hf rfl rfl (fun j8 S1 hf => ?_)
        iterate 14 (refine ry_step rfl rfl ?_)
        refine ry_br hf (fun hc hf => ?_) (fun hc hf => ?_)
        · refine ry_step rfl rfl ?_
          refine ry_iast hf rfl rfl (fun j4 S2 hf => ?_)
          iterate 7 (refine ry_step rfl rfl ?_)
          refine ry_stepS hf rfl rfl (fun S3 hf => ?_)
          iterate 4 (refine ry_step rfl rfl ?_)
          cases hf
          exact ry_ret rfl rfl
        · iterate 2 (refine ry_step rfl rfl ?_)
          refine ry_iast hf rfl rfl (fun j7 S5 hf => ?_)
          iterate 7 (refine ry_step rfl rfl ?_)
          refine ry_stepS hf rfl rfl (fun S6 hf => ?_)
          iterate 4 (refine ry_step rfl rfl ?_)
          cases hf
          exact ry_ret rfl rfl
      · refine ry_step rfl rfl ?_
        cases hf
        exact ry_ret rfl rfl
  · iterate 4 (refine ry_step rfl rfl ?_)
    refine ry_stepS hf rfl rfl (fun S9 hf => ?_)
    refine ry_step rfl rfl ?_
    cases hf
    exact ry_ret rfl rfl
def lX12_isHabit (N : Nat) : Nat → Int32 → Int32 → Int32 → yS → Option Int32
  | 0, _, _, _, _ => none
  | n + 1, l1, l2, l3, S => (if ((Int32.ofInt 54) + ((Int32.ofInt 2) * (S.2.2.1 266 4))) ≤ l3 then some (Int32.ofInt 1) else (ain 1338 l3).bind fun j1 => (if l1 = 0 then none else (if ¬ ((S.2.2.1 266 j1) - (S.2.2.1 266 j1) / l1 * l1) = l2 then (ain 1338 (l3 + (Int32.ofInt 1))).bind fun j2 => (if (Int32.ofInt 0) = (S.2.2.1 266 j2) then lX12_isHabit N n l1 l2 (l3 + (Int32.ofInt 2)) S else some (Int32.ofInt 0)) else (ain 1338 (l3 + (Int32.ofInt 1))).bind fun j3 => (if (Int32.ofInt 1) = (S.2.2.1 266 j3) then lX12_isHabit N n l1 l2 (l3 + (Int32.ofInt 2)) S else some (Int32.ofInt 0)))))
set_option maxRecDepth 4000 in
theorem uX12_isHabit {ro : xRo} {T : yK} {d N : Nat} : ∀ n : Nat, (∀ (l1 : Int32) (l2 : Int32) (l3 : Int32) (S : yS) {q : Int32}, lX12_isHabit N n l1 l2 l3 S = some q → ∀ z, Ry ro xNo (yKx T) z (d + 0) mX12_isHabit 3 [(0, .ref 265), (1, .int l1), (2, .int l2), (3, .int l3)] [] S (some (.int q), yH (yKx T) z S)) := by
  intro n
  induction n with
  | zero => exact (by intro _ _ _ _ _ hf; cases hf)
  | succ n ih =>
    intro l1 l2 l3 S q hf z
    unfold lX12_isHabit at hf
    iterate 10 (refine ry_step rfl rfl ?_)
    refine ry_br hf (fun hc hf => ?_) (fun hc hf => ?_)
    · refine ry_step rfl rfl ?_
      cases hf
      exact ry_ret rfl rfl
    · iterate 3 (refine ry_step rfl rfl ?_)
      refine ry_iald hf rfl rfl rfl (fun j1 hf => ?_)
      refine ry_step rfl rfl ?_
      refine ry_rem hf rfl (fun hf => ?_)
      iterate 2 (refine ry_step rfl rfl ?_)
      refine ry_br hf (fun hc hf => ?_) (fun hc hf => ?_)
      · iterate 6 (refine ry_step rfl rfl ?_)
        refine ry_iald hf rfl rfl rfl (fun j2 hf => ?_)
        refine ry_step rfl rfl ?_
        refine ry_br hf (fun hc hf => ?_) (fun hc hf => ?_)
        · iterate 2 (refine ry_step rfl rfl ?_)
          refine ry_sub [1, 2, 3, 0] rfl rfl ?_
          exact ih l1 l2 (l3 + (Int32.ofInt 2)) S hf _
        · refine ry_step rfl rfl ?_
          cases hf
          exact ry_ret rfl rfl
      · iterate 7 (refine ry_step rfl rfl ?_)
        refine ry_iald hf rfl rfl rfl (fun j3 hf => ?_)
        refine ry_step rfl rfl ?_
        refine ry_br hf (fun hc hf => ?_) (fun hc hf => ?_)
        · iterate 2 (refine ry_step rfl rfl ?_)
          refine ry_sub [1, 2, 3, 0] rfl rfl ?_
          exact ih l1 l2 (l3 + (Int32.ofInt 2)) S hf _
        · refine ry_step rfl rfl ?_
          cases hf
          exact ry_ret rfl rfl
def fX12_isHabit (N : Nat) (v0 : Int32) (v1 : Int32) (S : yS) : Option Int32 := lX12_isHabit N N v0 v1 (Int32.ofInt 54) S
set_option maxRecDepth 4000 in
theorem tX12_isHabit {ro : xRo} {T : yK} {S : yS} {d N : Nat} {v0 : Int32} {v1 : Int32} {q : Int32} (hf : fX12_isHabit N v0 v1 S = some q) : yEv ro xNo (yKx T) (d + 1) jX12_isHabit [.ref 265, .int v0, .int v1] S (some (.int q)) S := by
  refine ry_meth pX12_isHabit rfl (fun z => ?_)
  unfold fX12_isHabit at hf
  iterate 2 (refine ry_step rfl rfl ?_)
  refine ry_sub [1, 2, 3, 0] rfl rfl ?_
  exact uX12_isHabit (ro := ro) _ v0 v1 (Int32.ofInt 54) S hf _
def lX12_habits (N : Nat) : Nat → Nat → Int32 → Int32 → Int32 → yS → Option Int32
  | 0, _, _, _, _, _ => none
  | n + 1, m, l1, l2, l3, S => if m = 0 then (if (Int32.ofInt 12) < l2 then some l1 else lX12_habits N n 1 l1 l2 (Int32.ofInt 0) S) else (if l2 ≤ l3 then lX12_habits N n 0 l1 (l2 + (Int32.ofInt 1)) 0 S else (fX12_isHabit N l2 l3 S).bind fun u2 => (if u2 = 0 then lX12_habits N n 1 (l1 + (Int32.ofInt 0)) l2 (l3 + (Int32.ofInt 1)) S else lX12_habits N n 1 (l1 + (Int32.ofInt 1)) l2 (l3 + (Int32.ofInt 1)) S))
set_option maxRecDepth 4000 in
theorem uX12_habits {ro : xRo} {T : yK} {d N : Nat} : ∀ n : Nat, (∀ (l1 : Int32) (l2 : Int32) (l3 : Int32) (S : yS) {q : Int32}, lX12_habits N n 0 l1 l2 l3 S = some q → ∀ z, Ry ro xNo (yKx T) z (d + 1) mX12_habits 4 [(0, .ref 265), (1, .int l1), (2, .int l2)] [] S (some (.int q), yH (yKx T) z S)) ∧ (∀ (l1 : Int32) (l2 : Int32) (l3 : Int32) (S : yS) {q : Int32}, lX12_habits N n 1 l1 l2 l3 S = some q → ∀ z, Ry ro xNo (yKx T) z (d + 1) mX12_habits 12 [(0, .ref 265), (1, .int l1), (2, .int l2), (3, .int l3)] [] S (some (.int q), yH (yKx T) z S)) := by
  intro n
  induction n with
  | zero => exact ⟨(by intro _ _ _ _ _ hf; cases hf), (by intro _ _ _ _ _ hf; cases hf)⟩
  | succ n ih =>
    refine ⟨?_, ?_⟩
    · intro l1 l2 l3 S q hf z
      unfold lX12_habits at hf
      rw [if_pos rfl] at hf
      iterate 3 (refine ry_step rfl rfl ?_)
      refine ry_br hf (fun hc hf => ?_) (fun hc hf => ?_)
      · refine ry_step rfl rfl ?_
        cases hf
        exact ry_ret rfl rfl
      · iterate 2 (refine ry_step rfl rfl ?_)
        refine ry_sub [1, 2, 3, 0] rfl rfl ?_
        exact ih.2 l1 l2 (Int32.ofInt 0) S hf _
    · intro l1 l2 l3 S q hf z
      unfold lX12_habits at hf
      rw [if_neg (by decide)] at hf; skip
      iterate 3 (refine ry_step rfl rfl ?_)
      refine ry_br hf (fun hc hf => ?_) (fun hc hf => ?_)
      · iterate 2 (refine ry_step rfl rfl ?_)
        refine ry_sub [1, 2, 0] rfl rfl ?_
        exact ih.1 l1 (l2 + (Int32.ofInt 1)) 0 S hf _
      · iterate 4 (refine ry_step rfl rfl ?_)
        obtain ⟨u2, hv1, hf⟩ := Option.bind_eq_some_iff.mp hf
        refine ry_call rfl rfl rfl rfl rfl (tX12_isHabit hv1) ?_
        refine ry_step rfl rfl ?_
        refine ry_br hf (fun hc hf => ?_) (fun hc hf => ?_)
        · iterate 5 (refine ry_step rfl rfl ?_)
          refine ry_sub [2, 1, 3, 0] rfl rfl ?_
          exact ih.2 (l1 + (Int32.ofInt 0)) l2 (l3 + (Int32.ofInt 1)) S hf _
        · iterate 6 (refine ry_step rfl rfl ?_)
          refine ry_sub [2, 1, 3, 0] rfl rfl ?_
          exact ih.2 (l1 + (Int32.ofInt 1)) l2 (l3 + (Int32.ofInt 1)) S hf _
def fX12_habits (N : Nat) (S : yS) : Option Int32 := lX12_habits N N 0 (Int32.ofInt 0) (Int32.ofInt 1) 0 S
set_option maxRecDepth 4000 in
theorem tX12_habits {ro : xRo} {T : yK} {S : yS} {d N : Nat} {q : Int32} (hf : fX12_habits N  S = some q) : yEv ro xNo (yKx T) (d + 2) jX12_habits [.ref 265] S (some (.int q)) S := by
  refine ry_meth pX12_habits rfl (fun z => ?_)
  unfold fX12_habits at hf
  iterate 4 (refine ry_step rfl rfl ?_)
  refine ry_sub [2, 1, 0] rfl rfl ?_
  exact (uX12_habits (ro := ro) _).1 (Int32.ofInt 0) (Int32.ofInt 1) 0 S hf _
def lX12_firstHabit (N : Nat) : Nat → Nat → Int32 → Int32 → yS → Option Int32
  | 0, _, _, _, _ => none
  | n + 1, m, l1, l2, S => if m = 0 then (if (Int32.ofInt 12) < l1 then some (Int32.ofInt (-1)) else lX12_firstHabit N n 1 l1 (Int32.ofInt 0) S) else (if l1 ≤ l2 then lX12_firstHabit N n 0 (l1 + (Int32.ofInt 1)) 0 S else (fX12_isHabit N l1 l2 S).bind fun u2 => (if u2 = 0 then lX12_firstHabit N n 1 l1 (l2 + (Int32.ofInt 1)) S else some (((Int32.ofInt 100) * l1) + l2)))
set_option maxRecDepth 4000 in
theorem uX12_firstHabit {ro : xRo} {T : yK} {d N : Nat} : ∀ n : Nat, (∀ (l1 : Int32) (l2 : Int32) (S : yS) {q : Int32}, lX12_firstHabit N n 0 l1 l2 S = some q → ∀ z, Ry ro xNo (yKx T) z (d + 1) mX12_firstHabit 2 [(0, .ref 265), (1, .int l1)] [] S (some (.int q), yH (yKx T) z S)) ∧ (∀ (l1 : Int32) (l2 : Int32) (S : yS) {q : Int32}, lX12_firstHabit N n 1 l1 l2 S = some q → ∀ z, Ry ro xNo (yKx T) z (d + 1) mX12_firstHabit 10 [(0, .ref 265), (1, .int l1), (2, .int l2)] [] S (some (.int q), yH (yKx T) z S)) := by
  intro n
  induction n with
  | zero => exact ⟨(by intro _ _ _ _ hf; cases hf), (by intro _ _ _ _ hf; cases hf)⟩
  | succ n ih =>
    refine ⟨?_, ?_⟩
    · intro l1 l2 S q hf z
      unfold lX12_firstHabit at hf
      rw [if_pos rfl] at hf
      iterate 3 (refine ry_step rfl rfl ?_)
      refine ry_br hf (fun hc hf => ?_) (fun hc hf => ?_)
      · refine ry_step rfl rfl ?_
        cases hf
        exact ry_ret rfl rfl
      · iterate 2 (refine ry_step rfl rfl ?_)
        refine ry_sub [1, 2, 0] rfl rfl ?_
        exact ih.2 l1 (Int32.ofInt 0) S hf _
    · intro l1 l2 S q hf z
      unfold lX12_firstHabit at hf
      rw [if_neg (by decide)] at hf; skip
      iterate 3 (refine ry_step rfl rfl ?_)
      refine ry_br hf (fun hc hf => ?_) (fun hc hf => ?_)
      · iterate 2 (refine ry_step rfl rfl ?_)
        refine ry_sub [1, 0] rfl rfl ?_
        exact ih.1 (l1 + (Int32.ofInt 1)) 0 S hf _
      · iterate 3 (refine ry_step rfl rfl ?_)
        obtain ⟨u2, hv1, hf⟩ := Option.bind_eq_some_iff.mp hf
        refine ry_call rfl rfl rfl rfl rfl (tX12_isHabit hv1) ?_
        refine ry_step rfl rfl ?_
        refine ry_br hf (fun hc hf => ?_) (fun hc hf => ?_)
        · iterate 2 (refine ry_step rfl rfl ?_)
          refine ry_sub [1, 2, 0] rfl rfl ?_
          exact ih.2 l1 (l2 + (Int32.ofInt 1)) S hf _
        · iterate 5 (refine ry_step rfl rfl ?_)
          cases hf
          exact ry_ret rfl rfl
def fX12_firstHabit (N : Nat) (S : yS) : Option Int32 := lX12_firstHabit N N 0 (Int32.ofInt 1) 0 S
set_option maxRecDepth 4000 in
theorem tX12_firstHabit {ro : xRo} {T : yK} {S : yS} {d N : Nat} {q : Int32} (hf : fX12_firstHabit N  S = some q) : yEv ro xNo (yKx T) (d + 2) jX12_firstHabit [.ref 265] S (some (.int q)) S := by
  refine ry_meth pX12_firstHabit rfl (fun z => ?_)
  unfold fX12_firstHabit at hf
  iterate 2 (refine ry_step rfl rfl ?_)
  refine ry_sub [1, 0] rfl rfl ?_
  exact (uX12_firstHabit (ro := ro) _).1 (Int32.ofInt 1) 0 S hf _
def lX12_habit (N : Nat) : Nat → Nat → Int32 → Int32 → Int32 → yS → Option Int32
  | 0, _, _, _, _, _ => none
  | n + 1, m, l2, l3, l4, S => if m = 0 then (if ((Int32.ofInt 54) + ((Int32.ofInt 2) * (S.2.2.1 266 4))) ≤ l4 then lX12_habit N n 1 l2 l3 0 S else (ain 1338 l4).bind fun j3 => (if (S.2.2.1 266 j3) < l3 then lX12_habit N n 0 l2 l3 (l4 + (Int32.ofInt 2)) S else (ain 1338 l4).bind fun j4 => pSt ((S.2.2.1 266 j4) + (Int32.ofInt 1)) fun w5 => lX12_habit N n 0 l2 w5 (l4 + (Int32.ofInt 2)) S)) else (if (l2 / (Int32.ofInt 100)) = 0 then none else (if (l3 - l3 / (l2 / (Int32.ofInt 100)) * (l2 / (Int32.ofInt 100))) = (l2 - l2 / (Int32.ofInt 100) * (Int32.ofInt 100)) then some l3 else lX12_habit N n 1 l2 (l3 + (Int32.ofInt 1)) 0 S))
set_option maxRecDepth 4000 in
theorem uX12_habit {ro : xRo} {T : yK} {d N : Nat} : ∀ n : Nat, (∀ (l2 : Int32) (l3 : Int32) (l4 : Int32) (S : yS) {q : Int32}, lX12_habit N n 0 l2 l3 l4 S = some q → ∀ z, Ry ro xNo (yKx T) z (d + 2) mX12_habit 48 [(0, .ref 265), (2, .int l2), (3, .int l3), (4, .int l4)] [] S (some (.int q), yH (yKx T) z S)) ∧ (∀ (l2 : Int32) (l3 : Int32) (l4 : Int32) (S : yS) {q : Int32}, lX12_habit N n 1 l2 l3 l4 S = some q → ∀ z, Ry ro xNo (yKx T) z (d + 2) mX12_habit 95 [(2, .int l2), (3, .int l3)] [] S (some (.int q), yH (yKx T) z S)) := by
  intro n
  induction n with
  | zero => exact ⟨(by intro _ _ _ _ _ hf; cases hf), (by intro _ _ _ _ _ hf; cases hf)⟩
  | succ n ih =>
    refine ⟨?_, ?_⟩
    · intro l2 l3 l4 S q hf z
      unfold lX12_habit at hf
      rw [if_pos rfl] at hf
      iterate 10 (refine ry_step rfl rfl ?_)
      refine ry_br hf (fun hc hf => ?_) (fun hc hf => ?_)
      · refine ry_sub [1, 2] rfl rfl ?_
        exact ih.2 l2 l3 0 S hf _
      · iterate 3 (refine ry_step rfl rfl ?_)
        refine ry_iald hf rfl rfl rfl (fun j3 hf => ?_)
        iterate 2 (refine ry_step rfl rfl ?_)
        refine ry_br hf (fun hc hf => ?_) (fun hc hf => ?_)
        · iterate 4 (refine ry_step rfl rfl ?_)
          refine ry_sub [2, 3, 1, 0] rfl rfl ?_
          exact ih.1 l2 l3 (l4 + (Int32.ofInt 2)) S hf _
        · iterate 3 (refine ry_step rfl rfl ?_)
          refine ry_iald hf rfl rfl rfl (fun j4 hf => ?_)
          iterate 3 (refine ry_step rfl rfl ?_)
          refine ry_nmi hf (fun w5 hf => ?_)
          iterate 3 (refine ry_step rfl rfl ?_)
          refine ry_sub [2, 3, 1, 0] rfl rfl ?_
          exact ih.1 l2 w5 (l4 + (Int32.ofInt 2)) S hf _
    · intro l2 l3 l4 S q hf z
      unfold lX12_habit at hf
      rw [if_neg (by decide)] at hf; skip
      iterate 4 (refine ry_step rfl rfl ?_)
      refine ry_rem hf rfl (fun hf => ?_)
      iterate 4 (refine ry_step rfl rfl ?_)
      refine ry_br hf (fun hc hf => ?_) (fun hc hf => ?_)
      · refine ry_step rfl rfl ?_
        cases hf
        exact ry_ret rfl rfl
      · iterate 2 (refine ry_step rfl rfl ?_)
        refine ry_sub [1, 0] rfl rfl ?_
        exact ih.2 l2 (l3 + (Int32.ofInt 1)) 0 S hf _
def fX12_habit (N : Nat) (v0 : Int32) (S : yS) : Option Int32 := (fX12_firstHabit N  S).bind fun u2 => (if u2 = (Int32.ofInt (-1)) then some (Int32.ofInt (-1)) else (if ¬ (fX12_isIn v0 (Int32.ofInt 0) (Int32.ofInt 2)) = 0 then (if (Int32.ofInt 2) ≤ v0 then lX12_habit N N 0 u2 (Int32.ofInt 0) (Int32.ofInt 54) S else (if ¬ v0 = 0 then some (u2 - u2 / (Int32.ofInt 100) * (Int32.ofInt 100)) else some (u2 / (Int32.ofInt 100)))) else some (Int32.ofInt (-1))))
set_option maxRecDepth 4000 in
theorem tX12_habit {ro : xRo} {T : yK} {S : yS} {d N : Nat} {v0 : Int32} {q : Int32} (hf : fX12_habit N v0 S = some q) : yEv ro xNo (yKx T) (d + 3) jX12_habit [.ref 265, .int v0] S (some (.int q)) S := by
  refine ry_meth pX12_habit rfl (fun z => ?_)
  unfold fX12_habit at hf
  refine ry_step rfl rfl ?_
  obtain ⟨u2, hv1, hf⟩ := Option.bind_eq_some_iff.mp hf
  refine ry_call rfl rfl rfl rfl rfl (tX12_firstHabit hv1) ?_
  iterate 4 (refine ry_step rfl rfl ?_)
  refine ry_br hf (fun hc hf => ?_) (fun hc hf => ?_)
  · refine ry_step rfl rfl ?_
    cases hf
    exact ry_ret rfl rfl
  · iterate 3 (refine ry_step rfl rfl ?_)
    refine ry_call rfl rfl rfl rfl rfl tX12_isIn ?_
    refine ry_step rfl rfl ?_
    refine ry_br hf (fun hc hf => ?_) (fun hc hf => ?_)
    · iterate 3 (refine ry_step rfl rfl ?_)
      refine ry_br hf (fun hc hf => ?_) (fun hc hf => ?_)
      · iterate 4 (refine ry_step rfl rfl ?_)
        refine ry_sub [3, 2, 1, 0] rfl rfl ?_
        exact (uX12_habit (ro := ro) _).1 u2 (Int32.ofInt 0) (Int32.ofInt 54) S hf _
      · iterate 2 (refine ry_step rfl rfl ?_)
        refine ry_br hf (fun hc hf => ?_) (fun hc hf => ?_)
        · iterate 3 (refine ry_step rfl rfl ?_)
          cases hf
          exact ry_ret rfl rfl
        · iterate 4 (refine ry_step rfl rfl ?_)
          cases hf
          exact ry_ret rfl rfl
    · refine ry_step rfl rfl ?_
      cases hf
      exact ry_ret rfl rfl
def lX12_whom (N : Nat) : Nat → Int32 → Int32 → yS → Option Int32
  | 0, _, _, _ => none
  | n + 1, l1, l2, S => (if (S.2.2.1 266 0) ≤ l2 then some l1 else (ain 1338 ((Int32.ofInt 21) + l2)).bind fun j1 => (ain 1338 ((Int32.ofInt 29) + l2)).bind fun j2 => (fX12_isHabit N (S.2.2.1 266 j1) (S.2.2.1 266 j2) S).bind fun u4 => (if u4 = 0 then lX12_whom N n (l1 ||| (Int32.ofInt 0)) (l2 + (Int32.ofInt 1)) S else pSt (l1 ||| ((Int32.ofInt 1) <<< (l2 &&& 31))) fun w5 => lX12_whom N n w5 (l2 + (Int32.ofInt 1)) S))
set_option maxRecDepth 4000 in
theorem uX12_whom {ro : xRo} {T : yK} {d N : Nat} : ∀ n : Nat, (∀ (l1 : Int32) (l2 : Int32) (S : yS) {q : Int32}, lX12_whom N n l1 l2 S = some q → ∀ z, Ry ro xNo (yKx T) z (d + 1) mX12_whom 4 [(0, .ref 265), (1, .int l1), (2, .int l2)] [] S (some (.int q), yH (yKx T) z S)) := by
  intro n
  induction n with
  | zero => exact (by intro _ _ _ _ hf; cases hf)
  | succ n ih =>
    intro l1 l2 S q hf z
    unfold lX12_whom at hf
    iterate 6 (refine ry_step rfl rfl ?_)
    refine ry_br hf (fun hc hf => ?_) (fun hc hf => ?_)
    · refine ry_step rfl rfl ?_
      cases hf
      exact ry_ret rfl rfl
    · iterate 7 (refine ry_step rfl rfl ?_)
      refine ry_iald hf rfl rfl rfl (fun j1 hf => ?_)
      iterate 5 (refine ry_step rfl rfl ?_)
      refine ry_iald hf rfl rfl rfl (fun j2 hf => ?_)
      obtain ⟨u4, hv3, hf⟩ := Option.bind_eq_some_iff.mp hf
      refine ry_call rfl rfl rfl rfl rfl (tX12_isHabit hv3) ?_
      refine ry_step rfl rfl ?_
      refine ry_br hf (fun hc hf => ?_) (fun hc hf => ?_)
      · iterate 5 (refine ry_step rfl rfl ?_)
        refine ry_sub [2, 1, 0] rfl rfl ?_
        exact ih (l1 ||| (Int32.ofInt 0)) (l2 + (Int32.ofInt 1)) S hf _
      · iterate 5 (refine ry_step rfl rfl ?_)
        refine ry_nmi hf (fun w5 hf => ?_)
        iterate 3 (refine ry_step rfl rfl ?_)
        refine ry_sub [2, 1, 0] rfl rfl ?_
        exact ih w5 (l2 + (Int32.ofInt 1)) S hf _
def fX12_whom (N : Nat) (S : yS) : Option Int32 := lX12_whom N N (Int32.ofInt 0) (Int32.ofInt 0) S
set_option maxRecDepth 4000 in
theorem tX12_whom {ro : xRo} {T : yK} {S : yS} {d N : Nat} {q : Int32} (hf : fX12_whom N  S = some q) : yEv ro xNo (yKx T) (d + 2) jX12_whom [.ref 265] S (some (.int q)) S := by
  refine ry_meth pX12_whom rfl (fun z => ?_)
  unfold fX12_whom at hf
  iterate 4 (refine ry_step rfl rfl ?_)
  refine ry_sub [2, 1, 0] rfl rfl ?_
  exact uX12_whom (ro := ro) _ (Int32.ofInt 0) (Int32.ofInt 0) S hf _
def fX12_rota (N : Nat) (v0 : Int32) (S : yS) : Option Int32 := (if (fX12_isIn v0 (Int32.ofInt 0) (Int32.ofInt 999)) = 0 then some (Int32.ofInt (-1)) else (fX12_dueBy N v0 S).bind fun u2 => some u2)
set_option maxRecDepth 4000 in
theorem tX12_rota {ro : xRo} {T : yK} {S : yS} {d N : Nat} {v0 : Int32} {q : Int32} (hf : fX12_rota N v0 S = some q) : yEv ro xNo (yKx T) (d + 5) jX12_rota [.ref 265, .int v0] S (some (.int q)) S := by
  refine ry_meth pX12_rota rfl (fun z => ?_)
  unfold fX12_rota at hf
  iterate 3 (refine ry_step rfl rfl ?_)
  refine ry_call rfl rfl rfl rfl rfl tX12_isIn ?_
  refine ry_step rfl rfl ?_
  refine ry_br hf (fun hc hf => ?_) (fun hc hf => ?_)
  · refine ry_step rfl rfl ?_
    cases hf
    exact ry_ret rfl rfl
  · iterate 2 (refine ry_step rfl rfl ?_)
    obtain ⟨u2, hv1, hf⟩ := Option.bind_eq_some_iff.mp hf
    refine ry_call rfl rfl rfl rfl rfl (tX12_dueBy hv1) ?_
    refine ry_step rfl rfl ?_
    cases hf
    exact ry_ret rfl rfl
def lX12_gather (N : Nat) : Nat → Int32 → Int32 → yS → Option Int32
  | 0, _, _, _ => none
  | n + 1, l1, l2, S => (if (Int32.ofInt 27720) ≤ l2 then some (Int32.ofInt (-1)) else (if l1 = 0 then some (Int32.ofInt (-1)) else (fX12_dueBy N l2 S).bind fun u3 => (if ¬ u3 = l1 then lX12_gather N n l1 (l2 + (Int32.ofInt 1)) S else some ((S.2.2.1 266 6) + l2))))
set_option maxRecDepth 4000 in
theorem uX12_gather {ro : xRo} {T : yK} {d N : Nat} : ∀ n : Nat, (∀ (l1 : Int32) (l2 : Int32) (S : yS) {q : Int32}, lX12_gather N n l1 l2 S = some q → ∀ z, Ry ro xNo (yKx T) z (d + 4) mX12_gather 23 [(0, .ref 265), (1, .int l1), (2, .int l2)] [] S (some (.int q), yH (yKx T) z S)) := by
  intro n
  induction n with
  | zero => exact (by intro _ _ _ _ hf; cases hf)
  | succ n ih =>
    intro l1 l2 S q hf z
    unfold lX12_gather at hf
    iterate 3 (refine ry_step rfl rfl ?_)
    refine ry_br hf (fun hc hf => ?_) (fun hc hf => ?_)
    · refine ry_step rfl rfl ?_
      cases hf
      exact ry_ret rfl rfl
    · iterate 2 (refine ry_step rfl rfl ?_)
      refine ry_br hf (fun hc hf => ?_) (fun hc hf => ?_)
      · refine ry_step rfl rfl ?_
        cases hf
        exact ry_ret rfl rfl
      · iterate 2 (refine ry_step rfl rfl ?_)
        obtain ⟨u3, hv2, hf⟩ := Option.bind_eq_some_iff.mp hf
        refine ry_call rfl rfl rfl rfl rfl (tX12_dueBy hv2) ?_
        iterate 2 (refine ry_step rfl rfl ?_)
        refine ry_br hf (fun hc hf => ?_) (fun hc hf => ?_)
        · iterate 2 (refine ry_step rfl rfl ?_)
          refine ry_sub [1, 2, 0] rfl rfl ?_
          exact ih l1 (l2 + (Int32.ofInt 1)) S hf _
        · iterate 6 (refine ry_step rfl rfl ?_)
          cases hf
          exact ry_ret rfl rfl
def fX12_gather (N : Nat) (S : yS) : Option Int32 := pSt ((((Int32.ofInt 1) <<< ((S.2.2.1 266 0) &&& 31)) - (Int32.ofInt 1)) &&& ((S.2.2.1 266 12) ^^^ (Int32.ofInt (-1)))) fun w1 => lX12_gather N N w1 (Int32.ofInt 0) S
set_option maxRecDepth 4000 in
theorem tX12_gather {ro : xRo} {T : yK} {S : yS} {d N : Nat} {q : Int32} (hf : fX12_gather N  S = some q) : yEv ro xNo (yKx T) (d + 5) jX12_gather [.ref 265] S (some (.int q)) S := by
  refine ry_meth pX12_gather rfl (fun z => ?_)
  unfold fX12_gather at hf
  iterate 15 (refine ry_step rfl rfl ?_)
  refine ry_nmi hf (fun w1 hf => ?_)
  iterate 3 (refine ry_step rfl rfl ?_)
  refine ry_sub [2, 1, 0] rfl rfl ?_
  exact uX12_gather (ro := ro) _ w1 (Int32.ofInt 0) S hf _
