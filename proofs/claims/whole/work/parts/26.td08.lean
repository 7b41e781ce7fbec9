/-! ===== methods as functions, on ===== -/
def lJ7_fill_53178_127 (N : Nat) : Nat → Int32 → Int32 → Int32 → yS → Option yS
  | 0, _, _, _, _ => none
  | n + 1, l1, l2, l3, S => (if l3 ≤ l2 then some S else (ain 5 l2).bind fun j2 => pSt (ySa S 127 (upd (S.2.2.1 127) j2 l1)) fun S1 => lJ7_fill_53178_127 N n l1 (l2 + (Int32.ofInt 1)) l3 S1)
set_option maxRecDepth 4000 in
theorem uJ7_fill_53178_127 {ro : xRo} {T : yK} {d N : Nat} : ∀ n : Nat, (∀ (l1 : Int32) (l2 : Int32) (l3 : Int32) (S : yS) {S' : yS}, lJ7_fill_53178_127 N n l1 l2 l3 S = some S' → ∀ z, Ry ro xNo (yKx T) z (d + 0) mJ7_fill_53178 5 [(0, .ref 127), (1, .int l1), (2, .int l2), (3, .int l3)] [] S (none, yH (yKx T) z S')) := by
  intro n
  induction n with
  | zero => exact (by intro _ _ _ _ _ hf; cases hf)
  | succ n ih =>
    intro l1 l2 l3 S S' hf z
    unfold lJ7_fill_53178_127 at hf
    iterate 3 (refine ry_step rfl rfl ?_)
    refine ry_br hf (fun hc hf => ?_) (fun hc hf => ?_)
    · cases hf
      exact ry_ret rfl rfl
    · iterate 3 (refine ry_step rfl rfl ?_)
      refine ry_iast hf rfl rfl (fun j2 S1 hf => ?_)
      iterate 2 (refine ry_step rfl rfl ?_)
      refine ry_sub [1, 2, 0, 3] rfl rfl ?_
      exact ih l1 (l2 + (Int32.ofInt 1)) l3 S1 hf _
def fJ7_fill_53178_127 (N : Nat) (v1 : Int32) (S : yS) : Option yS := lJ7_fill_53178_127 N N v1 (Int32.ofInt 0) (Int32.ofNat 5) S
set_option maxRecDepth 4000 in
theorem tJ7_fill_53178_127 {ro : xRo} {T : yK} {S : yS} {d N : Nat} {v1 : Int32} {S' : yS} (hf : fJ7_fill_53178_127 N v1 S = some S') : yEv ro xNo (yKx T) (d + 1) jJ7_fill_53178 [.ref 127, .int v1] S (none) S' := by
  refine ry_meth pJ7_fill_53178 rfl (fun z => ?_)
  unfold fJ7_fill_53178_127 at hf
  iterate 5 (refine ry_step rfl rfl ?_)
  refine ry_sub [2, 3, 1, 0] rfl rfl ?_
  exact uJ7_fill_53178_127 (ro := ro) _ v1 (Int32.ofInt 0) (Int32.ofNat 5) S hf _
def lX4_seatsByShares (N : Nat) : Nat → Nat → Int32 → Int32 → Int32 → Int32 → yS → Option yS
  | 0, _, _, _, _, _, _ => none
  | n + 1, m, l1, l2, l3, l4, S => if m = 0 then (if l1 ≤ l2 then some S else lX4_seatsByShares N n 1 l1 l2 (Int32.ofInt 0) (Int32.ofInt 1) S) else (if (Int32.ofInt 5) ≤ l4 then (ain 5 l3).bind fun j3 => (ain 5 l3).bind fun j5 => pSt (ySa S 127 (upd (S.2.2.1 127) j5 ((S.2.2.1 127 j3) + (Int32.ofInt 1)))) fun S4 => lX4_seatsByShares N n 0 l1 (l2 + (Int32.ofInt 1)) 0 0 S4 else (ain 5 l4).bind fun j6 => (ain 5 l3).bind fun j7 => (ain 5 l3).bind fun j8 => (ain 5 l4).bind fun j9 => (if ((S.2.2.1 125 j6) * ((S.2.2.1 127 j7) + (Int32.ofInt 1))) ≤ ((S.2.2.1 125 j8) * ((S.2.2.1 127 j9) + (Int32.ofInt 1))) then lX4_seatsByShares N n 1 l1 l2 l3 (l4 + (Int32.ofInt 1)) S else lX4_seatsByShares N n 1 l1 l2 l4 (l4 + (Int32.ofInt 1)) S))
set_option maxRecDepth 4000 in
theorem uX4_seatsByShares {ro : xRo} {T : yK} {d N : Nat} : ∀ n : Nat, (∀ (l1 : Int32) (l2 : Int32) (l3 : Int32) (l4 : Int32) (S : yS) {S' : yS}, lX4_seatsByShares N n 0 l1 l2 l3 l4 S = some S' → ∀ z, Ry ro xNo (yKx T) z (d + 1) mX4_seatsByShares 10 [(0, .ref 124), (1, .int l1), (2, .int l2)] [] S (some (.ref 127), yH (yKx T) z S')) ∧ (∀ (l1 : Int32) (l2 : Int32) (l3 : Int32) (l4 : Int32) (S : yS) {S' : yS}, lX4_seatsByShares N n 1 l1 l2 l3 l4 S = some S' → ∀ z, Ry ro xNo (yKx T) z (d + 1) mX4_seatsByShares 20 [(0, .ref 124), (1, .int l1), (2, .int l2), (3, .int l3), (4, .int l4)] [] S (some (.ref 127), yH (yKx T) z S')) := by
  intro n
  induction n with
  | zero => exact ⟨(by intro _ _ _ _ _ _ hf; cases hf), (by intro _ _ _ _ _ _ hf; cases hf)⟩
  | succ n ih =>
    refine ⟨?_, ?_⟩
    · intro l1 l2 l3 l4 S S' hf z
      unfold lX4_seatsByShares at hf
      rw [if_pos rfl] at hf
      iterate 3 (refine ry_step rfl rfl ?_)
      refine ry_br hf (fun hc hf => ?_) (fun hc hf => ?_)
      · iterate 2 (refine ry_step rfl rfl ?_)
        cases hf
        exact ry_ret rfl rfl
      · iterate 4 (refine ry_step rfl rfl ?_)
        refine ry_sub [2, 3, 4, 1, 0] rfl rfl ?_
        exact ih.2 l1 l2 (Int32.ofInt 0) (Int32.ofInt 1) S hf _
    · intro l1 l2 l3 l4 S S' hf z
      unfold lX4_seatsByShares at hf
      rw [if_neg (by decide)] at hf; skip
      iterate 3 (refine ry_step rfl rfl ?_)
      refine ry_br hf (fun hc hf => ?_) (fun hc hf => ?_)
      · iterate 4 (refine ry_step rfl rfl ?_)
        refine ry_iald hf rfl rfl rfl (fun j3 hf => ?_)
        iterate 2 (refine ry_step rfl rfl ?_)
        refine ry_iast hf rfl rfl (fun j5 S4 hf => ?_)
        iterate 2 (refine ry_step rfl rfl ?_)
        refine ry_sub [1, 2, 0] rfl rfl ?_
        exact ih.1 l1 (l2 + (Int32.ofInt 1)) 0 0 S4 hf _
      · iterate 3 (refine ry_step rfl rfl ?_)
        refine ry_iald hf rfl rfl rfl (fun j6 hf => ?_)
        iterate 3 (refine ry_step rfl rfl ?_)
        refine ry_iald hf rfl rfl rfl (fun j7 hf => ?_)
        iterate 6 (refine ry_step rfl rfl ?_)
        refine ry_iald hf rfl rfl rfl (fun j8 hf => ?_)
        iterate 3 (refine ry_step rfl rfl ?_)
        refine ry_iald hf rfl rfl rfl (fun j9 hf => ?_)
        iterate 4 (refine ry_step rfl rfl ?_)
        refine ry_br hf (fun hc hf => ?_) (fun hc hf => ?_)
        · iterate 2 (refine ry_step rfl rfl ?_)
          refine ry_sub [1, 2, 3, 4, 0] rfl rfl ?_
          exact ih.2 l1 l2 l3 (l4 + (Int32.ofInt 1)) S hf _
        · iterate 4 (refine ry_step rfl rfl ?_)
          refine ry_sub [2, 3, 4, 1, 0] rfl rfl ?_
          exact ih.2 l1 l2 l4 (l4 + (Int32.ofInt 1)) S hf _
def fX4_seatsByShares (N : Nat) (v0 : Int32) (S : yS) : Option yS := (fJ7_fill_53178_127 N (Int32.ofInt 0) S).bind fun S2 => lX4_seatsByShares N N 0 v0 (Int32.ofInt 0) 0 0 S2
set_option maxRecDepth 4000 in
theorem tX4_seatsByShares {ro : xRo} {T : yK} {S : yS} {d N : Nat} {v0 : Int32} {S' : yS} (hf : fX4_seatsByShares N v0 S = some S') : yEv ro xNo (yKx T) (d + 2) jX4_seatsByShares [.ref 124, .int v0] S (some (.ref 127)) S' := by
  refine ry_meth pX4_seatsByShares rfl (fun z => ?_)
  unfold fX4_seatsByShares at hf
  iterate 3 (refine ry_step rfl rfl ?_)
  obtain ⟨S2, hv1, hf⟩ := Option.bind_eq_some_iff.mp hf
  refine ry_call rfl rfl rfl rfl rfl (tJ7_fill_53178_127 hv1) ?_
  iterate 2 (refine ry_step rfl rfl ?_)
  refine ry_sub [1, 2, 0] rfl rfl ?_
  exact (uX4_seatsByShares (ro := ro) _).1 v0 (Int32.ofInt 0) 0 0 S2 hf _
def lX4_seatsByRests (N : Nat) : Nat → Nat → Int32 → Int32 → Int32 → Int32 → Int32 → Int32 → yS → Option yS
  | 0, _, _, _, _, _, _, _, _ => none
  | n + 1, m, l1, l2, l3, l4, l5, l6, S => if m = 0 then (if (Int32.ofInt 5) ≤ l4 then lX4_seatsByRests N n 1 0 0 l3 (Int32.ofInt 0) 0 0 S else (ain 5 l4).bind fun j3 => (if l2 ≤ 0 then (ain 5 l4).bind fun j11 => pSt (ySa S 128 (upd (S.2.2.1 128) j11 (Int32.ofInt 0))) fun S4 => (if l2 ≤ 0 then (ain 5 l4).bind fun j7 => pSt (ySa S4 129 (upd (S4.2.2.1 129) j7 (Int32.ofInt 0))) fun S5 => (ain 5 l4).bind fun j6 => lX4_seatsByRests N n 0 l1 l2 (l3 - (S5.2.2.1 128 j6)) (l4 + (Int32.ofInt 1)) 0 0 S5 else (if l2 = 0 then none else (ain 5 l4).bind fun j10 => pSt (ySa S4 129 (upd (S4.2.2.1 129) j10 (((S.2.2.1 125 j3) * l1) - ((S.2.2.1 125 j3) * l1) / l2 * l2))) fun S8 => (ain 5 l4).bind fun j9 => lX4_seatsByRests N n 0 l1 l2 (l3 - (S8.2.2.1 128 j9)) (l4 + (Int32.ofInt 1)) 0 0 S8)) else (if l2 = 0 then none else (ain 5 l4).bind fun j19 => pSt (ySa S 128 (upd (S.2.2.1 128) j19 (((S.2.2.1 125 j3) * l1) / l2))) fun S12 => (if l2 ≤ 0 then (ain 5 l4).bind fun j15 => pSt (ySa S12 129 (upd (S12.2.2.1 129) j15 (Int32.ofInt 0))) fun S13 => (ain 5 l4).bind fun j14 => lX4_seatsByRests N n 0 l1 l2 (l3 - (S13.2.2.1 128 j14)) (l4 + (Int32.ofInt 1)) 0 0 S13 else (if l2 = 0 then none else (ain 5 l4).bind fun j18 => pSt (ySa S12 129 (upd (S12.2.2.1 129) j18 (((S.2.2.1 125 j3) * l1) - ((S.2.2.1 125 j3) * l1) / l2 * l2))) fun S16 => (ain 5 l4).bind fun j17 => lX4_seatsByRests N n 0 l1 l2 (l3 - (S16.2.2.1 128 j17)) (l4 + (Int32.ofInt 1)) 0 0 S16))))) else if m = 1 then (if l3 ≤ l4 then some S else lX4_seatsByRests N n 2 0 0 l3 l4 (Int32.ofInt 0) (Int32.ofInt 1) S) else (if (Int32.ofInt 5) ≤ l6 then (ain 5 l5).bind fun j20 => (ain 5 l5).bind fun j24 => pSt (ySa S 128 (upd (S.2.2.1 128) j24 ((S.2.2.1 128 j20) + (Int32.ofInt 1)))) fun S21 => (ain 5 l5).bind fun j23 => pSt (ySa S21 129 (upd (S21.2.2.1 129) j23 (Int32.ofInt (-1)))) fun S22 => lX4_seatsByRests N n 1 0 0 l3 (l4 + (Int32.ofInt 1)) 0 0 S22 else (ain 5 l6).bind fun j25 => (ain 5 l5).bind fun j26 => (if (S.2.2.1 129 j25) ≤ (S.2.2.1 129 j26) then lX4_seatsByRests N n 2 0 0 l3 l4 l5 (l6 + (Int32.ofInt 1)) S else lX4_seatsByRests N n 2 0 0 l3 l4 l6 (l6 + (Int32.ofInt 1)) S))
set_option maxRecDepth 4000 in
theorem uX4_seatsByRests {ro : xRo} {T : yK} {d N : Nat} : ∀ n : Nat, (∀ (l1 : Int32) (l2 : Int32) (l3 : Int32) (l4 : Int32) (l5 : Int32) (l6 : Int32) (S : yS) {S' : yS}, lX4_seatsByRests N n 0 l1 l2 l3 l4 l5 l6 S = some S' → ∀ z, Ry ro xNo (yKx T) z (d + 1) mX4_seatsByRests 10 [(0, .ref 124), (1, .int l1), (2, .int l2), (3, .int l3), (4, .int l4)] [] S (some (.ref 128), yH (yKx T) z S')) ∧ (∀ (l1 : Int32) (l2 : Int32) (l3 : Int32) (l4 : Int32) (l5 : Int32) (l6 : Int32) (S : yS) {S' : yS}, lX4_seatsByRests N n 1 l1 l2 l3 l4 l5 l6 S = some S' → ∀ z, Ry ro xNo (yKx T) z (d + 1) mX4_seatsByRests 84 [(0, .ref 124), (3, .int l3), (4, .int l4)] [] S (some (.ref 128), yH (yKx T) z S')) ∧ (∀ (l1 : Int32) (l2 : Int32) (l3 : Int32) (l4 : Int32) (l5 : Int32) (l6 : Int32) (S : yS) {S' : yS}, lX4_seatsByRests N n 2 l1 l2 l3 l4 l5 l6 S = some S' → ∀ z, Ry ro xNo (yKx T) z (d + 1) mX4_seatsByRests 96 [(0, .ref 124), (3, .int l3), (4, .int l4), (5, .int l5), (6, .int l6)] [] S (some (.ref 128), yH (yKx T) z S')) := by
  intro n
  induction n with
  | zero => exact ⟨(by intro _ _ _ _ _ _ _ _ hf; cases hf), (by intro _ _ _ _ _ _ _ _ hf; cases hf), (by intro _ _ _ _ _ _ _ _ hf; cases hf)⟩
  | succ n ih =>
    refine ⟨?_, ?_, ?_⟩
    · intro l1 l2 l3 l4 l5 l6 S S' hf z
      unfold lX4_seatsByRests at hf
      rw [if_pos rfl] at hf
      iterate 3 (refine ry_step rfl rfl ?_)
      refine ry_br hf (fun hc hf => ?_) (fun hc hf => ?_)
      · iterate 2 (refine ry_step rfl rfl ?_)
        refine ry_sub [1, 4, 0] rfl rfl ?_
        exact ih.2.1 0 0 l3 (Int32.ofInt 0) 0 0 S hf _
      · iterate 3 (refine ry_step rfl rfl ?_)
        refine ry_iald hf rfl rfl rfl (fun j3 hf => ?_)
        iterate 8 (refine ry_step rfl rfl ?_)
        refine ry_br hf (fun hc hf => ?_) (fun hc hf => ?_)
        · refine ry_step rfl rfl ?_
          refine ry_iast hf rfl rfl (fun j11 S4 hf => ?_)
          iterate 5 (refine ry_step rfl rfl ?_)
          refine ry_br hf (fun hc hf => ?_) (fun hc hf => ?_)
          · refine ry_step rfl rfl ?_
            refine ry_iast hf rfl rfl (fun j7 S5 hf => ?_)
            iterate 4 (refine ry_step rfl rfl ?_)
            refine ry_iald hf rfl rfl rfl (fun j6 hf => ?_)
            iterate 4 (refine ry_step rfl rfl ?_)
            refine ry_sub [3, 4, 5, 1, 0] rfl rfl ?_
            exact ih.1 l1 l2 (l3 - (S5.2.2.1 128 j6)) (l4 + (Int32.ofInt 1)) 0 0 S5 hf _
          · iterate 2 (refine ry_step rfl rfl ?_)
            refine ry_rem hf rfl (fun hf => ?_)
            refine ry_step rfl rfl ?_
            refine ry_iast hf rfl rfl (fun j10 S8 hf => ?_)
            iterate 4 (refine ry_step rfl rfl ?_)
            refine ry_iald hf rfl rfl rfl (fun j9 hf => ?_)
            iterate 4 (refine ry_step rfl rfl ?_)
            refine ry_sub [3, 4, 5, 1, 0] rfl rfl ?_
            exact ih.1 l1 l2 (l3 - (S8.2.2.1 128 j9)) (l4 + (Int32.ofInt 1)) 0 0 S8 hf _
        · iterate 2 (refine ry_step rfl rfl ?_)
          refine ry_div hf rfl (fun hf => ?_)
          refine ry_step rfl rfl ?_
          refine ry_iast hf rfl rfl (fun j19 S12 hf => ?_)
          iterate 5 (refine ry_step rfl rfl ?_)
          refine ry_br hf (fun hc hf => ?_) (fun hc hf => ?_)
          · refine ry_step rfl rfl ?_
            refine ry_iast hf rfl rfl (fun j15 S13 hf => ?_)
            iterate 4 (refine ry_step rfl rfl ?_)
            refine ry_iald hf rfl rfl rfl (fun j14 hf => ?_)
            iterate 4 (refine ry_step rfl rfl ?_)
            refine ry_sub [3, 4, 5, 1, 0] rfl rfl ?_
            exact ih.1 l1 l2 (l3 - (S13.2.2.1 128 j14)) (l4 + (Int32.ofInt 1)) 0 0 S13 hf _
          · iterate 2 (refine ry_step rfl rfl ?_)
            refine ry_rem hf rfl (fun hf => ?_)
            refine ry_step rfl rfl ?_
            refine ry_iast hf rfl rfl (fun j18 S16 hf => ?_)
            iterate 4 (refine ry_step rfl rfl ?_)
            refine ry_iald hf rfl rfl rfl (fun j17 hf => ?_)
            iterate 4 (refine ry_step rfl rfl ?_)
            refine ry_sub [3, 4, 5, 1, 0] rfl rfl ?_
            exact ih.1 l1 l2 (l3 - (S16.2.2.1 128 j17)) (l4 + (Int32.ofInt 1)) 0 0 S16 hf _
    · intro l1 l2 l3 l4 l5 l6 S S' hf z
      unfold lX4_seatsByRests at hf
      rw [if_neg (by decide)] at hf; rw [if_pos rfl] at hf
      iterate 3 (refine ry_step rfl rfl ?_)
      refine ry_br hf (fun hc hf => ?_) (fun hc hf => ?_)
      · iterate 2 (refine ry_step rfl rfl ?_)
        cases hf
        exact ry_ret rfl rfl
      · iterate 4 (refine ry_step rfl rfl ?_)
        refine ry_sub [2, 3, 4, 1, 0] rfl rfl ?_
        exact ih.2.2 0 0 l3 l4 (Int32.ofInt 0) (Int32.ofInt 1) S hf _
    · intro l1 l2 l3 l4 l5 l6 S S' hf z
      unfold lX4_seatsByRests at hf
      rw [if_neg (by decide)] at hf; rw [if_neg (by decide)] at hf; skip
      iterate 3 (refine ry_step rfl rfl ?_)
      refine ry_br hf (fun hc hf => ?_) (fun hc hf => ?_)
      · iterate 4 (refine ry_step rfl rfl ?_)
        refine ry_iald hf rfl rfl rfl (fun j20 hf => ?_)
        iterate 2 (refine ry_step rfl rfl ?_)
        refine ry_iast hf rfl rfl (fun j24 S21 hf => ?_)
        iterate 4 (refine ry_step rfl rfl ?_)
        refine ry_iast hf rfl rfl (fun j23 S22 hf => ?_)
        iterate 2 (refine ry_step rfl rfl ?_)
        refine ry_sub [1, 2, 0] rfl rfl ?_
        exact ih.2.1 0 0 l3 (l4 + (Int32.ofInt 1)) 0 0 S22 hf _
      · iterate 3 (refine ry_step rfl rfl ?_)
        refine ry_iald hf rfl rfl rfl (fun j25 hf => ?_)
        iterate 3 (refine ry_step rfl rfl ?_)
        refine ry_iald hf rfl rfl rfl (fun j26 hf => ?_)
        refine ry_step rfl rfl ?_
        refine ry_br hf (fun hc hf => ?_) (fun hc hf => ?_)
        · iterate 2 (refine ry_step rfl rfl ?_)
          refine ry_sub [1, 2, 3, 4, 0] rfl rfl ?_
          exact ih.2.2 0 0 l3 l4 l5 (l6 + (Int32.ofInt 1)) S hf _
        · iterate 4 (refine ry_step rfl rfl ?_)
          refine ry_sub [2, 3, 4, 1, 0] rfl rfl ?_
          exact ih.2.2 0 0 l3 l4 l6 (l6 + (Int32.ofInt 1)) S hf _
def fX4_seatsByRests (N : Nat) (v0 : Int32) (S : yS) : Option yS := (fX4_allVotes N  S).bind fun u2 => lX4_seatsByRests N N 0 v0 u2 v0 (Int32.ofInt 0) 0 0 S
set_option maxRecDepth 4000 in
theorem tX4_seatsByRests {ro : xRo} {T : yK} {S : yS} {d N : Nat} {v0 : Int32} {S' : yS} (hf : fX4_seatsByRests N v0 S = some S') : yEv ro xNo (yKx T) (d + 2) jX4_seatsByRests [.ref 124, .int v0] S (some (.ref 128)) S' := by
  refine ry_meth pX4_seatsByRests rfl (fun z => ?_)
  unfold fX4_seatsByRests at hf
  refine ry_step rfl rfl ?_
  obtain ⟨u2, hv1, hf⟩ := Option.bind_eq_some_iff.mp hf
  refine ry_call rfl rfl rfl rfl rfl (tX4_allVotes hv1) ?_
  iterate 5 (refine ry_step rfl rfl ?_)
  refine ry_sub [3, 4, 2, 1, 0] rfl rfl ?_
  exact (uX4_seatsByRests (ro := ro) _).1 v0 u2 v0 (Int32.ofInt 0) 0 0 S hf _
def lX4_differing (N : Nat) : Nat → Int32 → Int32 → yS → Option (Int32 × yS)
  | 0, _, _, _ => none
  | n + 1, l2, l3, S => (if (Int32.ofInt 5) ≤ l3 then some (l2, S) else (ain 5 l3).bind fun j5 => (ain 5 l3).bind fun j6 => (if (S.2.2.1 127 j5) = (S.2.2.1 128 j6) then lX4_differing N n l2 (l3 + (Int32.ofInt 1)) S else pSt (l2 ||| ((Int32.ofInt 1) <<< (l3 &&& 31))) fun w7 => lX4_differing N n w7 (l3 + (Int32.ofInt 1)) S))
set_option maxRecDepth 4000 in
theorem uX4_differing {ro : xRo} {T : yK} {d N : Nat} : ∀ n : Nat, (∀ (l2 : Int32) (l3 : Int32) (S : yS) {q : Int32} {S' : yS}, lX4_differing N n l2 l3 S = some (q, S') → ∀ z, Ry ro xNo (yKx T) z (d + 2) mX4_differing 16 [(0, .ref 124), (2, .int l2), (3, .int l3)] [] S (some (.int q), yH (yKx T) z S')) := by
  intro n
  induction n with
  | zero => exact (by intro _ _ _ _ _ hf; cases hf)
  | succ n ih =>
    intro l2 l3 S q S' hf z
    unfold lX4_differing at hf
    iterate 3 (refine ry_step rfl rfl ?_)
    refine ry_br hf (fun hc hf => ?_) (fun hc hf => ?_)
    · refine ry_step rfl rfl ?_
      cases hf
      exact ry_ret rfl rfl
    · iterate 3 (refine ry_step rfl rfl ?_)
      refine ry_iald hf rfl rfl rfl (fun j5 hf => ?_)
      iterate 3 (refine ry_step rfl rfl ?_)
      refine ry_iald hf rfl rfl rfl (fun j6 hf => ?_)
      refine ry_step rfl rfl ?_
      refine ry_br hf (fun hc hf => ?_) (fun hc hf => ?_)
      · iterate 2 (refine ry_step rfl rfl ?_)
        refine ry_sub [1, 2, 0] rfl rfl ?_
        exact ih l2 (l3 + (Int32.ofInt 1)) S hf _
      · iterate 5 (refine ry_step rfl rfl ?_)
        refine ry_nmi hf (fun w7 hf => ?_)
        iterate 3 (refine ry_step rfl rfl ?_)
        refine ry_sub [2, 1, 0] rfl rfl ?_
        exact ih w7 (l3 + (Int32.ofInt 1)) S hf _
def fX4_differing (N : Nat) (v0 : Int32) (S : yS) : Option (Int32 × yS) := (fX4_seatsByShares N v0 S).bind fun S2 => (fX4_seatsByRests N v0 S2).bind fun S4 => lX4_differing N N (Int32.ofInt 0) (Int32.ofInt 0) S4
set_option maxRecDepth 4000 in
theorem tX4_differing {ro : xRo} {T : yK} {S : yS} {d N : Nat} {v0 : Int32} {q : Int32} {S' : yS} (hf : fX4_differing N v0 S = some (q, S')) : yEv ro xNo (yKx T) (d + 3) jX4_differing [.ref 124, .int v0] S (some (.int q)) S' := by
  refine ry_meth pX4_differing rfl (fun z => ?_)
  unfold fX4_differing at hf
  iterate 2 (refine ry_step rfl rfl ?_)
  obtain ⟨S2, hv1, hf⟩ := Option.bind_eq_some_iff.mp hf
  refine ry_call rfl rfl rfl rfl rfl (tX4_seatsByShares hv1) ?_
  iterate 3 (refine ry_step rfl rfl ?_)
  obtain ⟨S4, hv3, hf⟩ := Option.bind_eq_some_iff.mp hf
  refine ry_call rfl rfl rfl rfl rfl (tX4_seatsByRests hv3) ?_
  iterate 5 (refine ry_step rfl rfl ?_)
  refine ry_sub [2, 1, 0] rfl rfl ?_
  exact uX4_differing (ro := ro) _ (Int32.ofInt 0) (Int32.ofInt 0) S4 hf _
def lJ7_fill_d0a16_262 (N : Nat) : Nat → Int64 → Int32 → Int32 → yS → Option yS
  | 0, _, _, _, _ => none
  | n + 1, l1, l3, l4, S => (if l4 ≤ l3 then some S else (ain 13 l3).bind fun j2 => pSt (ySl S 262 (vp_updL (S.2.2.2.1 262) j2 l1)) fun S1 => lJ7_fill_d0a16_262 N n l1 (l3 + (Int32.ofInt 1)) l4 S1)
set_option maxRecDepth 4000 in
theorem uJ7_fill_d0a16_262 {ro : xRo} {T : yK} {d N : Nat} : ∀ n : Nat, (∀ (l1 : Int64) (l3 : Int32) (l4 : Int32) (S : yS) {S' : yS}, lJ7_fill_d0a16_262 N n l1 l3 l4 S = some S' → ∀ z, Ry ro xNo (yKx T) z (d + 0) mJ7_fill_d0a16 6 [(0, .ref 262), (1, .long l1), (3, .int l3), (4, .int l4)] [] S (none, yH (yKx T) z S')) := by
  intro n
  induction n with
  | zero => exact (by intro _ _ _ _ _ hf; cases hf)
  | succ n ih =>
    intro l1 l3 l4 S S' hf z
    unfold lJ7_fill_d0a16_262 at hf
    iterate 3 (refine ry_step rfl rfl ?_)
    refine ry_br hf (fun hc hf => ?_) (fun hc hf => ?_)
    · cases hf
      exact ry_ret rfl rfl
    · iterate 3 (refine ry_step rfl rfl ?_)
      refine ry_last hf rfl rfl (fun j2 S1 hf => ?_)
      iterate 2 (refine ry_step rfl rfl ?_)
      refine ry_sub [1, 2, 0, 3] rfl rfl ?_
      exact ih l1 (l3 + (Int32.ofInt 1)) l4 S1 hf _
def fJ7_fill_d0a16_262 (N : Nat) (v1 : Int64) (S : yS) : Option yS := lJ7_fill_d0a16_262 N N v1 (Int32.ofInt 0) (Int32.ofNat 13) S
set_option maxRecDepth 4000 in
theorem tJ7_fill_d0a16_262 {ro : xRo} {T : yK} {S : yS} {d N : Nat} {v1 : Int64} {S' : yS} (hf : fJ7_fill_d0a16_262 N v1 S = some S') : yEv ro xNo (yKx T) (d + 1) jJ7_fill_d0a16 [.ref 262, .long v1] S (none) S' := by
  refine ry_meth pJ7_fill_d0a16 rfl (fun z => ?_)
  unfold fJ7_fill_d0a16_262 at hf
  iterate 5 (refine ry_step rfl rfl ?_)
  refine ry_sub [2, 3, 1, 0] rfl rfl ?_
  exact uJ7_fill_d0a16_262 (ro := ro) _ v1 (Int32.ofInt 0) (Int32.ofNat 13) S hf _
def fX7_begin (N : Nat) (S : yS) : Option yS := (fJ7_fill_d0a16_262 N (Int64.ofNat 0) S).bind fun S2 => pSt (ySl S2 262 (vp_updL (S2.2.2.2.1 262) 0 (Int64.ofNat 1))) fun S3 => pSt (ySi S3 261 1 (Int32.ofInt 0)) fun S4 => pSt (ySj S4 261 2 (Int64.ofNat 1)) fun S5 => some S5
set_option maxRecDepth 4000 in
theorem tX7_begin {ro : xRo} {T : yK} {S : yS} {d N : Nat} {S' : yS} (hf : fX7_begin N  S = some S') : yEv ro xNo (yKx T) (d + 2) jX7_begin [.ref 261] S (none) S' := by
  refine ry_meth pX7_begin rfl (fun z => ?_)
  unfold fX7_begin at hf
  iterate 3 (refine ry_step rfl rfl ?_)
  obtain ⟨S2, hv1, hf⟩ := Option.bind_eq_some_iff.mp hf
  refine ry_call rfl rfl rfl rfl rfl (tJ7_fill_d0a16_262 hv1) ?_
  iterate 4 (refine ry_step rfl rfl ?_)
  refine ry_stepS hf rfl rfl (fun S3 hf => ?_)
  iterate 2 (refine ry_step rfl rfl ?_)
  refine ry_stepS hf rfl rfl (fun S4 hf => ?_)
  iterate 2 (refine ry_step rfl rfl ?_)
  refine ry_stepS hf rfl rfl (fun S5 hf => ?_)
  cases hf
  exact ry_ret rfl rfl
def lX7_ofTrials (N : Nat) : Nat → Int32 → Int32 → Int32 → yS → Option yS
  | 0, _, _, _, _ => none
  | n + 1, l1, l2, l3, S => (if l1 ≤ l3 then some S else (fX7_addOne N l2 S).bind fun S4 => lX7_ofTrials N n l1 l2 (l3 + (Int32.ofInt 1)) S4)
set_option maxRecDepth 4000 in
theorem uX7_ofTrials {ro : xRo} {T : yK} {d N : Nat} : ∀ n : Nat, (∀ (l1 : Int32) (l2 : Int32) (l3 : Int32) (S : yS) {S' : yS}, lX7_ofTrials N n l1 l2 l3 S = some S' → ∀ z, Ry ro xNo (yKx T) z (d + 2) mX7_ofTrials 6 [(0, .ref 261), (1, .int l1), (2, .int l2), (3, .int l3)] [] S (none, yH (yKx T) z S')) := by
  intro n
  induction n with
  | zero => exact (by intro _ _ _ _ _ hf; cases hf)
  | succ n ih =>
    intro l1 l2 l3 S S' hf z
    unfold lX7_ofTrials at hf
    iterate 3 (refine ry_step rfl rfl ?_)
    refine ry_br hf (fun hc hf => ?_) (fun hc hf => ?_)
    · cases hf
      exact ry_ret rfl rfl
    · iterate 2 (refine ry_step rfl rfl ?_)
      obtain ⟨S4, hv3, hf⟩ := Option.bind_eq_some_iff.mp hf
      refine ry_call rfl rfl rfl rfl rfl (tX7_addOne hv3) ?_
      iterate 2 (refine ry_step rfl rfl ?_)
      refine ry_sub [1, 2, 3, 0] rfl rfl ?_
      exact ih l1 l2 (l3 + (Int32.ofInt 1)) S4 hf _
def fX7_ofTrials (N : Nat) (v0 : Int32) (v1 : Int32) (S : yS) : Option yS := (fX7_begin N  S).bind fun S2 => lX7_ofTrials N N v0 v1 (Int32.ofInt 0) S2
set_option maxRecDepth 4000 in
theorem tX7_ofTrials {ro : xRo} {T : yK} {S : yS} {d N : Nat} {v0 : Int32} {v1 : Int32} {S' : yS} (hf : fX7_ofTrials N v0 v1 S = some S') : yEv ro xNo (yKx T) (d + 3) jX7_ofTrials [.ref 261, .int v0, .int v1] S (none) S' := by
  refine ry_meth pX7_ofTrials rfl (fun z => ?_)
  unfold fX7_ofTrials at hf
  refine ry_step rfl rfl ?_
  obtain ⟨S2, hv1, hf⟩ := Option.bind_eq_some_iff.mp hf
  refine ry_call rfl rfl rfl rfl rfl (tX7_begin hv1) ?_
  iterate 2 (refine ry_step rfl rfl ?_)
  refine ry_sub [1, 2, 3, 0] rfl rfl ?_
  exact uX7_ofTrials (ro := ro) _ v0 v1 (Int32.ofInt 0) S2 hf _
def fX2_copy_t247_19 (S : yS) : Option yS := pSt (ySi S 247 0 (S.1 19 0)) fun S1 => pSt (ySi S1 247 1 (S1.1 19 1)) fun S2 => pSt (ySi S2 247 2 (S2.1 19 2)) fun S3 => pSt (ySi S3 247 3 (S3.1 19 3)) fun S4 => pSt (ySi S4 247 4 (S4.1 19 4)) fun S5 => pSt (ySi S5 247 5 (S5.1 19 5)) fun S6 => pSt (ySa S6 248 (va_cpy (S6.2.2.1 20) (S6.2.2.1 248) 0 0 8)) fun S7 => pSt (ySa S7 249 (va_cpy (S7.2.2.1 21) (S7.2.2.1 249) 0 0 25)) fun S8 => pSt (ySi S8 247 8 (S8.1 19 8)) fun S9 => some S9
set_option maxRecDepth 4000 in
theorem tX2_copy_t247_19 {ro : xRo} {T : yK} {S : yS} {d : Nat} {S' : yS} (hf : fX2_copy_t247_19  S = some S') : yEv ro xNo (yKx T) (d + 1) jX2_copy [.ref 247, .ref 19] S (none) S' := by
  refine ry_meth pX2_copy rfl (fun z => ?_)
  unfold fX2_copy_t247_19 at hf
  iterate 3 (refine ry_step rfl rfl ?_)
  refine ry_stepS hf rfl rfl (fun S1 hf => ?_)
  iterate 3 (refine ry_step rfl rfl ?_)
  refine ry_stepS hf rfl rfl (fun S2 hf => ?_)
  iterate 3 (refine ry_step rfl rfl ?_)
  refine ry_stepS hf rfl rfl (fun S3 hf => ?_)
  iterate 3 (refine ry_step rfl rfl ?_)
  refine ry_stepS hf rfl rfl (fun S4 hf => ?_)
  iterate 3 (refine ry_step rfl rfl ?_)
  refine ry_stepS hf rfl rfl (fun S5 hf => ?_)
  iterate 3 (refine ry_step rfl rfl ?_)
  refine ry_stepS hf rfl rfl (fun S6 hf => ?_)
  iterate 7 (refine ry_step rfl rfl ?_)
  refine ry_stepS hf rfl rfl (fun S7 hf => ?_)
  iterate 7 (refine ry_step rfl rfl ?_)
  refine ry_stepS hf rfl rfl (fun S8 hf => ?_)
  iterate 3 (refine ry_step rfl rfl ?_)
  refine ry_stepS hf rfl rfl (fun S9 hf => ?_)
  cases hf
  exact ry_ret rfl rfl
def fX2_copy_247 (S : yS) : Option yS := pSt (ySi S 19 0 (S.1 247 0)) fun S1 => pSt (ySi S1 19 1 (S1.1 247 1)) fun S2 => pSt (ySi S2 19 2 (S2.1 247 2)) fun S3 => pSt (ySi S3 19 3 (S3.1 247 3)) fun S4 => pSt (ySi S4 19 4 (S4.1 247 4)) fun S5 => pSt (ySi S5 19 5 (S5.1 247 5)) fun S6 => pSt (ySa S6 20 (va_cpy (S6.2.2.1 248) (S6.2.2.1 20) 0 0 8)) fun S7 => pSt (ySa S7 21 (va_cpy (S7.2.2.1 249) (S7.2.2.1 21) 0 0 25)) fun S8 => pSt (ySi S8 19 8 (S8.1 247 8)) fun S9 => some S9
set_option maxRecDepth 4000 in
theorem tX2_copy_247 {ro : xRo} {T : yK} {S : yS} {d : Nat} {S' : yS} (hf : fX2_copy_247  S = some S') : yEv ro xNo (yKx T) (d + 1) jX2_copy [.ref 19, .ref 247] S (none) S' := by
  refine ry_meth pX2_copy rfl (fun z => ?_)
  unfold fX2_copy_247 at hf
  iterate 3 (refine ry_step rfl rfl ?_)
  refine ry_stepS hf rfl rfl (fun S1 hf => ?_)
  iterate 3 (refine ry_step rfl rfl ?_)
  refine ry_stepS hf rfl rfl (fun S2 hf => ?_)
  iterate 3 (refine ry_step rfl rfl ?_)
  refine ry_stepS hf rfl rfl (fun S3 hf => ?_)
  iterate 3 (refine ry_step rfl rfl ?_)
  refine ry_stepS hf rfl rfl (fun S4 hf => ?_)
  iterate 3 (refine ry_step rfl rfl ?_)
  refine ry_stepS hf rfl rfl (fun S5 hf => ?_)
  iterate 3 (refine ry_step rfl rfl ?_)
  refine ry_stepS hf rfl rfl (fun S6 hf => ?_)
  iterate 7 (refine ry_step rfl rfl ?_)
  refine ry_stepS hf rfl rfl (fun S7 hf => ?_)
  iterate 7 (refine ry_step rfl rfl ?_)
  refine ry_stepS hf rfl rfl (fun S8 hf => ?_)
  iterate 3 (refine ry_step rfl rfl ?_)
  refine ry_stepS hf rfl rfl (fun S9 hf => ?_)
  cases hf
  exact ry_ret rfl rfl
def fX11_test (N : Nat) (v0 : Int32) (v1 : Int32) (v2 : Int32) (v3 : Int32) (S : yS) : Option (Int64 × yS) := (if (fX11_within v0 (Int32.ofInt 0) (Int32.ofInt 12)) = 0 then some ((Int64.ofInt (-1)), S) else (if (fX11_within v1 (Int32.ofInt 0) v0) = 0 then some ((Int64.ofInt (-1)), S) else (if ¬ (fX11_within v2 (Int32.ofInt 0) (Int32.ofInt 10)) = 0 then (fX7_ofTrials N v0 v2 S).bind fun S2 => (fX7_orMore N v1 S2).bind fun u4 => (fX11_lowest N u4 (S2.2.1 261 2) v3 S2).bind fun u6 => some (u6, S2) else some ((Int64.ofInt (-1)), S))))
set_option maxRecDepth 4000 in
theorem tX11_test {ro : xRo} {T : yK} {S : yS} {d N : Nat} {v0 : Int32} {v1 : Int32} {v2 : Int32} {v3 : Int32} {q : Int64} {S' : yS} (hf : fX11_test N v0 v1 v2 v3 S = some (q, S')) : yEv ro xNo (yKx T) (d + 4) jX11_test [.ref 16, .int v0, .int v1, .int v2, .int v3] S (some (.long q)) S' := by
  refine ry_meth pX11_test rfl (fun z => ?_)
  unfold fX11_test at hf
  iterate 3 (refine ry_step rfl rfl ?_)
  refine ry_call rfl rfl rfl rfl rfl tX11_within ?_
  refine ry_step rfl rfl ?_
  refine ry_br hf (fun hc hf => ?_) (fun hc hf => ?_)
  · refine ry_step rfl rfl ?_
    cases hf
    exact ry_ret rfl rfl
  · iterate 3 (refine ry_step rfl rfl ?_)
    refine ry_call rfl rfl rfl rfl rfl tX11_within ?_
    refine ry_step rfl rfl ?_
    refine ry_br hf (fun hc hf => ?_) (fun hc hf => ?_)
    · refine ry_step rfl rfl ?_
      cases hf
      exact ry_ret rfl rfl
    · iterate 3 (refine ry_step rfl rfl ?_)
      refine ry_call rfl rfl rfl rfl rfl tX11_within ?_
      refine ry_step rfl rfl ?_
      refine ry_br hf (fun hc hf => ?_) (fun hc hf => ?_)
      · iterate 4 (refine ry_step rfl rfl ?_)
        obtain ⟨S2, hv1, hf⟩ := Option.bind_eq_some_iff.mp hf
        refine ry_call rfl rfl rfl rfl rfl (tX7_ofTrials hv1) ?_
        iterate 3 (refine ry_step rfl rfl ?_)
        obtain ⟨u4, hv3, hf⟩ := Option.bind_eq_some_iff.mp hf
        refine ry_call rfl rfl rfl rfl rfl (tX7_orMore hv3) ?_
        iterate 4 (refine ry_step rfl rfl ?_)
        obtain ⟨u6, hv5, hf⟩ := Option.bind_eq_some_iff.mp hf
        refine ry_call rfl rfl rfl rfl rfl (tX11_lowest hv5) ?_
        cases hf
        exact ry_ret rfl rfl
      · refine ry_step rfl rfl ?_
        cases hf
        exact ry_ret rfl rfl
def lX11_leastBound (N : Nat) : Nat → Int32 → Int32 → yS → Option (Int32 × yS)
  | 0, _, _, _ => none
  | n + 1, l1, l3, S => (if l1 < l3 then some ((Int32.ofInt (-1)), S) else (fX7_orMore N l3 S).bind fun u4 => (if 0 < (lg_cmp (u4 * (Int64.ofInt 20)) (S.2.1 261 2)) then lX11_leastBound N n l1 (l3 + (Int32.ofInt 1)) S else some (l3, S)))
set_option maxRecDepth 4000 in
theorem uX11_leastBound {ro : xRo} {T : yK} {d N : Nat} : ∀ n : Nat, (∀ (l1 : Int32) (l3 : Int32) (S : yS) {q : Int32} {S' : yS}, lX11_leastBound N n l1 l3 S = some (q, S') → ∀ z, Ry ro xNo (yKx T) z (d + 3) mX11_leastBound 11 [(0, .ref 16), (1, .int l1), (3, .int l3)] [] S (some (.int q), yH (yKx T) z S')) := by
  intro n
  induction n with
  | zero => exact (by intro _ _ _ _ _ hf; cases hf)
  | succ n ih =>
    intro l1 l3 S q S' hf z
    unfold lX11_leastBound at hf
    iterate 3 (refine ry_step rfl rfl ?_)
    refine ry_br hf (fun hc hf => ?_) (fun hc hf => ?_)
    · refine ry_step rfl rfl ?_
      cases hf
      exact ry_ret rfl rfl
    · iterate 3 (refine ry_step rfl rfl ?_)
      obtain ⟨u4, hv3, hf⟩ := Option.bind_eq_some_iff.mp hf
      refine ry_call rfl rfl rfl rfl rfl (tX7_orMore hv3) ?_
      iterate 7 (refine ry_step rfl rfl ?_)
      refine ry_br hf (fun hc hf => ?_) (fun hc hf => ?_)
      · iterate 2 (refine ry_step rfl rfl ?_)
        refine ry_sub [1, 2, 0] rfl rfl ?_
        exact ih l1 (l3 + (Int32.ofInt 1)) S hf _
      · refine ry_step rfl rfl ?_
        cases hf
        exact ry_ret rfl rfl
def fX11_leastBound (N : Nat) (v0 : Int32) (v1 : Int32) (S : yS) : Option (Int32 × yS) := (fX7_ofTrials N v0 v1 S).bind fun S2 => lX11_leastBound N N v0 (Int32.ofInt 0) S2
set_option maxRecDepth 4000 in
theorem tX11_leastBound {ro : xRo} {T : yK} {S : yS} {d N : Nat} {v0 : Int32} {v1 : Int32} {q : Int32} {S' : yS} (hf : fX11_leastBound N v0 v1 S = some (q, S')) : yEv ro xNo (yKx T) (d + 4) jX11_leastBound [.ref 16, .int v0, .int v1] S (some (.int q)) S' := by
  refine ry_meth pX11_leastBound rfl (fun z => ?_)
  unfold fX11_leastBound at hf
  iterate 4 (refine ry_step rfl rfl ?_)
  obtain ⟨S2, hv1, hf⟩ := Option.bind_eq_some_iff.mp hf
  refine ry_call rfl rfl rfl rfl rfl (tX7_ofTrials hv1) ?_
  iterate 2 (refine ry_step rfl rfl ?_)
  refine ry_sub [1, 2, 0] rfl rfl ?_
  exact uX11_leastBound (ro := ro) _ v0 (Int32.ofInt 0) S2 hf _
def fX11_bound (N : Nat) (v0 : Int32) (v1 : Int32) (S : yS) : Option (Int32 × yS) := (if (fX11_within v0 (Int32.ofInt 1) (Int32.ofInt 12)) = 0 then some ((Int32.ofInt (-1)), S) else (if (fX11_within v1 (Int32.ofInt 0) (Int32.ofInt 10)) = 0 then some ((Int32.ofInt (-1)), S) else (fX11_leastBound N v0 v1 S).bind fun (u3, S2) => some (u3, S2)))
set_option maxRecDepth 4000 in
theorem tX11_bound {ro : xRo} {T : yK} {S : yS} {d N : Nat} {v0 : Int32} {v1 : Int32} {q : Int32} {S' : yS} (hf : fX11_bound N v0 v1 S = some (q, S')) : yEv ro xNo (yKx T) (d + 5) jX11_bound [.ref 16, .int v0, .int v1] S (some (.int q)) S' := by
  refine ry_meth pX11_bound rfl (fun z => ?_)
  unfold fX11_bound at hf
  iterate 3 (refine ry_step rfl rfl ?_)
  refine ry_call rfl rfl rfl rfl rfl tX11_within ?_
  refine ry_step rfl rfl ?_
  refine ry_br hf (fun hc hf => ?_) (fun hc hf => ?_)
  · refine ry_step rfl rfl ?_
    cases hf
    exact ry_ret rfl rfl
  · iterate 3 (refine ry_step rfl rfl ?_)
    refine ry_call rfl rfl rfl rfl rfl tX11_within ?_
    refine ry_step rfl rfl ?_
    refine ry_br hf (fun hc hf => ?_) (fun hc hf => ?_)
    · refine ry_step rfl rfl ?_
      cases hf
      exact ry_ret rfl rfl
    · iterate 3 (refine ry_step rfl rfl ?_)
      obtain ⟨⟨u3, S2⟩, hv1, hf⟩ := Option.bind_eq_some_iff.mp hf
      dsimp only at hf
      refine ry_call rfl rfl rfl rfl rfl (tX11_leastBound hv1) ?_
      refine ry_step rfl rfl ?_
      cases hf
      exact ry_ret rfl rfl
def fX11_sure (N : Nat) (v0 : Int32) (v1 : Int32) (v2 : Int32) (v3 : Int32) (S : yS) : Option (Int64 × yS) := (if (fX11_within v0 (Int32.ofInt 1) (Int32.ofInt 12)) = 0 then some ((Int64.ofInt (-1)), S) else (if (fX11_within v1 (Int32.ofInt 0) (Int32.ofInt 10)) = 0 then some ((Int64.ofInt (-1)), S) else (if ¬ (fX11_within v2 (Int32.ofInt 0) (Int32.ofInt 10)) = 0 then (fX11_leastBound N v0 v1 S).bind fun (u3, S2) => (if ¬ u3 = (Int32.ofInt (-1)) then (fX7_ofTrials N v0 v2 S2).bind fun S5 => (fX7_orMore N u3 S5).bind fun u7 => (fX11_lowest N u7 (S5.2.1 261 2) v3 S5).bind fun u9 => some (u9, S5) else some ((Int64.ofInt (-1)), S2)) else some ((Int64.ofInt (-1)), S))))
set_option maxRecDepth 4000 in
theorem tX11_sure {ro : xRo} {T : yK} {S : yS} {d N : Nat} {v0 : Int32} {v1 : Int32} {v2 : Int32} {v3 : Int32} {q : Int64} {S' : yS} (hf : fX11_sure N v0 v1 v2 v3 S = some (q, S')) : yEv ro xNo (yKx T) (d + 5) jX11_sure [.ref 16, .int v0, .int v1, .int v2, .int v3] S (some (.long q)) S' := by
  refine ry_meth pX11_sure rfl (fun z => ?_)
  unfold fX11_sure at hf
  iterate 3 (refine ry_step rfl rfl ?_)
  refine ry_call rfl rfl rfl rfl rfl tX11_within ?_
  refine ry_step rfl rfl ?_
  refine ry_br hf (fun hc hf => ?_) (fun hc hf => ?_)
  · refine ry_step rfl rfl ?_
    cases hf
    exact ry_ret rfl rfl
  · iterate 3 (refine ry_step rfl rfl ?_)
    refine ry_call rfl rfl rfl rfl rfl tX11_within ?_
    refine ry_step rfl rfl ?_
    refine ry_br hf (fun hc hf => ?_) (fun hc hf => ?_)
    · refine ry_step rfl rfl ?_
      cases hf
      exact ry_ret rfl rfl
    · iterate 3 (refine ry_step rfl rfl ?_)
      refine ry_call rfl rfl rfl rfl rfl tX11_within ?_
      refine ry_step rfl rfl ?_
      refine ry_br hf (fun hc hf => ?_) (fun hc hf => ?_)
      · iterate 3 (refine ry_step rfl rfl ?_)
        obtain ⟨⟨u3, S2⟩, hv1, hf⟩ := Option.bind_eq_some_iff.mp hf
        dsimp only at hf
        refine ry_call rfl rfl rfl rfl rfl (tX11_leastBound hv1) ?_
        iterate 4 (refine ry_step rfl rfl ?_)
        refine ry_br hf (fun hc hf => ?_) (fun hc hf => ?_)
        · iterate 4 (refine ry_step rfl rfl ?_)
          obtain ⟨S5, hv4, hf⟩ := Option.bind_eq_some_iff.mp hf
          refine ry_call rfl rfl rfl rfl rfl (tX7_ofTrials hv4) ?_
          iterate 3 (refine ry_step rfl rfl ?_)
          obtain ⟨u7, hv6, hf⟩ := Option.bind_eq_some_iff.mp hf
          refine ry_call rfl rfl rfl rfl rfl (tX7_orMore hv6) ?_
          iterate 4 (refine ry_step rfl rfl ?_)
          obtain ⟨u9, hv8, hf⟩ := Option.bind_eq_some_iff.mp hf
          refine ry_call rfl rfl rfl rfl rfl (tX11_lowest hv8) ?_
          cases hf
          exact ry_ret rfl rfl
        · refine ry_step rfl rfl ?_
          cases hf
          exact ry_ret rfl rfl
      · refine ry_step rfl rfl ?_
        cases hf
        exact ry_ret rfl rfl
def fX11_seats (N : Nat) (v0 : Int32) (v1 : Int32) (v2 : Int32) (S : yS) : Option (Int32 × yS) := (if (fX11_isParish v0) = 0 then some ((Int32.ofInt (-1)), S) else (if (fX11_within v1 (Int32.ofInt 0) (Int32.ofInt 30)) = 0 then some ((Int32.ofInt (-1)), S) else (fX4_allVotes N  S).bind fun u2 => (if ¬ u2 = 0 then (if v2 = 0 then (fX4_seatsByShares N v1 S).bind fun S4 => (ain 5 v0).bind fun j5 => some ((S4.2.2.1 127 j5), S4) else (fX4_seatsByRests N v1 S).bind fun S7 => (ain 5 v0).bind fun j8 => some ((S7.2.2.1 128 j8), S7)) else some ((Int32.ofInt (-1)), S))))
set_option maxRecDepth 4000 in
theorem tX11_seats {ro : xRo} {T : yK} {S : yS} {d N : Nat} {v0 : Int32} {v1 : Int32} {v2 : Int32} {q : Int32} {S' : yS} (hf : fX11_seats N v0 v1 v2 S = some (q, S')) : yEv ro xNo (yKx T) (d + 3) jX11_seats [.ref 16, .int v0, .int v1, .int v2] S (some (.int q)) S' := by
  refine ry_meth pX11_seats rfl (fun z => ?_)
  unfold fX11_seats at hf
  refine ry_step rfl rfl ?_
  refine ry_call rfl rfl rfl rfl rfl tX11_isParish ?_
  refine ry_step rfl rfl ?_
  refine ry_br hf (fun hc hf => ?_) (fun hc hf => ?_)
  · refine ry_step rfl rfl ?_
    cases hf
    exact ry_ret rfl rfl
  · iterate 3 (refine ry_step rfl rfl ?_)
    refine ry_call rfl rfl rfl rfl rfl tX11_within ?_
    refine ry_step rfl rfl ?_
    refine ry_br hf (fun hc hf => ?_) (fun hc hf => ?_)
    · refine ry_step rfl rfl ?_
      cases hf
      exact ry_ret rfl rfl
    · iterate 3 (refine ry_step rfl rfl ?_)
      obtain ⟨u2, hv1, hf⟩ := Option.bind_eq_some_iff.mp hf
      refine ry_call rfl rfl rfl rfl rfl (tX4_allVotes hv1) ?_
      refine ry_step rfl rfl ?_
      refine ry_br hf (fun hc hf => ?_) (fun hc hf => ?_)
      · iterate 2 (refine ry_step rfl rfl ?_)
        refine ry_br hf (fun hc hf => ?_) (fun hc hf => ?_)
        · iterate 4 (refine ry_step rfl rfl ?_)
          obtain ⟨S4, hv3, hf⟩ := Option.bind_eq_some_iff.mp hf
          refine ry_call rfl rfl rfl rfl rfl (tX4_seatsByShares hv3) ?_
          refine ry_step rfl rfl ?_
          refine ry_iald hf rfl rfl rfl (fun j5 hf => ?_)
          cases hf
          exact ry_ret rfl rfl
        · iterate 4 (refine ry_step rfl rfl ?_)
          obtain ⟨S7, hv6, hf⟩ := Option.bind_eq_some_iff.mp hf
          refine ry_call rfl rfl rfl rfl rfl (tX4_seatsByRests hv6) ?_
          refine ry_step rfl rfl ?_
          refine ry_iald hf rfl rfl rfl (fun j8 hf => ?_)
          refine ry_step rfl rfl ?_
          cases hf
          exact ry_ret rfl rfl
      · refine ry_step rfl rfl ?_
        cases hf
        exact ry_ret rfl rfl
def fX11_unlike (N : Nat) (v0 : Int32) (S : yS) : Option (Int32 × yS) := (if (fX11_within v0 (Int32.ofInt 0) (Int32.ofInt 30)) = 0 then some ((Int32.ofInt (-1)), S) else (fX4_allVotes N  S).bind fun u2 => (if ¬ u2 = 0 then (fX4_differing N v0 S).bind fun (u5, S4) => some (u5, S4) else some ((Int32.ofInt (-1)), S)))
set_option maxRecDepth 4000 in
theorem tX11_unlike {ro : xRo} {T : yK} {S : yS} {d N : Nat} {v0 : Int32} {q : Int32} {S' : yS} (hf : fX11_unlike N v0 S = some (q, S')) : yEv ro xNo (yKx T) (d + 4) jX11_unlike [.ref 16, .int v0] S (some (.int q)) S' := by
  refine ry_meth pX11_unlike rfl (fun z => ?_)
  unfold fX11_unlike at hf
  iterate 3 (refine ry_step rfl rfl ?_)
  refine ry_call rfl rfl rfl rfl rfl tX11_within ?_
  refine ry_step rfl rfl ?_
  refine ry_br hf (fun hc hf => ?_) (fun hc hf => ?_)
  · refine ry_step rfl rfl ?_
    cases hf
    exact ry_ret rfl rfl
  · iterate 3 (refine ry_step rfl rfl ?_)
    obtain ⟨u2, hv1, hf⟩ := Option.bind_eq_some_iff.mp hf
    refine ry_call rfl rfl rfl rfl rfl (tX4_allVotes hv1) ?_
    refine ry_step rfl rfl ?_
    refine ry_br hf (fun hc hf => ?_) (fun hc hf => ?_)
    · iterate 4 (refine ry_step rfl rfl ?_)
      obtain ⟨⟨u5, S4⟩, hv3, hf⟩ := Option.bind_eq_some_iff.mp hf
      dsimp only at hf
      refine ry_call rfl rfl rfl rfl rfl (tX4_differing hv3) ?_
      cases hf
      exact ry_ret rfl rfl
    · refine ry_step rfl rfl ?_
      cases hf
      exact ry_ret rfl rfl
def fX2_copy_t134_19 (S : yS) : Option yS := pSt (ySi S 134 0 (S.1 19 0)) fun S1 => pSt (ySi S1 134 1 (S1.1 19 1)) fun S2 => pSt (ySi S2 134 2 (S2.1 19 2)) fun S3 => pSt (ySi S3 134 3 (S3.1 19 3)) fun S4 => pSt (ySi S4 134 4 (S4.1 19 4)) fun S5 => pSt (ySi S5 134 5 (S5.1 19 5)) fun S6 => pSt (ySa S6 135 (va_cpy (S6.2.2.1 20) (S6.2.2.1 135) 0 0 8)) fun S7 => pSt (ySa S7 136 (va_cpy (S7.2.2.1 21) (S7.2.2.1 136) 0 0 25)) fun S8 => pSt (ySi S8 134 8 (S8.1 19 8)) fun S9 => some S9
set_option maxRecDepth 4000 in
theorem tX2_copy_t134_19 {ro : xRo} {T : yK} {S : yS} {d : Nat} {S' : yS} (hf : fX2_copy_t134_19  S = some S') : yEv ro xNo (yKx T) (d + 1) jX2_copy [.ref 134, .ref 19] S (none) S' := by
  refine ry_meth pX2_copy rfl (fun z => ?_)
  unfold fX2_copy_t134_19 at hf
  iterate 3 (refine ry_step rfl rfl ?_)
  refine ry_stepS hf rfl rfl (fun S1 hf => ?_)
  iterate 3 (refine ry_step rfl rfl ?_)
  refine ry_stepS hf rfl rfl (fun S2 hf => ?_)
  iterate 3 (refine ry_step rfl rfl ?_)
  refine ry_stepS hf rfl rfl (fun S3 hf => ?_)
  iterate 3 (refine ry_step rfl rfl ?_)
  refine ry_stepS hf rfl rfl (fun S4 hf => ?_)
  iterate 3 (refine ry_step rfl rfl ?_)
  refine ry_stepS hf rfl rfl (fun S5 hf => ?_)
  iterate 3 (refine ry_step rfl rfl ?_)
  refine ry_stepS hf rfl rfl (fun S6 hf => ?_)
  iterate 7 (refine ry_step rfl rfl ?_)
  refine ry_stepS hf rfl rfl (fun S7 hf => ?_)
  iterate 7 (refine ry_step rfl rfl ?_)
  refine ry_stepS hf rfl rfl (fun S8 hf => ?_)
  iterate 3 (refine ry_step rfl rfl ?_)
  refine ry_stepS hf rfl rfl (fun S9 hf => ?_)
  cases hf
  exact ry_ret rfl rfl
def fX2_copy_134 (S : yS) : Option yS := pSt (ySi S 19 0 (S.1 134 0)) fun S1 => pSt (ySi S1 19 1 (S1.1 134 1)) fun S2 => pSt (ySi S2 19 2 (S2.1 134 2)) fun S3 => pSt (ySi S3 19 3 (S3.1 134 3)) fun S4 => pSt (ySi S4 19 4 (S4.1 134 4)) fun S5 => pSt (ySi S5 19 5 (S5.1 134 5)) fun S6 => pSt (ySa S6 20 (va_cpy (S6.2.2.1 135) (S6.2.2.1 20) 0 0 8)) fun S7 => pSt (ySa S7 21 (va_cpy (S7.2.2.1 136) (S7.2.2.1 21) 0 0 25)) fun S8 => pSt (ySi S8 19 8 (S8.1 134 8)) fun S9 => some S9
set_option maxRecDepth 4000 in
theorem tX2_copy_134 {ro : xRo} {T : yK} {S : yS} {d : Nat} {S' : yS} (hf : fX2_copy_134  S = some S') : yEv ro xNo (yKx T) (d + 1) jX2_copy [.ref 19, .ref 134] S (none) S' := by
  refine ry_meth pX2_copy rfl (fun z => ?_)
  unfold fX2_copy_134 at hf
  iterate 3 (refine ry_step rfl rfl ?_)
  refine ry_stepS hf rfl rfl (fun S1 hf => ?_)
  iterate 3 (refine ry_step rfl rfl ?_)
  refine ry_stepS hf rfl rfl (fun S2 hf => ?_)
  iterate 3 (refine ry_step rfl rfl ?_)
  refine ry_stepS hf rfl rfl (fun S3 hf => ?_)
  iterate 3 (refine ry_step rfl rfl ?_)
  refine ry_stepS hf rfl rfl (fun S4 hf => ?_)
  iterate 3 (refine ry_step rfl rfl ?_)
  refine ry_stepS hf rfl rfl (fun S5 hf => ?_)
  iterate 3 (refine ry_step rfl rfl ?_)
  refine ry_stepS hf rfl rfl (fun S6 hf => ?_)
  iterate 7 (refine ry_step rfl rfl ?_)
  refine ry_stepS hf rfl rfl (fun S7 hf => ?_)
  iterate 7 (refine ry_step rfl rfl ?_)
  refine ry_stepS hf rfl rfl (fun S8 hf => ?_)
  iterate 3 (refine ry_step rfl rfl ?_)
  refine ry_stepS hf rfl rfl (fun S9 hf => ?_)
  cases hf
  exact ry_ret rfl rfl
def lX11_spreadOver (N : Nat) : Nat → Int32 → Int32 → Int32 → yS → Option yS
  | 0, _, _, _, _ => none
  | n + 1, l1, l2, l3, S => (if (Int32.ofInt 8) ≤ l3 then some S else (if (fX11_isIn l1 l3) = 0 then lX11_spreadOver N n l1 l2 (l3 + (Int32.ofInt 1)) S else (if (fX11_isIn l2 l3) = 0 then (ain 8 l3).bind fun j3 => (fX7_addOne N (S.2.2.1 263 j3) S).bind fun S5 => lX11_spreadOver N n l1 l2 (l3 + (Int32.ofInt 1)) S5 else (fX7_addOne N (Int32.ofInt 0) S).bind fun S7 => lX11_spreadOver N n l1 l2 (l3 + (Int32.ofInt 1)) S7)))
set_option maxRecDepth 4000 in
theorem uX11_spreadOver {ro : xRo} {T : yK} {d N : Nat} : ∀ n : Nat, (∀ (l1 : Int32) (l2 : Int32) (l3 : Int32) (S : yS) {S' : yS}, lX11_spreadOver N n l1 l2 l3 S = some S' → ∀ z, Ry ro xNo (yKx T) z (d + 2) mX11_spreadOver 9 [(0, .ref 16), (1, .int l1), (2, .int l2), (3, .int l3)] [] S (none, yH (yKx T) z S')) := by
  intro n
  induction n with
  | zero => exact (by intro _ _ _ _ _ hf; cases hf)
  | succ n ih =>
    intro l1 l2 l3 S S' hf z
    unfold lX11_spreadOver at hf
    iterate 3 (refine ry_step rfl rfl ?_)
    refine ry_br hf (fun hc hf => ?_) (fun hc hf => ?_)
    · cases hf
      exact ry_ret rfl rfl
    · iterate 2 (refine ry_step rfl rfl ?_)
      refine ry_call rfl rfl rfl rfl rfl tX11_isIn ?_
      refine ry_step rfl rfl ?_
      refine ry_br hf (fun hc hf => ?_) (fun hc hf => ?_)
      · iterate 2 (refine ry_step rfl rfl ?_)
        refine ry_sub [1, 2, 3, 0] rfl rfl ?_
        exact ih l1 l2 (l3 + (Int32.ofInt 1)) S hf _
      · iterate 4 (refine ry_step rfl rfl ?_)
        refine ry_call rfl rfl rfl rfl rfl tX11_isIn ?_
        refine ry_step rfl rfl ?_
        refine ry_br hf (fun hc hf => ?_) (fun hc hf => ?_)
        · iterate 3 (refine ry_step rfl rfl ?_)
          refine ry_iald hf rfl rfl rfl (fun j3 hf => ?_)
          obtain ⟨S5, hv4, hf⟩ := Option.bind_eq_some_iff.mp hf
          refine ry_call rfl rfl rfl rfl rfl (tX7_addOne hv4) ?_
          iterate 2 (refine ry_step rfl rfl ?_)
          refine ry_sub [1, 2, 3, 0] rfl rfl ?_
          exact ih l1 l2 (l3 + (Int32.ofInt 1)) S5 hf _
        · iterate 2 (refine ry_step rfl rfl ?_)
          obtain ⟨S7, hv6, hf⟩ := Option.bind_eq_some_iff.mp hf
          refine ry_call rfl rfl rfl rfl rfl (tX7_addOne hv6) ?_
          iterate 2 (refine ry_step rfl rfl ?_)
          refine ry_sub [1, 2, 3, 0] rfl rfl ?_
          exact ih l1 l2 (l3 + (Int32.ofInt 1)) S7 hf _
def fX11_spreadOver (N : Nat) (v0 : Int32) (v1 : Int32) (S : yS) : Option yS := (fX7_begin N  S).bind fun S2 => lX11_spreadOver N N v0 v1 (Int32.ofInt 0) S2
set_option maxRecDepth 4000 in
theorem tX11_spreadOver {ro : xRo} {T : yK} {S : yS} {d N : Nat} {v0 : Int32} {v1 : Int32} {S' : yS} (hf : fX11_spreadOver N v0 v1 S = some S') : yEv ro xNo (yKx T) (d + 3) jX11_spreadOver [.ref 16, .int v0, .int v1] S (none) S' := by
  refine ry_meth pX11_spreadOver rfl (fun z => ?_)
  unfold fX11_spreadOver at hf
  iterate 2 (refine ry_step rfl rfl ?_)
  obtain ⟨S2, hv1, hf⟩ := Option.bind_eq_some_iff.mp hf
  refine ry_call rfl rfl rfl rfl rfl (tX7_begin hv1) ?_
  iterate 2 (refine ry_step rfl rfl ?_)
  refine ry_sub [1, 2, 3, 0] rfl rfl ?_
  exact uX11_spreadOver (ro := ro) _ v0 v1 (Int32.ofInt 0) S2 hf _
def lX12_copy_266_267 (N : Nat) : Nat → Int32 → yS → Option yS
  | 0, _, _ => none
  | n + 1, l2, S => (if (Int32.ofInt 1338) ≤ l2 then some S else (ain 1338 l2).bind fun j1 => (ain 1338 l2).bind fun j3 => pSt (ySa S 267 (upd (S.2.2.1 267) j3 (S.2.2.1 266 j1))) fun S2 => lX12_copy_266_267 N n (l2 + (Int32.ofInt 1)) S2)
set_option maxRecDepth 4000 in
theorem uX12_copy_266_267 {ro : xRo} {T : yK} {d N : Nat} : ∀ n : Nat, (∀ (l2 : Int32) (S : yS) {S' : yS}, lX12_copy_266_267 N n l2 S = some S' → ∀ z, Ry ro xNo (yKx T) z (d + 0) mX12_copy 2 [(0, .ref 266), (1, .ref 267), (2, .int l2)] [] S (none, yH (yKx T) z S')) := by
  intro n
  induction n with
  | zero => exact (by intro _ _ _ hf; cases hf)
  | succ n ih =>
    intro l2 S S' hf z
    unfold lX12_copy_266_267 at hf
    iterate 3 (refine ry_step rfl rfl ?_)
    refine ry_br hf (fun hc hf => ?_) (fun hc hf => ?_)
    · cases hf
      exact ry_ret rfl rfl
    · iterate 4 (refine ry_step rfl rfl ?_)
      refine ry_iald hf rfl rfl rfl (fun j1 hf => ?_)
      refine ry_iast hf rfl rfl (fun j3 S2 hf => ?_)
      iterate 2 (refine ry_step rfl rfl ?_)
      refine ry_sub [1, 2, 0] rfl rfl ?_
      exact ih (l2 + (Int32.ofInt 1)) S2 hf _
def fX12_copy_266_267 (N : Nat) (S : yS) : Option yS := lX12_copy_266_267 N N (Int32.ofInt 0) S
set_option maxRecDepth 4000 in
theorem tX12_copy_266_267 {ro : xRo} {T : yK} {S : yS} {d N : Nat} {S' : yS} (hf : fX12_copy_266_267 N  S = some S') : yEv ro xNo (yKx T) (d + 1) jX12_copy [.ref 266, .ref 267] S (none) S' := by
  refine ry_meth pX12_copy rfl (fun z => ?_)
  unfold fX12_copy_266_267 at hf
  iterate 2 (refine ry_step rfl rfl ?_)
  refine ry_sub [1, 2, 0] rfl rfl ?_
  exact uX12_copy_266_267 (ro := ro) _ (Int32.ofInt 0) S hf _
def fX12_image (N : Nat) (S : yS) : Option (Int32 × yS) := (fX12_copy_266_267 N  S).bind fun S2 => some ((S2.2.2.1 266 6), S2)
set_option maxRecDepth 4000 in
theorem tX12_image {ro : xRo} {T : yK} {S : yS} {d N : Nat} {q : Int32} {S' : yS} (hf : fX12_image N  S = some (q, S')) : yEv ro xNo (yKx T) (d + 2) jX12_image [.ref 265] S (some (.int q)) S' := by
  refine ry_meth pX12_image rfl (fun z => ?_)
  unfold fX12_image at hf
  iterate 4 (refine ry_step rfl rfl ?_)
  obtain ⟨S2, hv1, hf⟩ := Option.bind_eq_some_iff.mp hf
  refine ry_call rfl rfl rfl rfl rfl (tX12_copy_266_267 hv1) ?_
  iterate 4 (refine ry_step rfl rfl ?_)
  cases hf
  exact ry_ret rfl rfl
def lX12_copy_267_266 (N : Nat) : Nat → Int32 → yS → Option yS
  | 0, _, _ => none
  | n + 1, l2, S => (if (Int32.ofInt 1338) ≤ l2 then some S else (ain 1338 l2).bind fun j1 => (ain 1338 l2).bind fun j3 => pSt (ySa S 266 (upd (S.2.2.1 266) j3 (S.2.2.1 267 j1))) fun S2 => lX12_copy_267_266 N n (l2 + (Int32.ofInt 1)) S2)
set_option maxRecDepth 4000 in
theorem uX12_copy_267_266 {ro : xRo} {T : yK} {d N : Nat} : ∀ n : Nat, (∀ (l2 : Int32) (S : yS) {S' : yS}, lX12_copy_267_266 N n l2 S = some S' → ∀ z, Ry ro xNo (yKx T) z (d + 0) mX12_copy 2 [(0, .ref 267), (1, .ref 266), (2, .int l2)] [] S (none, yH (yKx T) z S')) := by
  intro n
  induction n with
  | zero => exact (by intro _ _ _ hf; cases hf)
  | succ n ih =>
    intro l2 S S' hf z
    unfold lX12_copy_267_266 at hf
    iterate 3 (refine ry_step rfl rfl ?_)
    refine ry_br hf (fun hc hf => ?_) (fun hc hf => ?_)
    · cases hf
      exact ry_ret rfl rfl
    · iterate 4 (refine ry_step rfl rfl ?_)
      refine ry_iald hf rfl rfl rfl (fun j1 hf => ?_)
      refine ry_iast hf rfl rfl (fun j3 S2 hf => ?_)
      iterate 2 (refine ry_step rfl rfl ?_)
      refine ry_sub [1, 2, 0] rfl rfl ?_
      exact ih (l2 + (Int32.ofInt 1)) S2 hf _
def fX12_copy_267_266 (N : Nat) (S : yS) : Option yS := lX12_copy_267_266 N N (Int32.ofInt 0) S
set_option maxRecDepth 4000 in
theorem tX12_copy_267_266 {ro : xRo} {T : yK} {S : yS} {d N : Nat} {S' : yS} (hf : fX12_copy_267_266 N  S = some S') : yEv ro xNo (yKx T) (d + 1) jX12_copy [.ref 267, .ref 266] S (none) S' := by
  refine ry_meth pX12_copy rfl (fun z => ?_)
  unfold fX12_copy_267_266 at hf
  iterate 2 (refine ry_step rfl rfl ?_)
  refine ry_sub [1, 2, 0] rfl rfl ?_
  exact uX12_copy_267_266 (ro := ro) _ (Int32.ofInt 0) S hf _
def fX12_back (N : Nat) (S : yS) : Option (Int32 × yS) := (fX12_copy_267_266 N  S).bind fun S2 => some ((S2.2.2.1 266 6), S2)
set_option maxRecDepth 4000 in
theorem tX12_back {ro : xRo} {T : yK} {S : yS} {d N : Nat} {q : Int32} {S' : yS} (hf : fX12_back N  S = some (q, S')) : yEv ro xNo (yKx T) (d + 2) jX12_back [.ref 265] S (some (.int q)) S' := by
  refine ry_meth pX12_back rfl (fun z => ?_)
  unfold fX12_back at hf
  iterate 4 (refine ry_step rfl rfl ?_)
  obtain ⟨S2, hv1, hf⟩ := Option.bind_eq_some_iff.mp hf
  refine ry_call rfl rfl rfl rfl rfl (tX12_copy_267_266 hv1) ?_
  iterate 4 (refine ry_step rfl rfl ?_)
  cases hf
  exact ry_ret rfl rfl
