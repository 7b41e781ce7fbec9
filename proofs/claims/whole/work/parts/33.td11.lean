/-! ===== the reader's nine methods that call each other, each by what it may call ===== -/
def rdJ (m : Nat) : Nat := [jX5_readSum, jX5_readProduct, jX5_readOne, jX5_readOpened, jX5_readChoice, jX5_readEither, jX5_readBoth, jX5_readAsk, jX5_readCompared].getD m 999
def rdA (m : Nat) (a b : Int32) : List Value := bif Nat.beq m 3 then [.ref 250, .int a, .int b] else [.ref 250, .int b]
def lX5_readSum (N : Nat) (R : Nat → Int32 → Int32 → yS → Option yS) : Nat → Int32 → Int32 → yS → Option yS
  | 0, _, _, _ => none
  | n + 1, l1, l2, S => (if (Int32.ofInt 300) ≤ l2 then some S else (fX5_kind  S).bind fun u4 => (if u4 = (Int32.ofInt 29) then (fX5_kind  S).bind fun u6 => pSt (ySi S 250 1 ((S.1 250 1) + (Int32.ofInt 1))) fun S7 => (R 1 0 l1 S7).bind fun S8 => (fX5_emit u6 (Int32.ofInt 0) S8).bind fun S11 => lX5_readSum N R n l1 (l2 + (Int32.ofInt 1)) S11 else (fX5_kind  S).bind fun u13 => (if ¬ u13 = (Int32.ofInt 30) then some S else (fX5_kind  S).bind fun u15 => pSt (ySi S 250 1 ((S.1 250 1) + (Int32.ofInt 1))) fun S16 => (R 1 0 l1 S16).bind fun S17 => (fX5_emit u15 (Int32.ofInt 0) S17).bind fun S20 => lX5_readSum N R n l1 (l2 + (Int32.ofInt 1)) S20)))
set_option maxRecDepth 4000 in
theorem uX5_readSum {ro : xRo} {T : yK} {d N : Nat} {R : Nat → Int32 → Int32 → yS → Option yS} (hR : ∀ m a b S S', R m a b S = some S' → yEv ro xNo (yKx T) (d + 10) (rdJ m) (rdA m a b) S none S') : ∀ n : Nat, (∀ (l1 : Int32) (l2 : Int32) (S : yS) {S' : yS}, lX5_readSum N R n l1 l2 S = some S' → ∀ z, Ry ro xNo (yKx T) z (d + 10) mX5_readSum 7 [(0, .ref 250), (1, .int l1), (2, .int l2)] [] S (none, yH (yKx T) z S')) := by
  intro n
  induction n with
  | zero => exact (by intro _ _ _ _ hf; cases hf)
  | succ n ih =>
    intro l1 l2 S S' hf z
    unfold lX5_readSum at hf
    iterate 3 (refine ry_step rfl rfl ?_)
    refine ry_br hf (fun hc hf => ?_) (fun hc hf => ?_)
    · cases hf
      exact ry_ret rfl rfl
    · refine ry_step rfl rfl ?_
      obtain ⟨u4, hv3, hf⟩ := Option.bind_eq_some_iff.mp hf
      refine ry_call rfl rfl rfl rfl rfl (tX5_kind hv3) ?_
      iterate 2 (refine ry_step rfl rfl ?_)
      refine ry_br hf (fun hc hf => ?_) (fun hc hf => ?_)
      · refine ry_step rfl rfl ?_
        obtain ⟨u6, hv5, hf⟩ := Option.bind_eq_some_iff.mp hf
        refine ry_call rfl rfl rfl rfl rfl (tX5_kind hv5) ?_
        iterate 6 (refine ry_step rfl rfl ?_)
        refine ry_stepS hf rfl rfl (fun S7 hf => ?_)
        iterate 2 (refine ry_step rfl rfl ?_)
        obtain ⟨S8, hv9, hf⟩ := Option.bind_eq_some_iff.mp hf
        refine ry_call rfl rfl rfl rfl rfl (hR 1 0 l1 _ _ hv9) ?_
        iterate 3 (refine ry_step rfl rfl ?_)
        obtain ⟨S11, hv10, hf⟩ := Option.bind_eq_some_iff.mp hf
        refine ry_call rfl rfl rfl rfl rfl (tX5_emit hv10) ?_
        iterate 2 (refine ry_step rfl rfl ?_)
        refine ry_sub [2, 3, 0] rfl rfl ?_
        exact ih l1 (l2 + (Int32.ofInt 1)) S11 hf _
      · refine ry_step rfl rfl ?_
        obtain ⟨u13, hv12, hf⟩ := Option.bind_eq_some_iff.mp hf
        refine ry_call rfl rfl rfl rfl rfl (tX5_kind hv12) ?_
        iterate 2 (refine ry_step rfl rfl ?_)
        refine ry_br hf (fun hc hf => ?_) (fun hc hf => ?_)
        · cases hf
          exact ry_ret rfl rfl
        · refine ry_step rfl rfl ?_
          obtain ⟨u15, hv14, hf⟩ := Option.bind_eq_some_iff.mp hf
          refine ry_call rfl rfl rfl rfl rfl (tX5_kind hv14) ?_
          iterate 6 (refine ry_step rfl rfl ?_)
          refine ry_stepS hf rfl rfl (fun S16 hf => ?_)
          iterate 2 (refine ry_step rfl rfl ?_)
          obtain ⟨S17, hv18, hf⟩ := Option.bind_eq_some_iff.mp hf
          refine ry_call rfl rfl rfl rfl rfl (hR 1 0 l1 _ _ hv18) ?_
          iterate 3 (refine ry_step rfl rfl ?_)
          obtain ⟨S20, hv19, hf⟩ := Option.bind_eq_some_iff.mp hf
          refine ry_call rfl rfl rfl rfl rfl (tX5_emit hv19) ?_
          iterate 2 (refine ry_step rfl rfl ?_)
          refine ry_sub [2, 3, 0] rfl rfl ?_
          exact ih l1 (l2 + (Int32.ofInt 1)) S20 hf _
def fX5_readSum (N : Nat) (R : Nat → Int32 → Int32 → yS → Option yS) (v0 : Int32) (S : yS) : Option yS := (R 1 0 v0 S).bind fun S1 => lX5_readSum N R N v0 (Int32.ofInt 0) S1
set_option maxRecDepth 4000 in
theorem tX5_readSum {ro : xRo} {T : yK} {S : yS} {d N : Nat} {v0 : Int32}  {R : Nat → Int32 → Int32 → yS → Option yS} (hR : ∀ m a b S S', R m a b S = some S' → yEv ro xNo (yKx T) (d + 10) (rdJ m) (rdA m a b) S none S') {S' : yS} (hf : fX5_readSum N R v0 S = some S') : yEv ro xNo (yKx T) (d + 11) jX5_readSum [.ref 250, .int v0] S (none) S' := by
  refine ry_meth pX5_readSum rfl (fun z => ?_)
  unfold fX5_readSum at hf
  iterate 2 (refine ry_step rfl rfl ?_)
  obtain ⟨S1, hv2, hf⟩ := Option.bind_eq_some_iff.mp hf
  refine ry_call rfl rfl rfl rfl rfl (hR 1 0 v0 _ _ hv2) ?_
  iterate 2 (refine ry_step rfl rfl ?_)
  refine ry_sub [1, 2, 0] rfl rfl ?_
  exact uX5_readSum (ro := ro) hR _ v0 (Int32.ofInt 0) S1 hf _
def lX5_readProduct (N : Nat) (R : Nat → Int32 → Int32 → yS → Option yS) : Nat → Int32 → Int32 → yS → Option yS
  | 0, _, _, _ => none
  | n + 1, l1, l2, S => (if (Int32.ofInt 300) ≤ l2 then some S else (fX5_kind  S).bind fun u4 => (if u4 = (Int32.ofInt 31) then (fX5_kind  S).bind fun u6 => pSt (ySi S 250 1 ((S.1 250 1) + (Int32.ofInt 1))) fun S7 => (R 2 0 l1 S7).bind fun S8 => (fX5_emit u6 (Int32.ofInt 0) S8).bind fun S11 => lX5_readProduct N R n l1 (l2 + (Int32.ofInt 1)) S11 else (fX5_kind  S).bind fun u13 => (if ¬ u13 = (Int32.ofInt 32) then some S else (fX5_kind  S).bind fun u15 => pSt (ySi S 250 1 ((S.1 250 1) + (Int32.ofInt 1))) fun S16 => (R 2 0 l1 S16).bind fun S17 => (fX5_emit u15 (Int32.ofInt 0) S17).bind fun S20 => lX5_readProduct N R n l1 (l2 + (Int32.ofInt 1)) S20)))
set_option maxRecDepth 4000 in
theorem uX5_readProduct {ro : xRo} {T : yK} {d N : Nat} {R : Nat → Int32 → Int32 → yS → Option yS} (hR : ∀ m a b S S', R m a b S = some S' → yEv ro xNo (yKx T) (d + 10) (rdJ m) (rdA m a b) S none S') : ∀ n : Nat, (∀ (l1 : Int32) (l2 : Int32) (S : yS) {S' : yS}, lX5_readProduct N R n l1 l2 S = some S' → ∀ z, Ry ro xNo (yKx T) z (d + 10) mX5_readProduct 7 [(0, .ref 250), (1, .int l1), (2, .int l2)] [] S (none, yH (yKx T) z S')) := by
  intro n
  induction n with
  | zero => exact (by intro _ _ _ _ hf; cases hf)
  | succ n ih =>
    intro l1 l2 S S' hf z
    unfold lX5_readProduct at hf
    iterate 3 (refine ry_step rfl rfl ?_)
    refine ry_br hf (fun hc hf => ?_) (fun hc hf => ?_)
    · cases hf
      exact ry_ret rfl rfl
    · refine ry_step rfl rfl ?_
      obtain ⟨u4, hv3, hf⟩ := Option.bind_eq_some_iff.mp hf
      refine ry_call rfl rfl rfl rfl rfl (tX5_kind hv3) ?_
      iterate 2 (refine ry_step rfl rfl ?_)
      refine ry_br hf (fun hc hf => ?_) (fun hc hf => ?_)
      · refine ry_step rfl rfl ?_
        obtain ⟨u6, hv5, hf⟩ := Option.bind_eq_some_iff.mp hf
        refine ry_call rfl rfl rfl rfl rfl (tX5_kind hv5) ?_
        iterate 6 (refine ry_step rfl rfl ?_)
        refine ry_stepS hf rfl rfl (fun S7 hf => ?_)
        iterate 2 (refine ry_step rfl rfl ?_)
        obtain ⟨S8, hv9, hf⟩ := Option.bind_eq_some_iff.mp hf
        refine ry_call rfl rfl rfl rfl rfl (hR 2 0 l1 _ _ hv9) ?_
        iterate 3 (refine ry_step rfl rfl ?_)
        obtain ⟨S11, hv10, hf⟩ := Option.bind_eq_some_iff.mp hf
        refine ry_call rfl rfl rfl rfl rfl (tX5_emit hv10) ?_
        iterate 2 (refine ry_step rfl rfl ?_)
        refine ry_sub [2, 3, 0] rfl rfl ?_
        exact ih l1 (l2 + (Int32.ofInt 1)) S11 hf _
      · refine ry_step rfl rfl ?_
        obtain ⟨u13, hv12, hf⟩ := Option.bind_eq_some_iff.mp hf
        refine ry_call rfl rfl rfl rfl rfl (tX5_kind hv12) ?_
        iterate 2 (refine ry_step rfl rfl ?_)
        refine ry_br hf (fun hc hf => ?_) (fun hc hf => ?_)
        · cases hf
          exact ry_ret rfl rfl
        · refine ry_step rfl rfl ?_
          obtain ⟨u15, hv14, hf⟩ := Option.bind_eq_some_iff.mp hf
          refine ry_call rfl rfl rfl rfl rfl (tX5_kind hv14) ?_
          iterate 6 (refine ry_step rfl rfl ?_)
          refine ry_stepS hf rfl rfl (fun S16 hf => ?_)
          iterate 2 (refine ry_step rfl rfl ?_)
          obtain ⟨S17, hv18, hf⟩ := Option.bind_eq_some_iff.mp hf
          refine ry_call rfl rfl rfl rfl rfl (hR 2 0 l1 _ _ hv18) ?_
          iterate 3 (refine ry_step rfl rfl ?_)
          obtain ⟨S20, hv19, hf⟩ := Option.bind_eq_some_iff.mp hf
          refine ry_call rfl rfl rfl rfl rfl (tX5_emit hv19) ?_
          iterate 2 (refine ry_step rfl rfl ?_)
          refine ry_sub [2, 3, 0] rfl rfl ?_
          exact ih l1 (l2 + (Int32.ofInt 1)) S20 hf _
def fX5_readProduct (N : Nat) (R : Nat → Int32 → Int32 → yS → Option yS) (v0 : Int32) (S : yS) : Option yS := (R 2 0 v0 S).bind fun S1 => lX5_readProduct N R N v0 (Int32.ofInt 0) S1
set_option maxRecDepth 4000 in
theorem tX5_readProduct {ro : xRo} {T : yK} {S : yS} {d N : Nat} {v0 : Int32}  {R : Nat → Int32 → Int32 → yS → Option yS} (hR : ∀ m a b S S', R m a b S = some S' → yEv ro xNo (yKx T) (d + 10) (rdJ m) (rdA m a b) S none S') {S' : yS} (hf : fX5_readProduct N R v0 S = some S') : yEv ro xNo (yKx T) (d + 11) jX5_readProduct [.ref 250, .int v0] S (none) S' := by
  refine ry_meth pX5_readProduct rfl (fun z => ?_)
  unfold fX5_readProduct at hf
  iterate 2 (refine ry_step rfl rfl ?_)
  obtain ⟨S1, hv2, hf⟩ := Option.bind_eq_some_iff.mp hf
  refine ry_call rfl rfl rfl rfl rfl (hR 2 0 v0 _ _ hv2) ?_
  iterate 2 (refine ry_step rfl rfl ?_)
  refine ry_sub [1, 2, 0] rfl rfl ?_
  exact uX5_readProduct (ro := ro) hR _ v0 (Int32.ofInt 0) S1 hf _
def fX5_readOne (N : Nat) (R : Nat → Int32 → Int32 → yS → Option yS) (v0 : Int32) (S : yS) : Option yS := (fX5_kind  S).bind fun u2 => (if ¬ u2 = (Int32.ofInt 38) then (if (fX11_within u2 (Int32.ofInt 0) (Int32.ofInt 8)) = 0 then (if ¬ (fX5_opensOne u2) = 0 then (if v0 < (Int32.ofInt 8) then pSt (ySi S 250 1 ((S.1 250 1) + (Int32.ofInt 1))) fun S3 => (R 3 u2 (v0 + (Int32.ofInt 1)) S3).bind fun S4 => some S4 else (fX5_fail (Int32.ofInt 3) S).bind fun S7 => some S7) else (fX5_fail (Int32.ofInt 1) S).bind fun S9 => some S9) else (fX5_readName u2 S).bind fun S11 => some S11) else (fX5_readNumber (Int32.ofInt 0) (Int32.ofInt 9999) S).bind fun (u14, S13) => (fX5_emit (Int32.ofInt 38) u14 S13).bind fun S16 => some S16)
set_option maxRecDepth 4000 in
theorem tX5_readOne {ro : xRo} {T : yK} {S : yS} {d N : Nat} {v0 : Int32}  {R : Nat → Int32 → Int32 → yS → Option yS} (hR : ∀ m a b S S', R m a b S = some S' → yEv ro xNo (yKx T) (d + 10) (rdJ m) (rdA m a b) S none S') {S' : yS} (hf : fX5_readOne N R v0 S = some S') : yEv ro xNo (yKx T) (d + 11) jX5_readOne [.ref 250, .int v0] S (none) S' := by
  refine ry_meth pX5_readOne rfl (fun z => ?_)
  unfold fX5_readOne at hf
  refine ry_step rfl rfl ?_
  obtain ⟨u2, hv1, hf⟩ := Option.bind_eq_some_iff.mp hf
  refine ry_call rfl rfl rfl rfl rfl (tX5_kind hv1) ?_
  iterate 4 (refine ry_step rfl rfl ?_)
  refine ry_br hf (fun hc hf => ?_) (fun hc hf => ?_)
  · iterate 3 (refine ry_step rfl rfl ?_)
    refine ry_call rfl rfl rfl rfl rfl tX11_within ?_
    refine ry_step rfl rfl ?_
    refine ry_br hf (fun hc hf => ?_) (fun hc hf => ?_)
    · refine ry_step rfl rfl ?_
      refine ry_call rfl rfl rfl rfl rfl tX5_opensOne ?_
      refine ry_step rfl rfl ?_
      refine ry_br hf (fun hc hf => ?_) (fun hc hf => ?_)
      · iterate 3 (refine ry_step rfl rfl ?_)
        refine ry_br hf (fun hc hf => ?_) (fun hc hf => ?_)
        · iterate 5 (refine ry_step rfl rfl ?_)
          refine ry_stepS hf rfl rfl (fun S3 hf => ?_)
          iterate 5 (refine ry_step rfl rfl ?_)
          obtain ⟨S4, hv5, hf⟩ := Option.bind_eq_some_iff.mp hf
          refine ry_call rfl rfl rfl rfl rfl (hR 3 u2 (v0 + (Int32.ofInt 1)) _ _ hv5) ?_
          cases hf
          exact ry_ret rfl rfl
        · iterate 2 (refine ry_step rfl rfl ?_)
          obtain ⟨S7, hv6, hf⟩ := Option.bind_eq_some_iff.mp hf
          refine ry_call rfl rfl rfl rfl rfl (tX5_fail hv6) ?_
          refine ry_step rfl rfl ?_
          cases hf
          exact ry_ret rfl rfl
      · iterate 2 (refine ry_step rfl rfl ?_)
        obtain ⟨S9, hv8, hf⟩ := Option.bind_eq_some_iff.mp hf
        refine ry_call rfl rfl rfl rfl rfl (tX5_fail hv8) ?_
        refine ry_step rfl rfl ?_
        cases hf
        exact ry_ret rfl rfl
    · iterate 2 (refine ry_step rfl rfl ?_)
      obtain ⟨S11, hv10, hf⟩ := Option.bind_eq_some_iff.mp hf
      refine ry_call rfl rfl rfl rfl rfl (tX5_readName hv10) ?_
      refine ry_step rfl rfl ?_
      cases hf
      exact ry_ret rfl rfl
  · iterate 5 (refine ry_step rfl rfl ?_)
    obtain ⟨⟨u14, S13⟩, hv12, hf⟩ := Option.bind_eq_some_iff.mp hf
    dsimp only at hf
    refine ry_call rfl rfl rfl rfl rfl (tX5_readNumber hv12) ?_
    obtain ⟨S16, hv15, hf⟩ := Option.bind_eq_some_iff.mp hf
    refine ry_call rfl rfl rfl rfl rfl (tX5_emit hv15) ?_
    refine ry_step rfl rfl ?_
    cases hf
    exact ry_ret rfl rfl
def fX5_readOpened (N : Nat) (R : Nat → Int32 → Int32 → yS → Option yS) (v0 : Int32) (v1 : Int32) (S : yS) : Option yS := (if ¬ v0 = (Int32.ofInt 33) then (if ¬ v0 = (Int32.ofInt 14) then (R 2 0 v1 S).bind fun S1 => (if ¬ v0 = (Int32.ofInt 30) then (fX5_emit v0 (Int32.ofInt 0) S1).bind fun S4 => some S4 else (fX5_emit (Int32.ofInt 41) (Int32.ofInt 0) S1).bind fun S6 => some S6) else (R 4 0 v1 S).bind fun S7 => some S7) else (R 0 0 v1 S).bind fun S9 => (fX5_expect (Int32.ofInt 34) S9).bind fun S12 => some S12)
set_option maxRecDepth 4000 in
theorem tX5_readOpened {ro : xRo} {T : yK} {S : yS} {d N : Nat} {v0 : Int32} {v1 : Int32}  {R : Nat → Int32 → Int32 → yS → Option yS} (hR : ∀ m a b S S', R m a b S = some S' → yEv ro xNo (yKx T) (d + 10) (rdJ m) (rdA m a b) S none S') {S' : yS} (hf : fX5_readOpened N R v0 v1 S = some S') : yEv ro xNo (yKx T) (d + 11) jX5_readOpened [.ref 250, .int v0, .int v1] S (none) S' := by
  refine ry_meth pX5_readOpened rfl (fun z => ?_)
  unfold fX5_readOpened at hf
  iterate 3 (refine ry_step rfl rfl ?_)
  refine ry_br hf (fun hc hf => ?_) (fun hc hf => ?_)
  · iterate 3 (refine ry_step rfl rfl ?_)
    refine ry_br hf (fun hc hf => ?_) (fun hc hf => ?_)
    · iterate 2 (refine ry_step rfl rfl ?_)
      obtain ⟨S1, hv2, hf⟩ := Option.bind_eq_some_iff.mp hf
      refine ry_call rfl rfl rfl rfl rfl (hR 2 0 v1 _ _ hv2) ?_
      iterate 4 (refine ry_step rfl rfl ?_)
      refine ry_br hf (fun hc hf => ?_) (fun hc hf => ?_)
      · iterate 2 (refine ry_step rfl rfl ?_)
        obtain ⟨S4, hv3, hf⟩ := Option.bind_eq_some_iff.mp hf
        refine ry_call rfl rfl rfl rfl rfl (tX5_emit hv3) ?_
        cases hf
        exact ry_ret rfl rfl
      · iterate 3 (refine ry_step rfl rfl ?_)
        obtain ⟨S6, hv5, hf⟩ := Option.bind_eq_some_iff.mp hf
        refine ry_call rfl rfl rfl rfl rfl (tX5_emit hv5) ?_
        cases hf
        exact ry_ret rfl rfl
    · iterate 2 (refine ry_step rfl rfl ?_)
      obtain ⟨S7, hv8, hf⟩ := Option.bind_eq_some_iff.mp hf
      refine ry_call rfl rfl rfl rfl rfl (hR 4 0 v1 _ _ hv8) ?_
      refine ry_step rfl rfl ?_
      cases hf
      exact ry_ret rfl rfl
  · iterate 2 (refine ry_step rfl rfl ?_)
    obtain ⟨S9, hv10, hf⟩ := Option.bind_eq_some_iff.mp hf
    refine ry_call rfl rfl rfl rfl rfl (hR 0 0 v1 _ _ hv10) ?_
    iterate 2 (refine ry_step rfl rfl ?_)
    obtain ⟨S12, hv11, hf⟩ := Option.bind_eq_some_iff.mp hf
    refine ry_call rfl rfl rfl rfl rfl (tX5_expect hv11) ?_
    refine ry_step rfl rfl ?_
    cases hf
    exact ry_ret rfl rfl
def fX5_readChoice (N : Nat) (R : Nat → Int32 → Int32 → yS → Option yS) (v0 : Int32) (S : yS) : Option yS := (R 5 0 v0 S).bind fun S1 => (fX5_expect (Int32.ofInt 15) S1).bind fun S4 => (fX5_emit (Int32.ofInt 15) (Int32.ofInt 0) S4).bind fun S6 => (R 0 0 v0 S6).bind fun S7 => (fX5_expect (Int32.ofInt 16) S7).bind fun S10 => (fX5_emit (Int32.ofInt 16) (Int32.ofInt 0) S10).bind fun S12 => (fX5_aim (S4.1 250 7) S12).bind fun S14 => (R 0 0 v0 S14).bind fun S15 => (fX5_expect (Int32.ofInt 17) S15).bind fun S18 => (fX5_aim (S10.1 250 7) S18).bind fun S20 => some S20
set_option maxRecDepth 4000 in
theorem tX5_readChoice {ro : xRo} {T : yK} {S : yS} {d N : Nat} {v0 : Int32}  {R : Nat → Int32 → Int32 → yS → Option yS} (hR : ∀ m a b S S', R m a b S = some S' → yEv ro xNo (yKx T) (d + 10) (rdJ m) (rdA m a b) S none S') {S' : yS} (hf : fX5_readChoice N R v0 S = some S') : yEv ro xNo (yKx T) (d + 11) jX5_readChoice [.ref 250, .int v0] S (none) S' := by
  refine ry_meth pX5_readChoice rfl (fun z => ?_)
  unfold fX5_readChoice at hf
  iterate 2 (refine ry_step rfl rfl ?_)
  obtain ⟨S1, hv2, hf⟩ := Option.bind_eq_some_iff.mp hf
  refine ry_call rfl rfl rfl rfl rfl (hR 5 0 v0 _ _ hv2) ?_
  iterate 2 (refine ry_step rfl rfl ?_)
  obtain ⟨S4, hv3, hf⟩ := Option.bind_eq_some_iff.mp hf
  refine ry_call rfl rfl rfl rfl rfl (tX5_expect hv3) ?_
  iterate 6 (refine ry_step rfl rfl ?_)
  obtain ⟨S6, hv5, hf⟩ := Option.bind_eq_some_iff.mp hf
  refine ry_call rfl rfl rfl rfl rfl (tX5_emit hv5) ?_
  iterate 2 (refine ry_step rfl rfl ?_)
  obtain ⟨S7, hv8, hf⟩ := Option.bind_eq_some_iff.mp hf
  refine ry_call rfl rfl rfl rfl rfl (hR 0 0 v0 _ _ hv8) ?_
  iterate 2 (refine ry_step rfl rfl ?_)
  obtain ⟨S10, hv9, hf⟩ := Option.bind_eq_some_iff.mp hf
  refine ry_call rfl rfl rfl rfl rfl (tX5_expect hv9) ?_
  iterate 6 (refine ry_step rfl rfl ?_)
  obtain ⟨S12, hv11, hf⟩ := Option.bind_eq_some_iff.mp hf
  refine ry_call rfl rfl rfl rfl rfl (tX5_emit hv11) ?_
  iterate 2 (refine ry_step rfl rfl ?_)
  obtain ⟨S14, hv13, hf⟩ := Option.bind_eq_some_iff.mp hf
  refine ry_call rfl rfl rfl rfl rfl (tX5_aim hv13) ?_
  iterate 2 (refine ry_step rfl rfl ?_)
  obtain ⟨S15, hv16, hf⟩ := Option.bind_eq_some_iff.mp hf
  refine ry_call rfl rfl rfl rfl rfl (hR 0 0 v0 _ _ hv16) ?_
  iterate 2 (refine ry_step rfl rfl ?_)
  obtain ⟨S18, hv17, hf⟩ := Option.bind_eq_some_iff.mp hf
  refine ry_call rfl rfl rfl rfl rfl (tX5_expect hv17) ?_
  iterate 2 (refine ry_step rfl rfl ?_)
  obtain ⟨S20, hv19, hf⟩ := Option.bind_eq_some_iff.mp hf
  refine ry_call rfl rfl rfl rfl rfl (tX5_aim hv19) ?_
  cases hf
  exact ry_ret rfl rfl
def lX5_readEither (N : Nat) (R : Nat → Int32 → Int32 → yS → Option yS) : Nat → Int32 → Int32 → yS → Option yS
  | 0, _, _, _ => none
  | n + 1, l1, l2, S => (if (Int32.ofInt 300) ≤ l2 then some S else (fX5_kind  S).bind fun u4 => (if ¬ u4 = (Int32.ofInt 13) then some S else pSt (ySi S 250 1 ((S.1 250 1) + (Int32.ofInt 1))) fun S5 => (R 6 0 l1 S5).bind fun S6 => (fX5_emit (Int32.ofInt 13) (Int32.ofInt 0) S6).bind fun S9 => lX5_readEither N R n l1 (l2 + (Int32.ofInt 1)) S9))
set_option maxRecDepth 4000 in
theorem uX5_readEither {ro : xRo} {T : yK} {d N : Nat} {R : Nat → Int32 → Int32 → yS → Option yS} (hR : ∀ m a b S S', R m a b S = some S' → yEv ro xNo (yKx T) (d + 10) (rdJ m) (rdA m a b) S none S') : ∀ n : Nat, (∀ (l1 : Int32) (l2 : Int32) (S : yS) {S' : yS}, lX5_readEither N R n l1 l2 S = some S' → ∀ z, Ry ro xNo (yKx T) z (d + 10) mX5_readEither 7 [(0, .ref 250), (1, .int l1), (2, .int l2)] [] S (none, yH (yKx T) z S')) := by
  intro n
  induction n with
  | zero => exact (by intro _ _ _ _ hf; cases hf)
  | succ n ih =>
    intro l1 l2 S S' hf z
    unfold lX5_readEither at hf
    iterate 3 (refine ry_step rfl rfl ?_)
    refine ry_br hf (fun hc hf => ?_) (fun hc hf => ?_)
    · cases hf
      exact ry_ret rfl rfl
    · refine ry_step rfl rfl ?_
      obtain ⟨u4, hv3, hf⟩ := Option.bind_eq_some_iff.mp hf
      refine ry_call rfl rfl rfl rfl rfl (tX5_kind hv3) ?_
      iterate 2 (refine ry_step rfl rfl ?_)
      refine ry_br hf (fun hc hf => ?_) (fun hc hf => ?_)
      · cases hf
        exact ry_ret rfl rfl
      · iterate 5 (refine ry_step rfl rfl ?_)
        refine ry_stepS hf rfl rfl (fun S5 hf => ?_)
        iterate 2 (refine ry_step rfl rfl ?_)
        obtain ⟨S6, hv7, hf⟩ := Option.bind_eq_some_iff.mp hf
        refine ry_call rfl rfl rfl rfl rfl (hR 6 0 l1 _ _ hv7) ?_
        iterate 3 (refine ry_step rfl rfl ?_)
        obtain ⟨S9, hv8, hf⟩ := Option.bind_eq_some_iff.mp hf
        refine ry_call rfl rfl rfl rfl rfl (tX5_emit hv8) ?_
        iterate 2 (refine ry_step rfl rfl ?_)
        refine ry_sub [1, 2, 0] rfl rfl ?_
        exact ih l1 (l2 + (Int32.ofInt 1)) S9 hf _
def fX5_readEither (N : Nat) (R : Nat → Int32 → Int32 → yS → Option yS) (v0 : Int32) (S : yS) : Option yS := (R 6 0 v0 S).bind fun S1 => lX5_readEither N R N v0 (Int32.ofInt 0) S1
set_option maxRecDepth 4000 in
theorem tX5_readEither {ro : xRo} {T : yK} {S : yS} {d N : Nat} {v0 : Int32}  {R : Nat → Int32 → Int32 → yS → Option yS} (hR : ∀ m a b S S', R m a b S = some S' → yEv ro xNo (yKx T) (d + 10) (rdJ m) (rdA m a b) S none S') {S' : yS} (hf : fX5_readEither N R v0 S = some S') : yEv ro xNo (yKx T) (d + 11) jX5_readEither [.ref 250, .int v0] S (none) S' := by
  refine ry_meth pX5_readEither rfl (fun z => ?_)
  unfold fX5_readEither at hf
  iterate 2 (refine ry_step rfl rfl ?_)
  obtain ⟨S1, hv2, hf⟩ := Option.bind_eq_some_iff.mp hf
  refine ry_call rfl rfl rfl rfl rfl (hR 6 0 v0 _ _ hv2) ?_
  iterate 2 (refine ry_step rfl rfl ?_)
  refine ry_sub [1, 2, 0] rfl rfl ?_
  exact uX5_readEither (ro := ro) hR _ v0 (Int32.ofInt 0) S1 hf _
def lX5_readBoth (N : Nat) (R : Nat → Int32 → Int32 → yS → Option yS) : Nat → Int32 → Int32 → yS → Option yS
  | 0, _, _, _ => none
  | n + 1, l1, l2, S => (if (Int32.ofInt 300) ≤ l2 then some S else (fX5_kind  S).bind fun u4 => (if ¬ u4 = (Int32.ofInt 12) then some S else pSt (ySi S 250 1 ((S.1 250 1) + (Int32.ofInt 1))) fun S5 => (R 7 0 l1 S5).bind fun S6 => (fX5_emit (Int32.ofInt 12) (Int32.ofInt 0) S6).bind fun S9 => lX5_readBoth N R n l1 (l2 + (Int32.ofInt 1)) S9))
set_option maxRecDepth 4000 in
theorem uX5_readBoth {ro : xRo} {T : yK} {d N : Nat} {R : Nat → Int32 → Int32 → yS → Option yS} (hR : ∀ m a b S S', R m a b S = some S' → yEv ro xNo (yKx T) (d + 10) (rdJ m) (rdA m a b) S none S') : ∀ n : Nat, (∀ (l1 : Int32) (l2 : Int32) (S : yS) {S' : yS}, lX5_readBoth N R n l1 l2 S = some S' → ∀ z, Ry ro xNo (yKx T) z (d + 10) mX5_readBoth 7 [(0, .ref 250), (1, .int l1), (2, .int l2)] [] S (none, yH (yKx T) z S')) := by
  intro n
  induction n with
  | zero => exact (by intro _ _ _ _ hf; cases hf)
  | succ n ih =>
    intro l1 l2 S S' hf z
    unfold lX5_readBoth at hf
    iterate 3 (refine ry_step rfl rfl ?_)
    refine ry_br hf (fun hc hf => ?_) (fun hc hf => ?_)
    · cases hf
      exact ry_ret rfl rfl
    · refine ry_step rfl rfl ?_
      obtain ⟨u4, hv3, hf⟩ := Option.bind_eq_some_iff.mp hf
      refine ry_call rfl rfl rfl rfl rfl (tX5_kind hv3) ?_
      iterate 2 (refine ry_step rfl rfl ?_)
      refine ry_br hf (fun hc hf => ?_) (fun hc hf => ?_)
      · cases hf
        exact ry_ret rfl rfl
      · iterate 5 (refine ry_step rfl rfl ?_)
        refine ry_stepS hf rfl rfl (fun S5 hf => ?_)
        iterate 2 (refine ry_step rfl rfl ?_)
        obtain ⟨S6, hv7, hf⟩ := Option.bind_eq_some_iff.mp hf
        refine ry_call rfl rfl rfl rfl rfl (hR 7 0 l1 _ _ hv7) ?_
        iterate 3 (refine ry_step rfl rfl ?_)
        obtain ⟨S9, hv8, hf⟩ := Option.bind_eq_some_iff.mp hf
        refine ry_call rfl rfl rfl rfl rfl (tX5_emit hv8) ?_
        iterate 2 (refine ry_step rfl rfl ?_)
        refine ry_sub [1, 2, 0] rfl rfl ?_
        exact ih l1 (l2 + (Int32.ofInt 1)) S9 hf _
def fX5_readBoth (N : Nat) (R : Nat → Int32 → Int32 → yS → Option yS) (v0 : Int32) (S : yS) : Option yS := (R 7 0 v0 S).bind fun S1 => lX5_readBoth N R N v0 (Int32.ofInt 0) S1
set_option maxRecDepth 4000 in
theorem tX5_readBoth {ro : xRo} {T : yK} {S : yS} {d N : Nat} {v0 : Int32}  {R : Nat → Int32 → Int32 → yS → Option yS} (hR : ∀ m a b S S', R m a b S = some S' → yEv ro xNo (yKx T) (d + 10) (rdJ m) (rdA m a b) S none S') {S' : yS} (hf : fX5_readBoth N R v0 S = some S') : yEv ro xNo (yKx T) (d + 11) jX5_readBoth [.ref 250, .int v0] S (none) S' := by
  refine ry_meth pX5_readBoth rfl (fun z => ?_)
  unfold fX5_readBoth at hf
  iterate 2 (refine ry_step rfl rfl ?_)
  obtain ⟨S1, hv2, hf⟩ := Option.bind_eq_some_iff.mp hf
  refine ry_call rfl rfl rfl rfl rfl (hR 7 0 v0 _ _ hv2) ?_
  iterate 2 (refine ry_step rfl rfl ?_)
  refine ry_sub [1, 2, 0] rfl rfl ?_
  exact uX5_readBoth (ro := ro) hR _ v0 (Int32.ofInt 0) S1 hf _
def fX5_readAsk (N : Nat) (R : Nat → Int32 → Int32 → yS → Option yS) (v0 : Int32) (S : yS) : Option yS := (fX5_kind  S).bind fun u2 => (if u2 = (Int32.ofInt 11) then (if v0 < (Int32.ofInt 8) then pSt (ySi S 250 1 ((S.1 250 1) + (Int32.ofInt 1))) fun S3 => (R 7 0 (v0 + (Int32.ofInt 1)) S3).bind fun S4 => (fX5_emit (Int32.ofInt 11) (Int32.ofInt 0) S4).bind fun S7 => some S7 else (fX5_fail (Int32.ofInt 3) S).bind fun S9 => some S9) else (R 8 0 v0 S).bind fun S10 => some S10)
set_option maxRecDepth 4000 in
theorem tX5_readAsk {ro : xRo} {T : yK} {S : yS} {d N : Nat} {v0 : Int32}  {R : Nat → Int32 → Int32 → yS → Option yS} (hR : ∀ m a b S S', R m a b S = some S' → yEv ro xNo (yKx T) (d + 10) (rdJ m) (rdA m a b) S none S') {S' : yS} (hf : fX5_readAsk N R v0 S = some S') : yEv ro xNo (yKx T) (d + 11) jX5_readAsk [.ref 250, .int v0] S (none) S' := by
  refine ry_meth pX5_readAsk rfl (fun z => ?_)
  unfold fX5_readAsk at hf
  refine ry_step rfl rfl ?_
  obtain ⟨u2, hv1, hf⟩ := Option.bind_eq_some_iff.mp hf
  refine ry_call rfl rfl rfl rfl rfl (tX5_kind hv1) ?_
  iterate 2 (refine ry_step rfl rfl ?_)
  refine ry_br hf (fun hc hf => ?_) (fun hc hf => ?_)
  · iterate 3 (refine ry_step rfl rfl ?_)
    refine ry_br hf (fun hc hf => ?_) (fun hc hf => ?_)
    · iterate 5 (refine ry_step rfl rfl ?_)
      refine ry_stepS hf rfl rfl (fun S3 hf => ?_)
      iterate 4 (refine ry_step rfl rfl ?_)
      obtain ⟨S4, hv5, hf⟩ := Option.bind_eq_some_iff.mp hf
      refine ry_call rfl rfl rfl rfl rfl (hR 7 0 (v0 + (Int32.ofInt 1)) _ _ hv5) ?_
      iterate 3 (refine ry_step rfl rfl ?_)
      obtain ⟨S7, hv6, hf⟩ := Option.bind_eq_some_iff.mp hf
      refine ry_call rfl rfl rfl rfl rfl (tX5_emit hv6) ?_
      cases hf
      exact ry_ret rfl rfl
    · iterate 2 (refine ry_step rfl rfl ?_)
      obtain ⟨S9, hv8, hf⟩ := Option.bind_eq_some_iff.mp hf
      refine ry_call rfl rfl rfl rfl rfl (tX5_fail hv8) ?_
      refine ry_step rfl rfl ?_
      cases hf
      exact ry_ret rfl rfl
  · iterate 2 (refine ry_step rfl rfl ?_)
    obtain ⟨S10, hv11, hf⟩ := Option.bind_eq_some_iff.mp hf
    refine ry_call rfl rfl rfl rfl rfl (hR 8 0 v0 _ _ hv11) ?_
    refine ry_step rfl rfl ?_
    cases hf
    exact ry_ret rfl rfl
def fX5_readCompared (N : Nat) (R : Nat → Int32 → Int32 → yS → Option yS) (v0 : Int32) (S : yS) : Option yS := (R 0 0 v0 S).bind fun S1 => (fX5_kind  S1).bind fun u4 => (if ¬ (fX11_within u4 (Int32.ofInt 25) (Int32.ofInt 28)) = 0 then pSt (ySi S1 250 1 ((S1.1 250 1) + (Int32.ofInt 1))) fun S5 => (R 0 0 v0 S5).bind fun S6 => (fX5_emit u4 (Int32.ofInt 0) S6).bind fun S9 => some S9 else (if (fX11_within u4 (Int32.ofInt 36) (Int32.ofInt 37)) = 0 then (fX5_fail (Int32.ofInt 1) S1).bind fun S11 => some S11 else pSt (ySi S1 250 1 ((S1.1 250 1) + (Int32.ofInt 1))) fun S12 => (R 0 0 v0 S12).bind fun S13 => (fX5_emit u4 (Int32.ofInt 0) S13).bind fun S16 => some S16))
set_option maxRecDepth 4000 in
theorem tX5_readCompared {ro : xRo} {T : yK} {S : yS} {d N : Nat} {v0 : Int32}  {R : Nat → Int32 → Int32 → yS → Option yS} (hR : ∀ m a b S S', R m a b S = some S' → yEv ro xNo (yKx T) (d + 10) (rdJ m) (rdA m a b) S none S') {S' : yS} (hf : fX5_readCompared N R v0 S = some S') : yEv ro xNo (yKx T) (d + 11) jX5_readCompared [.ref 250, .int v0] S (none) S' := by
  refine ry_meth pX5_readCompared rfl (fun z => ?_)
  unfold fX5_readCompared at hf
  iterate 2 (refine ry_step rfl rfl ?_)
  obtain ⟨S1, hv2, hf⟩ := Option.bind_eq_some_iff.mp hf
  refine ry_call rfl rfl rfl rfl rfl (hR 0 0 v0 _ _ hv2) ?_
  refine ry_step rfl rfl ?_
  obtain ⟨u4, hv3, hf⟩ := Option.bind_eq_some_iff.mp hf
  refine ry_call rfl rfl rfl rfl rfl (tX5_kind hv3) ?_
  iterate 4 (refine ry_step rfl rfl ?_)
  refine ry_call rfl rfl rfl rfl rfl tX11_within ?_
  refine ry_step rfl rfl ?_
  refine ry_br hf (fun hc hf => ?_) (fun hc hf => ?_)
  · iterate 5 (refine ry_step rfl rfl ?_)
    refine ry_stepS hf rfl rfl (fun S5 hf => ?_)
    iterate 2 (refine ry_step rfl rfl ?_)
    obtain ⟨S6, hv7, hf⟩ := Option.bind_eq_some_iff.mp hf
    refine ry_call rfl rfl rfl rfl rfl (hR 0 0 v0 _ _ hv7) ?_
    iterate 3 (refine ry_step rfl rfl ?_)
    obtain ⟨S9, hv8, hf⟩ := Option.bind_eq_some_iff.mp hf
    refine ry_call rfl rfl rfl rfl rfl (tX5_emit hv8) ?_
    refine ry_step rfl rfl ?_
    cases hf
    exact ry_ret rfl rfl
  · iterate 3 (refine ry_step rfl rfl ?_)
    refine ry_call rfl rfl rfl rfl rfl tX11_within ?_
    refine ry_step rfl rfl ?_
    refine ry_br hf (fun hc hf => ?_) (fun hc hf => ?_)
    · iterate 2 (refine ry_step rfl rfl ?_)
      obtain ⟨S11, hv10, hf⟩ := Option.bind_eq_some_iff.mp hf
      refine ry_call rfl rfl rfl rfl rfl (tX5_fail hv10) ?_
      cases hf
      exact ry_ret rfl rfl
    · iterate 5 (refine ry_step rfl rfl ?_)
      refine ry_stepS hf rfl rfl (fun S12 hf => ?_)
      iterate 2 (refine ry_step rfl rfl ?_)
      obtain ⟨S13, hv14, hf⟩ := Option.bind_eq_some_iff.mp hf
      refine ry_call rfl rfl rfl rfl rfl (hR 0 0 v0 _ _ hv14) ?_
      iterate 3 (refine ry_step rfl rfl ?_)
      obtain ⟨S16, hv15, hf⟩ := Option.bind_eq_some_iff.mp hf
      refine ry_call rfl rfl rfl rfl rfl (tX5_emit hv15) ?_
      refine ry_step rfl rfl ?_
      cases hf
      exact ry_ret rfl rfl
