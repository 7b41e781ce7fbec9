/-! ===== the tape read: clause by clause, up to the new text ===== -/
def lX5_readTape (N : Nat) : Nat → Int32 → yS → Option yS
  | 0, _, _ => none
  | n + 1, l1, S => (if (Int32.ofInt 24) < l1 then some S else (fX5_kind  S).bind fun u11 => (if u11 = (Int32.ofInt 40) then some S else (fX5_readClause N  S).bind fun S13 => lX5_readTape N n (l1 + (Int32.ofInt 1)) S13))
set_option maxRecDepth 4000 in
theorem uX5_readTape {ro : xRo} {T : yK} {d N : Nat} : ∀ n : Nat, (∀ (l1 : Int32) (S : yS) {S' : yS}, lX5_readTape N n l1 S = some S' → ∀ z r, Ry ro xNo (yKx T) z (d + 212) mX5_readTape 69 [(0, .ref 250)] [] S' r → Ry ro xNo (yKx T) z (d + 212) mX5_readTape 44 [(0, .ref 250), (1, .int l1)] [] S r) := by
  intro n
  induction n with
  | zero => exact (by intro _ _ _ hf; cases hf)
  | succ n ih =>
    intro l1 S S' hf z r hk
    unfold lX5_readTape at hf
    iterate 3 (refine ry_step rfl rfl ?_)
    refine ry_br hf (fun hc hf => ?_) (fun hc hf => ?_)
    · cases hf
      refine ry_sub [0] rfl rfl ?_
      exact hk
    · refine ry_step rfl rfl ?_
      obtain ⟨u11, hv10, hf⟩ := Option.bind_eq_some_iff.mp hf
      refine ry_call rfl rfl rfl rfl rfl (tX5_kind hv10) ?_
      iterate 2 (refine ry_step rfl rfl ?_)
      refine ry_br hf (fun hc hf => ?_) (fun hc hf => ?_)
      · cases hf
        refine ry_sub [0] rfl rfl ?_
        exact hk
      · refine ry_step rfl rfl ?_
        obtain ⟨S13, hv12, hf⟩ := Option.bind_eq_some_iff.mp hf
        refine ry_call rfl rfl rfl rfl rfl (tX5_readClause hv12) ?_
        iterate 2 (refine ry_step rfl rfl ?_)
        refine ry_sub [1, 0] rfl rfl ?_
        exact ih (l1 + (Int32.ofInt 1)) S13 hf _ _ hk
def fX5_readTape (N : Nat) (S : yS) : Option yS := (fX9_scan N  S).bind fun S2 => pSt (ySi S2 250 1 (Int32.ofInt 0)) fun S3 => pSt (ySi S3 250 3 (Int32.ofInt 0)) fun S4 => pSt (ySi S4 250 4 (Int32.ofInt (-1))) fun S5 => pSt (ySi S5 250 7 (Int32.ofInt 0)) fun S6 => pSt (ySi S6 250 8 (Int32.ofInt (-1))) fun S7 => pSt (ySi S7 250 10 (Int32.ofInt (-1))) fun S8 => pSt (ySi S8 250 15 (Int32.ofInt 0)) fun S9 => lX5_readTape N N (Int32.ofInt 0) S9
set_option maxRecDepth 4000 in
theorem tX5_readTape {ro : xRo} {T : yK} {S : yS} {d N : Nat} {z : Nat × Nat} {r : xR} {S' : yS} (hf : fX5_readTape N  S = some S') (hk : Ry ro xNo (yKx T) z (d + 212) mX5_readTape 69 [(0, .ref 250)] [] S' r) : xEv ro xP xNo (d + 213) jX5_readTape [.ref 250] (yH (yKx T) z S) r := by
  refine ry_methx pX5_readTape rfl ?_
  unfold fX5_readTape at hf
  iterate 2 (refine ry_step rfl rfl ?_)
  obtain ⟨S2, hv1, hf⟩ := Option.bind_eq_some_iff.mp hf
  refine ry_call rfl rfl rfl rfl rfl (tX9_scan hv1) ?_
  iterate 2 (refine ry_step rfl rfl ?_)
  refine ry_stepS hf rfl rfl (fun S3 hf => ?_)
  iterate 2 (refine ry_step rfl rfl ?_)
  refine ry_stepS hf rfl rfl (fun S4 hf => ?_)
  iterate 2 (refine ry_step rfl rfl ?_)
  refine ry_stepS hf rfl rfl (fun S5 hf => ?_)
  iterate 2 (refine ry_step rfl rfl ?_)
  refine ry_stepS hf rfl rfl (fun S6 hf => ?_)
  iterate 2 (refine ry_step rfl rfl ?_)
  refine ry_stepS hf rfl rfl (fun S7 hf => ?_)
  iterate 2 (refine ry_step rfl rfl ?_)
  refine ry_stepS hf rfl rfl (fun S8 hf => ?_)
  iterate 2 (refine ry_step rfl rfl ?_)
  refine ry_stepS hf rfl rfl (fun S9 hf => ?_)
  iterate 2 (refine ry_step rfl rfl ?_)
  refine ry_sub [1, 0] rfl rfl ?_
  exact uX5_readTape (ro := ro) _ (Int32.ofInt 0) S9 hf _ _ hk
