/-! ===== methods as functions, on ===== -/
def fX0_textAt (T : yK) (v0 : Int32) (S : yS) : Option (Option Nat) := (fX0_hasText v0 S).bind fun u2 => (if u2 = 0 then some none else (ain 4 v0).bind fun j3 => optC (S.2.2.2.2 118 j3) (some none) (fun o4 => if yTx T o4 = true then some (some o4) else none))
set_option maxRecDepth 4000 in
theorem tX0_textAt {ro : xRo} {T : yK} {S : yS} {d : Nat} {v0 : Int32} {q : Option Nat} (hf : fX0_textAt T v0 S = some q) : yEv ro xNo (yKx T) (d + 2) jX0_textAt [.ref 18, .int v0] S (some (va_rf q)) S := by
  refine ry_meth pX0_textAt rfl (fun z => ?_)
  unfold fX0_textAt at hf
  iterate 2 (refine ry_step rfl rfl ?_)
  obtain ⟨u2, hv1, hf⟩ := Option.bind_eq_some_iff.mp hf
  refine ry_call rfl rfl rfl rfl rfl (tX0_hasText hv1) ?_
  refine ry_step rfl rfl ?_
  refine ry_br hf (fun hc hf => ?_) (fun hc hf => ?_)
  · refine ry_step rfl rfl ?_
    cases hf
    exact ry_ret rfl rfl
  · iterate 3 (refine ry_step rfl rfl ?_)
    refine ry_aaT (E2 := fun o4 => some (some o4)) hf rfl rfl (fun hf => ?_) (fun o4 ho4 hf => ?_)
    · refine ry_step rfl rfl ?_
      cases hf
      exact ry_ret rfl rfl
    · refine ry_step rfl rfl ?_
      cases hf
      exact ry_ret rfl rfl
def fX0_rulingText (T : yK) (S : yS) : Option (Option Nat) := (fX0_textAt T (S.1 18 9) S).bind fun t2 => optC t2 (some none) (fun o3 => if yTx T o3 = true then some (some o3) else none)
set_option maxRecDepth 4000 in
theorem tX0_rulingText {ro : xRo} {T : yK} {S : yS} {d : Nat} {q : Option Nat} (hf : fX0_rulingText T  S = some q) : yEv ro xNo (yKx T) (d + 3) jX0_rulingText [.ref 18] S (some (va_rf q)) S := by
  refine ry_meth pX0_rulingText rfl (fun z => ?_)
  unfold fX0_rulingText at hf
  iterate 3 (refine ry_step rfl rfl ?_)
  obtain ⟨t2, hv1, hf⟩ := Option.bind_eq_some_iff.mp hf
  refine ry_call rfl rfl rfl rfl rfl (tX0_textAt hv1) ?_
  cases t2 with
  | none =>
    dsimp only [optC] at hf
    cases hf
    exact ry_ret rfl rfl
  | some o3 =>
    dsimp only [optC] at hf
    split at hf
    · rename_i ho3
      cases hf
      exact ry_ret rfl rfl
    · cases hf
def lX1_run_T (N : Nat) (T : yK) (v0 : Nat) : Nat → Int32 → Int32 → Int32 → yS → Option (Int32 × yS)
  | 0, _, _, _, _ => none
  | n + 1, l4, l5, l6, S => (if l4 ≤ l6 then (if l5 < 0 then some ((Int32.ofInt 0), S) else (ain 301 l5).bind fun j3 => some ((S.2.2.1 132 j3), S)) else (ain (tLn T (v0 + 1)) l6).bind fun j4 => (ain (tLn T (v0 + 2)) l6).bind fun j5 => (if ¬ (S.2.2.1 (v0 + 1) j4) = (Int32.ofInt 16) then (if ¬ (S.2.2.1 (v0 + 1) j4) = (Int32.ofInt 15) then (if (fX1_isOfOne (S.2.2.1 (v0 + 1) j4)) = 0 then (if (fX1_isOfTwo (S.2.2.1 (v0 + 1) j4)) = 0 then (if (Int32.ofInt 300) ≤ l5 then lX1_run_T N T v0 n l4 l5 (l6 + (Int32.ofInt 1)) S else (if ¬ (S.2.2.1 (v0 + 1) j4) = (Int32.ofInt 38) then (fX1_named (S.2.2.1 (v0 + 1) j4) S).bind fun u7 => (ain 301 (l5 + (Int32.ofInt 1))).bind fun j9 => pSt (ySa S 132 (upd (S.2.2.1 132) j9 u7)) fun S8 => lX1_run_T N T v0 n l4 (l5 + (Int32.ofInt 1)) (l6 + (Int32.ofInt 1)) S8 else (ain 301 (l5 + (Int32.ofInt 1))).bind fun j11 => pSt (ySa S 132 (upd (S.2.2.1 132) j11 (S.2.2.1 (v0 + 2) j5))) fun S10 => lX1_run_T N T v0 n l4 (l5 + (Int32.ofInt 1)) (l6 + (Int32.ofInt 1)) S10)) else (if l5 < (Int32.ofInt 1) then (if (Int32.ofInt 300) ≤ l5 then lX1_run_T N T v0 n l4 l5 (l6 + (Int32.ofInt 1)) S else (if ¬ (S.2.2.1 (v0 + 1) j4) = (Int32.ofInt 38) then (fX1_named (S.2.2.1 (v0 + 1) j4) S).bind fun u13 => (ain 301 (l5 + (Int32.ofInt 1))).bind fun j15 => pSt (ySa S 132 (upd (S.2.2.1 132) j15 u13)) fun S14 => lX1_run_T N T v0 n l4 (l5 + (Int32.ofInt 1)) (l6 + (Int32.ofInt 1)) S14 else (ain 301 (l5 + (Int32.ofInt 1))).bind fun j17 => pSt (ySa S 132 (upd (S.2.2.1 132) j17 (S.2.2.1 (v0 + 2) j5))) fun S16 => lX1_run_T N T v0 n l4 (l5 + (Int32.ofInt 1)) (l6 + (Int32.ofInt 1)) S16)) else (ain 301 (l5 - (Int32.ofInt 1))).bind fun j18 => (ain 301 l5).bind fun j19 => (fX1_ofTwo (S.2.2.1 (v0 + 1) j4) (S.2.2.1 132 j18) (S.2.2.1 132 j19) S).bind fun u21 => (ain 301 (l5 - (Int32.ofInt 1))).bind fun j23 => pSt (ySa S 132 (upd (S.2.2.1 132) j23 u21)) fun S22 => lX1_run_T N T v0 n l4 (l5 + (Int32.ofInt (-1))) (l6 + (Int32.ofInt 1)) S22)) else (if l5 < 0 then (if (fX1_isOfTwo (S.2.2.1 (v0 + 1) j4)) = 0 then (if (Int32.ofInt 300) ≤ l5 then lX1_run_T N T v0 n l4 l5 (l6 + (Int32.ofInt 1)) S else (if ¬ (S.2.2.1 (v0 + 1) j4) = (Int32.ofInt 38) then (fX1_named (S.2.2.1 (v0 + 1) j4) S).bind fun u25 => (ain 301 (l5 + (Int32.ofInt 1))).bind fun j27 => pSt (ySa S 132 (upd (S.2.2.1 132) j27 u25)) fun S26 => lX1_run_T N T v0 n l4 (l5 + (Int32.ofInt 1)) (l6 + (Int32.ofInt 1)) S26 else (ain 301 (l5 + (Int32.ofInt 1))).bind fun j29 => pSt (ySa S 132 (upd (S.2.2.1 132) j29 (S.2.2.1 (v0 + 2) j5))) fun S28 => lX1_run_T N T v0 n l4 (l5 + (Int32.ofInt 1)) (l6 + (Int32.ofInt 1)) S28)) else (if l5 < (Int32.ofInt 1) then (if (Int32.ofInt 300) ≤ l5 then lX1_run_T N T v0 n l4 l5 (l6 + (Int32.ofInt 1)) S else (if ¬ (S.2.2.1 (v0 + 1) j4) = (Int32.ofInt 38) then (fX1_named (S.2.2.1 (v0 + 1) j4) S).bind fun u31 => (ain 301 (l5 + (Int32.ofInt 1))).bind fun j33 => pSt (ySa S 132 (upd (S.2.2.1 132) j33 u31)) fun S32 => lX1_run_T N T v0 n l4 (l5 + (Int32.ofInt 1)) (l6 + (Int32.ofInt 1)) S32 else (ain 301 (l5 + (Int32.ofInt 1))).bind fun j35 => pSt (ySa S 132 (upd (S.2.2.1 132) j35 (S.2.2.1 (v0 + 2) j5))) fun S34 => lX1_run_T N T v0 n l4 (l5 + (Int32.ofInt 1)) (l6 + (Int32.ofInt 1)) S34)) else (ain 301 (l5 - (Int32.ofInt 1))).bind fun j36 => (ain 301 l5).bind fun j37 => (fX1_ofTwo (S.2.2.1 (v0 + 1) j4) (S.2.2.1 132 j36) (S.2.2.1 132 j37) S).bind fun u39 => (ain 301 (l5 - (Int32.ofInt 1))).bind fun j41 => pSt (ySa S 132 (upd (S.2.2.1 132) j41 u39)) fun S40 => lX1_run_T N T v0 n l4 (l5 + (Int32.ofInt (-1))) (l6 + (Int32.ofInt 1)) S40)) else (ain 301 l5).bind fun j42 => (fX1_ofOne (S.2.2.1 (v0 + 1) j4) (S.2.2.1 132 j42) S).bind fun u44 => (ain 301 l5).bind fun j46 => pSt (ySa S 132 (upd (S.2.2.1 132) j46 u44)) fun S45 => lX1_run_T N T v0 n l4 l5 (l6 + (Int32.ofInt 1)) S45)) else (if l5 < 0 then (if (fX1_isOfOne (S.2.2.1 (v0 + 1) j4)) = 0 then (if (fX1_isOfTwo (S.2.2.1 (v0 + 1) j4)) = 0 then (if (Int32.ofInt 300) ≤ l5 then lX1_run_T N T v0 n l4 l5 (l6 + (Int32.ofInt 1)) S else (if ¬ (S.2.2.1 (v0 + 1) j4) = (Int32.ofInt 38) then (fX1_named (S.2.2.1 (v0 + 1) j4) S).bind fun u48 => (ain 301 (l5 + (Int32.ofInt 1))).bind fun j50 => pSt (ySa S 132 (upd (S.2.2.1 132) j50 u48)) fun S49 => lX1_run_T N T v0 n l4 (l5 + (Int32.ofInt 1)) (l6 + (Int32.ofInt 1)) S49 else (ain 301 (l5 + (Int32.ofInt 1))).bind fun j52 => pSt (ySa S 132 (upd (S.2.2.1 132) j52 (S.2.2.1 (v0 + 2) j5))) fun S51 => lX1_run_T N T v0 n l4 (l5 + (Int32.ofInt 1)) (l6 + (Int32.ofInt 1)) S51)) else (if l5 < (Int32.ofInt 1) then (if (Int32.ofInt 300) ≤ l5 then lX1_run_T N T v0 n l4 l5 (l6 + (Int32.ofInt 1)) S else (if ¬ (S.2.2.1 (v0 + 1) j4) = (Int32.ofInt 38) then (fX1_named (S.2.2.1 (v0 + 1) j4) S).bind fun u54 => (ain 301 (l5 + (Int32.ofInt 1))).bind fun j56 => pSt (ySa S 132 (upd (S.2.2.1 132) j56 u54)) fun S55 => lX1_run_T N T v0 n l4 (l5 + (Int32.ofInt 1)) (l6 + (Int32.ofInt 1)) S55 else (ain 301 (l5 + (Int32.ofInt 1))).bind fun j58 => pSt (ySa S 132 (upd (S.2.2.1 132) j58 (S.2.2.1 (v0 + 2) j5))) fun S57 => lX1_run_T N T v0 n l4 (l5 + (Int32.ofInt 1)) (l6 + (Int32.ofInt 1)) S57)) else (ain 301 (l5 - (Int32.ofInt 1))).bind fun j59 => (ain 301 l5).bind fun j60 => (fX1_ofTwo (S.2.2.1 (v0 + 1) j4) (S.2.2.1 132 j59) (S.2.2.1 132 j60) S).bind fun u62 => (ain 301 (l5 - (Int32.ofInt 1))).bind fun j64 => pSt (ySa S 132 (upd (S.2.2.1 132) j64 u62)) fun S63 => lX1_run_T N T v0 n l4 (l5 + (Int32.ofInt (-1))) (l6 + (Int32.ofInt 1)) S63)) else (if l5 < 0 then (if (fX1_isOfTwo (S.2.2.1 (v0 + 1) j4)) = 0 then (if (Int32.ofInt 300) ≤ l5 then lX1_run_T N T v0 n l4 l5 (l6 + (Int32.ofInt 1)) S else (if ¬ (S.2.2.1 (v0 + 1) j4) = (Int32.ofInt 38) then (fX1_named (S.2.2.1 (v0 + 1) j4) S).bind fun u66 => (ain 301 (l5 + (Int32.ofInt 1))).bind fun j68 => pSt (ySa S 132 (upd (S.2.2.1 132) j68 u66)) fun S67 => lX1_run_T N T v0 n l4 (l5 + (Int32.ofInt 1)) (l6 + (Int32.ofInt 1)) S67 else (ain 301 (l5 + (Int32.ofInt 1))).bind fun j70 => pSt (ySa S 132 (upd (S.2.2.1 132) j70 (S.2.2.1 (v0 + 2) j5))) fun S69 => lX1_run_T N T v0 n l4 (l5 + (Int32.ofInt 1)) (l6 + (Int32.ofInt 1)) S69)) else (if l5 < (Int32.ofInt 1) then (if (Int32.ofInt 300) ≤ l5 then lX1_run_T N T v0 n l4 l5 (l6 + (Int32.ofInt 1)) S else (if ¬ (S.2.2.1 (v0 + 1) j4) = (Int32.ofInt 38) then (fX1_named (S.2.2.1 (v0 + 1) j4) S).bind fun u72 => (ain 301 (l5 + (Int32.ofInt 1))).bind fun j74 => pSt (ySa S 132 (upd (S.2.2.1 132) j74 u72)) fun S73 => lX1_run_T N T v0 n l4 (l5 + (Int32.ofInt 1)) (l6 + (Int32.ofInt 1)) S73 else (ain 301 (l5 + (Int32.ofInt 1))).bind fun j76 => pSt (ySa S 132 (upd (S.2.2.1 132) j76 (S.2.2.1 (v0 + 2) j5))) fun S75 => lX1_run_T N T v0 n l4 (l5 + (Int32.ofInt 1)) (l6 + (Int32.ofInt 1)) S75)) else (ain 301 (l5 - (Int32.ofInt 1))).bind fun j77 => (ain 301 l5).bind fun j78 => (fX1_ofTwo (S.2.2.1 (v0 + 1) j4) (S.2.2.1 132 j77) (S.2.2.1 132 j78) S).bind fun u80 => (ain 301 (l5 - (Int32.ofInt 1))).bind fun j82 => pSt (ySa S 132 (upd (S.2.2.1 132) j82 u80)) fun S81 => lX1_run_T N T v0 n l4 (l5 + (Int32.ofInt (-1))) (l6 + (Int32.ofInt 1)) S81)) else (ain 301 l5).bind fun j83 => (fX1_ofOne (S.2.2.1 (v0 + 1) j4) (S.2.2.1 132 j83) S).bind fun u85 => (ain 301 l5).bind fun j87 => pSt (ySa S 132 (upd (S.2.2.1 132) j87 u85)) fun S86 => lX1_run_T N T v0 n l4 l5 (l6 + (Int32.ofInt 1)) S86)) else (ain 301 l5).bind fun j88 => (if ¬ (S.2.2.1 132 j88) = 0 then lX1_run_T N T v0 n l4 (l5 + (Int32.ofInt (-1))) (l6 + (Int32.ofInt 1)) S else pSt (if (l6 + (Int32.ofInt 1)) < (S.2.2.1 (v0 + 2) j5) then (S.2.2.1 (v0 + 2) j5) else (l6 + (Int32.ofInt 1))) fun w89 => lX1_run_T N T v0 n l4 (l5 + (Int32.ofInt (-1))) w89 S))) else pSt (if (l6 + (Int32.ofInt 1)) < (S.2.2.1 (v0 + 2) j5) then (S.2.2.1 (v0 + 2) j5) else (l6 + (Int32.ofInt 1))) fun w90 => lX1_run_T N T v0 n l4 l5 w90 S))
set_option maxRecDepth 4000 in
theorem uX1_run_T {ro : xRo} {T : yK} {d N : Nat} {v0 : Nat} (hv0 : yTx T v0 = true) : ∀ n : Nat, (∀ (l4 : Int32) (l5 : Int32) (l6 : Int32) (S : yS) {q : Int32} {S' : yS}, lX1_run_T N T v0 n l4 l5 l6 S = some (q, S') → ∀ z, Ry ro xNo (yKx T) z (d + 2) mX1_run 29 [(0, .ref 17), (1, .ref v0), (4, .int l4), (5, .int l5), (6, .int l6)] [] S (some (.int q), yH (yKx T) z S')) := by
  intro n
  induction n with
  | zero => exact (by intro _ _ _ _ _ _ hf; cases hf)
  | succ n ih =>
    intro l4 l5 l6 S q S' hf z
    unfold lX1_run_T at hf
    iterate 3 (refine ry_step rfl rfl ?_)
    refine ry_br hf (fun hc hf => ?_) (fun hc hf => ?_)
    · iterate 2 (refine ry_step rfl rfl ?_)
      refine ry_br hf (fun hc hf => ?_) (fun hc hf => ?_)
      · refine ry_step rfl rfl ?_
        cases hf
        exact ry_ret rfl rfl
      · iterate 3 (refine ry_step rfl rfl ?_)
        refine ry_iald hf rfl rfl rfl (fun j3 hf => ?_)
        refine ry_step rfl rfl ?_
        cases hf
        exact ry_ret rfl rfl
    · refine ry_step rfl rfl ?_
      refine ry_gr rfl (yTx_K hv0).1 rfl ?_
      refine ry_step rfl rfl ?_
      refine ry_iald hf rfl (yTx_A hv0 1 (by decide) (by decide)).1 (yTx_A hv0 1 (by decide) (by decide)).2.1 (fun j4 hf => ?_)
      iterate 2 (refine ry_step rfl rfl ?_)
      refine ry_gr rfl (yTx_K hv0).1 rfl ?_
      refine ry_step rfl rfl ?_
      refine ry_iald hf rfl (yTx_A hv0 2 (by decide) (by decide)).1 (yTx_A hv0 2 (by decide) (by decide)).2.1 (fun j5 hf => ?_)
      iterate 5 (refine ry_step rfl rfl ?_)
      refine ry_br hf (fun hc hf => ?_) (fun hc hf => ?_)
      · iterate 3 (refine ry_step rfl rfl ?_)
        refine ry_br hf (fun hc hf => ?_) (fun hc hf => ?_)
        · refine ry_step rfl rfl ?_
          refine ry_call rfl rfl rfl rfl rfl tX1_isOfOne ?_
          refine ry_step rfl rfl ?_
          refine ry_br hf (fun hc hf => ?_) (fun hc hf => ?_)
          · refine ry_step rfl rfl ?_
            refine ry_call rfl rfl rfl rfl rfl tX1_isOfTwo ?_
            refine ry_step rfl rfl ?_
            refine ry_br hf (fun hc hf => ?_) (fun hc hf => ?_)
            · iterate 3 (refine ry_step rfl rfl ?_)
              refine ry_br hf (fun hc hf => ?_) (fun hc hf => ?_)
              · refine ry_step rfl rfl ?_
                refine ry_sub [3, 4, 5, 6, 0] rfl rfl ?_
                exact ih l4 l5 (l6 + (Int32.ofInt 1)) S hf _
              · iterate 7 (refine ry_step rfl rfl ?_)
                refine ry_br hf (fun hc hf => ?_) (fun hc hf => ?_)
                · iterate 2 (refine ry_step rfl rfl ?_)
                  obtain ⟨u7, hv6, hf⟩ := Option.bind_eq_some_iff.mp hf
                  refine ry_call rfl rfl rfl rfl rfl (tX1_named hv6) ?_
                  refine ry_iast hf rfl rfl (fun j9 S8 hf => ?_)
                  refine ry_step rfl rfl ?_
                  refine ry_sub [4, 5, 6, 0, 1] rfl rfl ?_
                  exact ih l4 (l5 + (Int32.ofInt 1)) (l6 + (Int32.ofInt 1)) S8 hf _
                · iterate 2 (refine ry_step rfl rfl ?_)
                  refine ry_iast hf rfl rfl (fun j11 S10 hf => ?_)
                  refine ry_step rfl rfl ?_
                  refine ry_sub [4, 5, 6, 0, 1] rfl rfl ?_
                  exact ih l4 (l5 + (Int32.ofInt 1)) (l6 + (Int32.ofInt 1)) S10 hf _
            · iterate 3 (refine ry_step rfl rfl ?_)
              refine ry_br hf (fun hc hf => ?_) (fun hc hf => ?_)
              · iterate 3 (refine ry_step rfl rfl ?_)
                refine ry_br hf (fun hc hf => ?_) (fun hc hf => ?_)
                · refine ry_step rfl rfl ?_
                  refine ry_sub [3, 4, 5, 6, 0] rfl rfl ?_
                  exact ih l4 l5 (l6 + (Int32.ofInt 1)) S hf _
                · iterate 7 (refine ry_step rfl rfl ?_)
                  refine ry_br hf (fun hc hf => ?_) (fun hc hf => ?_)
                  · iterate 2 (refine ry_step rfl rfl ?_)
                    obtain ⟨u13, hv12, hf⟩ := Option.bind_eq_some_iff.mp hf
                    refine ry_call rfl rfl rfl rfl rfl (tX1_named hv12) ?_
                    refine ry_iast hf rfl rfl (fun j15 S14 hf => ?_)
                    refine ry_step rfl rfl ?_
                    refine ry_sub [4, 5, 6, 0, 1] rfl rfl ?_
                    exact ih l4 (l5 + (Int32.ofInt 1)) (l6 + (Int32.ofInt 1)) S14 hf _
                  · iterate 2 (refine ry_step rfl rfl ?_)
                    refine ry_iast hf rfl rfl (fun j17 S16 hf => ?_)
                    refine ry_step rfl rfl ?_
                    refine ry_sub [4, 5, 6, 0, 1] rfl rfl ?_
                    exact ih l4 (l5 + (Int32.ofInt 1)) (l6 + (Int32.ofInt 1)) S16 hf _
              · iterate 11 (refine ry_step rfl rfl ?_)
                refine ry_iald hf rfl rfl rfl (fun j18 hf => ?_)
                iterate 3 (refine ry_step rfl rfl ?_)
                refine ry_iald hf rfl rfl rfl (fun j19 hf => ?_)
                obtain ⟨u21, hv20, hf⟩ := Option.bind_eq_some_iff.mp hf
                refine ry_call rfl rfl rfl rfl rfl (tX1_ofTwo hv20) ?_
                refine ry_iast hf rfl rfl (fun j23 S22 hf => ?_)
                iterate 3 (refine ry_step rfl rfl ?_)
                refine ry_sub [4, 5, 6, 0, 1] rfl rfl ?_
                exact ih l4 (l5 + (Int32.ofInt (-1))) (l6 + (Int32.ofInt 1)) S22 hf _
          · iterate 2 (refine ry_step rfl rfl ?_)
            refine ry_br hf (fun hc hf => ?_) (fun hc hf => ?_)
            · refine ry_step rfl rfl ?_
              refine ry_call rfl rfl rfl rfl rfl tX1_isOfTwo ?_
              refine ry_step rfl rfl ?_
              refine ry_br hf (fun hc hf => ?_) (fun hc hf => ?_)
              · iterate 3 (refine ry_step rfl rfl ?_)
                refine ry_br hf (fun hc hf => ?_) (fun hc hf => ?_)
                · refine ry_step rfl rfl ?_
                  refine ry_sub [3, 4, 5, 6, 0] rfl rfl ?_
                  exact ih l4 l5 (l6 + (Int32.ofInt 1)) S hf _
                · iterate 7 (refine ry_step rfl rfl ?_)
                  refine ry_br hf (fun hc hf => ?_) (fun hc hf => ?_)
                  · iterate 2 (refine ry_step rfl rfl ?_)
                    obtain ⟨u25, hv24, hf⟩ := Option.bind_eq_some_iff.mp hf
                    refine ry_call rfl rfl rfl rfl rfl (tX1_named hv24) ?_
                    refine ry_iast hf rfl rfl (fun j27 S26 hf => ?_)
                    refine ry_step rfl rfl ?_
                    refine ry_sub [4, 5, 6, 0, 1] rfl rfl ?_
                    exact ih l4 (l5 + (Int32.ofInt 1)) (l6 + (Int32.ofInt 1)) S26 hf _
                  · iterate 2 (refine ry_step rfl rfl ?_)
                    refine ry_iast hf rfl rfl (fun j29 S28 hf => ?_)
                    refine ry_step rfl rfl ?_
                    refine ry_sub [4, 5, 6, 0, 1] rfl rfl ?_
                    exact ih l4 (l5 + (Int32.ofInt 1)) (l6 + (Int32.ofInt 1)) S28 hf _
              · iterate 3 (refine ry_step rfl rfl ?_)
                refine ry_br hf (fun hc hf => ?_) (fun hc hf => ?_)
                · iterate 3 (refine ry_step rfl rfl ?_)
                  refine ry_br hf (fun hc hf => ?_) (fun hc hf => ?_)
                  · refine ry_step rfl rfl ?_
                    refine ry_sub [3, 4, 5, 6, 0] rfl rfl ?_
                    exact ih l4 l5 (l6 + (Int32.ofInt 1)) S hf _
                  · iterate 7 (refine ry_step rfl rfl ?_)
                    refine ry_br hf (fun hc hf => ?_) (fun hc hf => ?_)
                    · iterate 2 (refine ry_step rfl rfl ?_)
                      obtain ⟨u31, hv30, hf⟩ := Option.bind_eq_some_iff.mp hf
                      refine ry_call rfl rfl rfl rfl rfl (tX1_named hv30) ?_
                      refine ry_iast hf rfl rfl (fun j33 S32 hf => ?_)
                      refine ry_step rfl rfl ?_
                      refine ry_sub [4, 5, 6, 0, 1] rfl rfl ?_
                      exact ih l4 (l5 + (Int32.ofInt 1)) (l6 + (Int32.ofInt 1)) S32 hf _
                    · iterate 2 (refine ry_step rfl rfl ?_)
                      refine ry_iast hf rfl rfl (fun j35 S34 hf => ?_)
                      refine ry_step rfl rfl ?_
                      refine ry_sub [4, 5, 6, 0, 1] rfl rfl ?_
                      exact ih l4 (l5 + (Int32.ofInt 1)) (l6 + (Int32.ofInt 1)) S34 hf _
                · iterate 11 (refine ry_step rfl rfl ?_)
                  refine ry_iald hf rfl rfl rfl (fun j36 hf => ?_)
                  iterate 3 (refine ry_step rfl rfl ?_)
                  refine ry_iald hf rfl rfl rfl (fun j37 hf => ?_)
                  obtain ⟨u39, hv38, hf⟩ := Option.bind_eq_some_iff.mp hf
                  refine ry_call rfl rfl rfl rfl rfl (tX1_ofTwo hv38) ?_
                  refine ry_iast hf rfl rfl (fun j41 S40 hf => ?_)
                  iterate 3 (refine ry_step rfl rfl ?_)
                  refine ry_sub [4, 5, 6, 0, 1] rfl rfl ?_
                  exact ih l4 (l5 + (Int32.ofInt (-1))) (l6 + (Int32.ofInt 1)) S40 hf _
            · iterate 8 (refine ry_step rfl rfl ?_)
              refine ry_iald hf rfl rfl rfl (fun j42 hf => ?_)
              obtain ⟨u44, hv43, hf⟩ := Option.bind_eq_some_iff.mp hf
              refine ry_call rfl rfl rfl rfl rfl (tX1_ofOne hv43) ?_
              refine ry_iast hf rfl rfl (fun j46 S45 hf => ?_)
              iterate 2 (refine ry_step rfl rfl ?_)
              refine ry_sub [3, 4, 5, 6, 0] rfl rfl ?_
              exact ih l4 l5 (l6 + (Int32.ofInt 1)) S45 hf _
        · iterate 2 (refine ry_step rfl rfl ?_)
          refine ry_br hf (fun hc hf => ?_) (fun hc hf => ?_)
          · refine ry_step rfl rfl ?_
            refine ry_call rfl rfl rfl rfl rfl tX1_isOfOne ?_
            refine ry_step rfl rfl ?_
            refine ry_br hf (fun hc hf => ?_) (fun hc hf => ?_)
            · refine ry_step rfl rfl ?_
              refine ry_call rfl rfl rfl rfl rfl tX1_isOfTwo ?_
              refine ry_step rfl rfl ?_
              refine ry_br hf (fun hc hf => ?_) (fun hc hf => ?_)
              · iterate 3 (refine ry_step rfl rfl ?_)
                refine ry_br hf (fun hc hf => ?_) (fun hc hf => ?_)
                · refine ry_step rfl rfl ?_
                  refine ry_sub [3, 4, 5, 6, 0] rfl rfl ?_
                  exact ih l4 l5 (l6 + (Int32.ofInt 1)) S hf _
                · iterate 7 (refine ry_step rfl rfl ?_)
                  refine ry_br hf (fun hc hf => ?_) (fun hc hf => ?_)
                  · iterate 2 (refine ry_step rfl rfl ?_)
                    obtain ⟨u48, hv47, hf⟩ := Option.bind_eq_some_iff.mp hf
                    refine ry_call rfl rfl rfl rfl rfl (tX1_named hv47) ?_
                    refine ry_iast hf rfl rfl (fun j50 S49 hf => ?_)
                    refine ry_step rfl rfl ?_
                    refine ry_sub [4, 5, 6, 0, 1] rfl rfl ?_
                    exact ih l4 (l5 + (Int32.ofInt 1)) (l6 + (Int32.ofInt 1)) S49 hf _
                  · iterate 2 (refine ry_step rfl rfl ?_)
                    refine ry_iast hf rfl rfl (fun j52 S51 hf => ?_)
                    refine ry_step rfl rfl ?_
                    refine ry_sub [4, 5, 6, 0, 1] rfl rfl ?_
                    exact ih l4 (l5 + (Int32.ofInt 1)) (l6 + (Int32.ofInt 1)) S51 hf _
              · iterate 3 (refine ry_step rfl rfl ?_)
                refine ry_br hf (fun hc hf => ?_) (fun hc hf => ?_)
                · iterate 3 (refine ry_step rfl rfl ?_)
                  refine ry_br hf (fun hc hf => ?_) (fun hc hf => ?_)
                  · refine ry_step rfl rfl ?_
                    refine ry_sub [3, 4, 5, 6, 0] rfl rfl ?_
                    exact ih l4 l5 (l6 + (Int32.ofInt 1)) S hf _
                  · iterate 7 (refine ry_step rfl rfl ?_)
                    refine ry_br hf (fun hc hf => ?_) (fun hc hf => ?_)
                    · iterate 2 (refine ry_step rfl rfl ?_)
                      obtain ⟨u54, hv53, hf⟩ := Option.bind_eq_some_iff.mp hf
                      refine ry_call rfl rfl rfl rfl rfl (tX1_named hv53) ?_
                      refine ry_iast hf rfl rfl (fun j56 S55 hf => ?_)
                      refine ry_step rfl rfl ?_
                      refine ry_sub [4, 5, 6, 0, 1] rfl rfl ?_
                      exact ih l4 (l5 + (Int32.ofInt 1)) (l6 + (Int32.ofInt 1)) S55 hf _
                    · iterate 2 (refine ry_step rfl rfl ?_)
                      refine ry_iast hf rfl rfl (fun j58 S57 hf => ?_)
                      refine ry_step rfl rfl ?_
                      refine ry_sub [4, 5, 6, 0, 1] rfl rfl ?_
                      exact ih l4 (l5 + (Int32.ofInt 1)) (l6 + (Int32.ofInt 1)) S57 hf _
                · iterate 11 (refine ry_step rfl rfl ?_)
                  refine ry_iald hf rfl rfl rfl (fun j59 hf => ?_)
                  iterate 3 (refine ry_step rfl rfl ?_)
                  refine ry_iald hf rfl rfl rfl (fun j60 hf => ?_)
                  obtain ⟨u62, hv61, hf⟩ := Option.bind_eq_some_iff.mp hf
                  refine ry_call rfl rfl rfl rfl rfl (tX1_ofTwo hv61) ?_
                  refine ry_iast hf rfl rfl (fun j64 S63 hf => ?_)
                  iterate 3 (refine ry_step rfl rfl ?_)
                  refine ry_sub [4, 5, 6, 0, 1] rfl rfl ?_
                  exact ih l4 (l5 + (Int32.ofInt (-1))) (l6 + (Int32.ofInt 1)) S63 hf _
            · iterate 2 (refine ry_step rfl rfl ?_)
              refine ry_br hf (fun hc hf => ?_) (fun hc hf => ?_)
              · refine ry_step rfl rfl ?_
                refine ry_call rfl rfl rfl rfl rfl tX1_isOfTwo ?_
                refine ry_step rfl rfl ?_
                refine ry_br hf (fun hc hf => ?_) (fun hc hf => ?_)
                · iterate 3 (refine ry_step rfl rfl ?_)
                  refine ry_br hf (fun hc hf => ?_) (fun hc hf => ?_)
                  · refine ry_step rfl rfl ?_
                    refine ry_sub [3, 4, 5, 6, 0] rfl rfl ?_
                    exact ih l4 l5 (l6 + (Int32.ofInt 1)) S hf _
                  · iterate 7 (refine ry_step rfl rfl ?_)
                    refine ry_br hf (fun hc hf => ?_) (fun hc hf => ?_)
                    · iterate 2 (refine ry_step rfl rfl ?_)
                      obtain ⟨u66, hv65, hf⟩ := Option.bind_eq_some_iff.mp hf
                      refine ry_call rfl rfl rfl rfl rfl (tX1_named hv65) ?_
                      refine ry_iast hf rfl rfl (fun j68 S67 hf => ?_)
                      refine ry_step rfl rfl ?_
                      refine ry_sub [4, 5, 6, 0, 1] rfl rfl ?_
                      exact ih l4 (l5 + (Int32.ofInt 1)) (l6 + (Int32.ofInt 1)) S67 hf _
                    · iterate 2 (refine ry_step rfl rfl ?_)
                      refine ry_iast hf rfl rfl (fun j70 S69 hf => ?_)
                      refine ry_step rfl rfl ?_
                      refine ry_sub [4, 5, 6, 0, 1] rfl rfl ?_
                      exact ih l4 (l5 + (Int32.ofInt 1)) (l6 + (Int32.ofInt 1)) S69 hf _
                · iterate 3 (refine ry_step rfl rfl ?_)
                  refine ry_br hf (fun hc hf => ?_) (fun hc hf => ?_)
                  · iterate 3 (refine ry_step rfl rfl ?_)
                    refine ry_br hf (fun hc hf => ?_) (fun hc hf => ?_)
                    · refine ry_step rfl rfl ?_
                      refine ry_sub [3, 4, 5, 6, 0] rfl rfl ?_
                      exact ih l4 l5 (l6 + (Int32.ofInt 1)) S hf _
                    · iterate 7 (refine ry_step rfl rfl ?_)
                      refine ry_br hf (fun hc hf => ?_) (fun hc hf => ?_)
                      · iterate 2 (refine ry_step rfl rfl ?_)
                        obtain ⟨u72, hv71, hf⟩ := Option.bind_eq_some_iff.mp hf
                        refine ry_call rfl rfl rfl rfl rfl (tX1_named hv71) ?_
                        refine ry_iast hf rfl rfl (fun j74 S73 hf => ?_)
                        refine ry_step rfl rfl ?_
                        refine ry_sub [4, 5, 6, 0, 1] rfl rfl ?_
                        exact ih l4 (l5 + (Int32.ofInt 1)) (l6 + (Int32.ofInt 1)) S73 hf _
                      · iterate 2 (refine ry_step rfl rfl ?_)
                        refine ry_iast hf rfl rfl (fun j76 S75 hf => ?_)
                        refine ry_step rfl rfl ?_
                        refine ry_sub [4, 5, 6, 0, 1] rfl rfl ?_
                        exact ih l4 (l5 + (Int32.ofInt 1)) (l6 + (Int32.ofInt 1)) S75 hf _
                  · iterate 11 (refine ry_step rfl rfl ?_)
                    refine ry_iald hf rfl rfl rfl (fun j77 hf => ?_)
                    iterate 3 (refine ry_step rfl rfl ?_)
                    refine ry_iald hf rfl rfl rfl (fun j78 hf => ?_)
                    obtain ⟨u80, hv79, hf⟩ := Option.bind_eq_some_iff.mp hf
                    refine ry_call rfl rfl rfl rfl rfl (tX1_ofTwo hv79) ?_
                    refine ry_iast hf rfl rfl (fun j82 S81 hf => ?_)
                    iterate 3 (refine ry_step rfl rfl ?_)
                    refine ry_sub [4, 5, 6, 0, 1] rfl rfl ?_
                    exact ih l4 (l5 + (Int32.ofInt (-1))) (l6 + (Int32.ofInt 1)) S81 hf _
              · iterate 8 (refine ry_step rfl rfl ?_)
                refine ry_iald hf rfl rfl rfl (fun j83 hf => ?_)
                obtain ⟨u85, hv84, hf⟩ := Option.bind_eq_some_iff.mp hf
                refine ry_call rfl rfl rfl rfl rfl (tX1_ofOne hv84) ?_
                refine ry_iast hf rfl rfl (fun j87 S86 hf => ?_)
                iterate 2 (refine ry_step rfl rfl ?_)
                refine ry_sub [3, 4, 5, 6, 0] rfl rfl ?_
                exact ih l4 l5 (l6 + (Int32.ofInt 1)) S86 hf _
          · iterate 3 (refine ry_step rfl rfl ?_)
            refine ry_iald hf rfl rfl rfl (fun j88 hf => ?_)
            refine ry_step rfl rfl ?_
            refine ry_br hf (fun hc hf => ?_) (fun hc hf => ?_)
            · iterate 5 (refine ry_step rfl rfl ?_)
              refine ry_sub [4, 5, 6, 0, 1] rfl rfl ?_
              exact ih l4 (l5 + (Int32.ofInt (-1))) (l6 + (Int32.ofInt 1)) S hf _
            · iterate 4 (refine ry_step rfl rfl ?_)
              refine ry_nmi hf (fun w89 hf => ?_)
              iterate 4 (refine ry_step rfl rfl ?_)
              refine ry_sub [4, 5, 6, 0, 1] rfl rfl ?_
              exact ih l4 (l5 + (Int32.ofInt (-1))) w89 S hf _
      · iterate 3 (refine ry_step rfl rfl ?_)
        refine ry_nmi hf (fun w90 hf => ?_)
        iterate 3 (refine ry_step rfl rfl ?_)
        refine ry_sub [3, 4, 5, 6, 0] rfl rfl ?_
        exact ih l4 l5 w90 S hf _
def fX1_run_T (N : Nat) (T : yK) (v0 : Nat) (v1 : Int32) (v2 : Int32) (S : yS) : Option (Int32 × yS) := pSt (if (if (Int32.ofNat (tLn T (v0 + 2))) < (Int32.ofNat (tLn T (v0 + 1))) then (Int32.ofNat (tLn T (v0 + 2))) else (Int32.ofNat (tLn T (v0 + 1)))) < v2 then (if (Int32.ofNat (tLn T (v0 + 2))) < (Int32.ofNat (tLn T (v0 + 1))) then (Int32.ofNat (tLn T (v0 + 2))) else (Int32.ofNat (tLn T (v0 + 1)))) else v2) fun w1 => pSt (if (Int32.ofInt 0) < v1 then v1 else (Int32.ofInt 0)) fun w2 => lX1_run_T N T v0 N w1 (Int32.ofInt (-1)) w2 S
set_option maxRecDepth 4000 in
theorem tX1_run_T {ro : xRo} {T : yK} {S : yS} {d N : Nat} {v0 : Nat} {v1 : Int32} {v2 : Int32} (hv0 : yTx T v0 = true) {q : Int32} {S' : yS} (hf : fX1_run_T N T v0 v1 v2 S = some (q, S')) : yEv ro xNo (yKx T) (d + 3) jX1_run [.ref 17, .ref v0, .int v1, .int v2] S (some (.int q)) S' := by
  refine ry_meth pX1_run rfl (fun z => ?_)
  unfold fX1_run_T at hf
  iterate 2 (refine ry_step rfl rfl ?_)
  refine ry_gr rfl (yTx_K hv0).1 rfl ?_
  refine ry_alen rfl (yTx_A hv0 1 (by decide) (by decide)).1 (yTx_A hv0 1 (by decide) (by decide)).2.2 ?_
  refine ry_step rfl rfl ?_
  refine ry_gr rfl (yTx_K hv0).1 rfl ?_
  refine ry_alen rfl (yTx_A hv0 2 (by decide) (by decide)).1 (yTx_A hv0 2 (by decide) (by decide)).2.2 ?_
  iterate 2 (refine ry_step rfl rfl ?_)
  refine ry_nmi hf (fun w1 hf => ?_)
  iterate 6 (refine ry_step rfl rfl ?_)
  refine ry_nmi hf (fun w2 hf => ?_)
  refine ry_step rfl rfl ?_
  refine ry_sub [3, 4, 2, 1, 0] rfl rfl ?_
  exact uX1_run_T (ro := ro) hv0 _ w1 (Int32.ofInt (-1)) w2 S hf _
def fX1_chanceOf (N : Nat) (T : yK) (v0 : Int32) (S : yS) : Option (Int32 × yS) := (fX0_hasBird v0 S).bind fun u2 => (if ¬ u2 = 0 then (fX0_rulingText T  S).bind fun t4 => optC t4 ((ain 8 v0).bind fun j6 => some ((S.2.2.1 116 j6), S)) (fun o5 => if yTx T o5 = true then (if ¬ (S.1 o5 2) = (Int32.ofInt (-1)) then pSt (ySi S 17 2 v0) fun S7 => (fX1_run_T N T o5 (S7.1 o5 2) (S7.1 o5 3) S7).bind fun (u10, S9) => some ((fX11_held u10 (Int32.ofInt 0) (Int32.ofInt 10)), S9) else (ain 8 v0).bind fun j11 => some ((S.2.2.1 116 j11), S)) else none) else some ((Int32.ofInt 0), S))
set_option maxRecDepth 4000 in
theorem tX1_chanceOf {ro : xRo} {T : yK} {S : yS} {d N : Nat} {v0 : Int32} {q : Int32} {S' : yS} (hf : fX1_chanceOf N T v0 S = some (q, S')) : yEv ro xNo (yKx T) (d + 4) jX1_chanceOf [.ref 17, .int v0] S (some (.int q)) S' := by
  refine ry_meth pX1_chanceOf rfl (fun z => ?_)
  unfold fX1_chanceOf at hf
  iterate 3 (refine ry_step rfl rfl ?_)
  obtain ⟨u2, hv1, hf⟩ := Option.bind_eq_some_iff.mp hf
  refine ry_call rfl rfl rfl rfl rfl (tX0_hasBird hv1) ?_
  refine ry_step rfl rfl ?_
  refine ry_br hf (fun hc hf => ?_) (fun hc hf => ?_)
  · iterate 2 (refine ry_step rfl rfl ?_)
    obtain ⟨t4, hv3, hf⟩ := Option.bind_eq_some_iff.mp hf
    refine ry_call rfl rfl rfl rfl rfl (tX0_rulingText hv3) ?_
    cases t4 with
    | none =>
      dsimp only [optC] at hf
      iterate 7 (refine ry_step rfl rfl ?_)
      refine ry_iald hf rfl rfl rfl (fun j6 hf => ?_)
      cases hf
      exact ry_ret rfl rfl
    | some o5 =>
      dsimp only [optC] at hf
      split at hf
      · rename_i ho5
        iterate 4 (refine ry_step rfl rfl ?_)
        refine ry_gi rfl (yTx_K ho5).1 rfl ?_
        iterate 2 (refine ry_step rfl rfl ?_)
        refine ry_br hf (fun hc hf => ?_) (fun hc hf => ?_)
        · iterate 2 (refine ry_step rfl rfl ?_)
          refine ry_stepS hf rfl rfl (fun S7 hf => ?_)
          iterate 3 (refine ry_step rfl rfl ?_)
          refine ry_gi rfl (yTx_K ho5).1 rfl ?_
          refine ry_step rfl rfl ?_
          refine ry_gi rfl (yTx_K ho5).1 rfl ?_
          obtain ⟨⟨u10, S9⟩, hv8, hf⟩ := Option.bind_eq_some_iff.mp hf
          dsimp only at hf
          refine ry_call rfl rfl rfl rfl rfl (tX1_run_T ho5 hv8) ?_
          iterate 2 (refine ry_step rfl rfl ?_)
          refine ry_call rfl rfl rfl rfl rfl tX11_held ?_
          cases hf
          exact ry_ret rfl rfl
        · iterate 4 (refine ry_step rfl rfl ?_)
          refine ry_iald hf rfl rfl rfl (fun j11 hf => ?_)
          cases hf
          exact ry_ret rfl rfl
      · cases hf
  · refine ry_step rfl rfl ?_
    cases hf
    exact ry_ret rfl rfl
def fX8_keep_19 (S : yS) : Option yS := (ain 30 (((S.1 22 1) + (S.1 22 2)) - ((S.1 22 1) + (S.1 22 2)) / (Int32.ofInt 30) * (Int32.ofInt 30))).bind fun j1 => (S.2.2.2.2 23 j1).bind fun o2 => if yMo o2 = true then pSt (mCopy S o2 19) fun S3 => (if (Int32.ofInt 30) ≤ (S3.1 22 2) then pSt (ySi S3 22 1 (((S3.1 22 1) + (Int32.ofInt 1)) - ((S3.1 22 1) + (Int32.ofInt 1)) / (Int32.ofInt 30) * (Int32.ofInt 30))) fun S4 => some S4 else pSt (ySi S3 22 2 ((S3.1 22 2) + (Int32.ofInt 1))) fun S5 => some S5) else none
set_option maxRecDepth 4000 in
theorem tX8_keep_19 {ro : xRo} {T : yK} {S : yS} {d : Nat} {S' : yS} (hf : fX8_keep_19  S = some S') : yEv ro xNo (yKx T) (d + 2) jX8_keep [.ref 22, .ref 19] S (none) S' := by
  refine ry_meth pX8_keep rfl (fun z => ?_)
  unfold fX8_keep_19 at hf
  iterate 9 (refine ry_step rfl rfl ?_)
  refine ry_aaM hf rfl rfl (fun o2 ho2 hf => ?_)
  refine ry_step rfl rfl ?_
  refine ry_mcp hf rfl rfl ho2 rfl rfl (fun S3 hf => ?_)
  iterate 4 (refine ry_step rfl rfl ?_)
  refine ry_br hf (fun hc hf => ?_) (fun hc hf => ?_)
  · iterate 7 (refine ry_step rfl rfl ?_)
    refine ry_stepS hf rfl rfl (fun S4 hf => ?_)
    cases hf
    exact ry_ret rfl rfl
  · iterate 5 (refine ry_step rfl rfl ?_)
    refine ry_stepS hf rfl rfl (fun S5 hf => ?_)
    refine ry_step rfl rfl ?_
    cases hf
    exact ry_ret rfl rfl
def fX11_thin (v0 : Int32) (S : yS) : Option (Int32 × yS) := (fX0_canThin v0 S).bind fun u2 => (if ¬ u2 = 0 then (fX8_keep_19  S).bind fun S4 => (fX2_markGone v0 S4).bind fun S6 => some ((Int32.ofInt 1), S6) else some ((Int32.ofInt 0), S))
set_option maxRecDepth 4000 in
theorem tX11_thin {ro : xRo} {T : yK} {S : yS} {d : Nat} {v0 : Int32} {q : Int32} {S' : yS} (hf : fX11_thin v0 S = some (q, S')) : yEv ro xNo (yKx T) (d + 4) jX11_thin [.ref 16, .int v0] S (some (.int q)) S' := by
  refine ry_meth pX11_thin rfl (fun z => ?_)
  unfold fX11_thin at hf
  iterate 3 (refine ry_step rfl rfl ?_)
  obtain ⟨u2, hv1, hf⟩ := Option.bind_eq_some_iff.mp hf
  refine ry_call rfl rfl rfl rfl rfl (tX0_canThin hv1) ?_
  refine ry_step rfl rfl ?_
  refine ry_br hf (fun hc hf => ?_) (fun hc hf => ?_)
  · iterate 6 (refine ry_step rfl rfl ?_)
    obtain ⟨S4, hv3, hf⟩ := Option.bind_eq_some_iff.mp hf
    refine ry_call rfl rfl rfl rfl rfl (tX8_keep_19 hv3) ?_
    iterate 4 (refine ry_step rfl rfl ?_)
    obtain ⟨S6, hv5, hf⟩ := Option.bind_eq_some_iff.mp hf
    refine ry_call rfl rfl rfl rfl rfl (tX2_markGone hv5) ?_
    refine ry_step rfl rfl ?_
    cases hf
    exact ry_ret rfl rfl
  · refine ry_step rfl rfl ?_
    cases hf
    exact ry_ret rfl rfl
def fX11_call (v0 : Int32) (S : yS) : Option (Int32 × yS) := (fX0_canCall v0 S).bind fun u2 => (if ¬ u2 = 0 then (fX8_keep_19  S).bind fun S4 => (fX2_markBack v0 S4).bind fun S6 => some ((Int32.ofInt 1), S6) else some ((Int32.ofInt 0), S))
set_option maxRecDepth 4000 in
theorem tX11_call {ro : xRo} {T : yK} {S : yS} {d : Nat} {v0 : Int32} {q : Int32} {S' : yS} (hf : fX11_call v0 S = some (q, S')) : yEv ro xNo (yKx T) (d + 4) jX11_call [.ref 16, .int v0] S (some (.int q)) S' := by
  refine ry_meth pX11_call rfl (fun z => ?_)
  unfold fX11_call at hf
  iterate 3 (refine ry_step rfl rfl ?_)
  obtain ⟨u2, hv1, hf⟩ := Option.bind_eq_some_iff.mp hf
  refine ry_call rfl rfl rfl rfl rfl (tX0_canCall hv1) ?_
  refine ry_step rfl rfl ?_
  refine ry_br hf (fun hc hf => ?_) (fun hc hf => ?_)
  · iterate 6 (refine ry_step rfl rfl ?_)
    obtain ⟨S4, hv3, hf⟩ := Option.bind_eq_some_iff.mp hf
    refine ry_call rfl rfl rfl rfl rfl (tX8_keep_19 hv3) ?_
    iterate 4 (refine ry_step rfl rfl ?_)
    obtain ⟨S6, hv5, hf⟩ := Option.bind_eq_some_iff.mp hf
    refine ry_call rfl rfl rfl rfl rfl (tX2_markBack hv5) ?_
    refine ry_step rfl rfl ?_
    cases hf
    exact ry_ret rfl rfl
  · refine ry_step rfl rfl ?_
    cases hf
    exact ry_ret rfl rfl
def fX11_grant (v0 : Int32) (S : yS) : Option (Int32 × yS) := (if v0 = 0 then some ((Int32.ofInt 0), S) else (if (fX11_within v0 (Int32.ofInt (-999)) (Int32.ofInt 999)) = 0 then some ((Int32.ofInt 0), S) else (fX0_canGrant v0 S).bind fun u2 => (if ¬ u2 = 0 then (fX8_keep_19  S).bind fun S4 => pSt (ySi S4 19 1 ((S4.1 19 1) + v0)) fun S5 => some ((Int32.ofInt 1), S5) else some ((Int32.ofInt 0), S))))
set_option maxRecDepth 4000 in
theorem tX11_grant {ro : xRo} {T : yK} {S : yS} {d : Nat} {v0 : Int32} {q : Int32} {S' : yS} (hf : fX11_grant v0 S = some (q, S')) : yEv ro xNo (yKx T) (d + 3) jX11_grant [.ref 16, .int v0] S (some (.int q)) S' := by
  refine ry_meth pX11_grant rfl (fun z => ?_)
  unfold fX11_grant at hf
  iterate 2 (refine ry_step rfl rfl ?_)
  refine ry_br hf (fun hc hf => ?_) (fun hc hf => ?_)
  · refine ry_step rfl rfl ?_
    cases hf
    exact ry_ret rfl rfl
  · iterate 3 (refine ry_step rfl rfl ?_)
    refine ry_call rfl rfl rfl rfl rfl tX11_within ?_
    refine ry_step rfl rfl ?_
    refine ry_br hf (fun hc hf => ?_) (fun hc hf => ?_)
    · refine ry_step rfl rfl ?_
      cases hf
      exact ry_ret rfl rfl
    · iterate 3 (refine ry_step rfl rfl ?_)
      obtain ⟨u2, hv1, hf⟩ := Option.bind_eq_some_iff.mp hf
      refine ry_call rfl rfl rfl rfl rfl (tX0_canGrant hv1) ?_
      refine ry_step rfl rfl ?_
      refine ry_br hf (fun hc hf => ?_) (fun hc hf => ?_)
      · iterate 6 (refine ry_step rfl rfl ?_)
        obtain ⟨S4, hv3, hf⟩ := Option.bind_eq_some_iff.mp hf
        refine ry_call rfl rfl rfl rfl rfl (tX8_keep_19 hv3) ?_
        iterate 7 (refine ry_step rfl rfl ?_)
        refine ry_stepS hf rfl rfl (fun S5 hf => ?_)
        refine ry_step rfl rfl ?_
        cases hf
        exact ry_ret rfl rfl
      · refine ry_step rfl rfl ?_
        cases hf
        exact ry_ret rfl rfl
def fX1_broughtBy_N (N : Nat) (T : yK) (v1 : Int32) (S : yS) : Option (Int32 × yS) := (if ¬ (fX11_isCount v1) = 0 then (ain 9 v1).bind fun j1 => some (((S.2.2.1 117 j1) - (Int32.ofInt 2)), S) else some ((Int32.ofInt 0), S))
set_option maxRecDepth 4000 in
theorem tX1_broughtBy_N {ro : xRo} {T : yK} {S : yS} {d N : Nat} {v1 : Int32} {q : Int32} {S' : yS} (hf : fX1_broughtBy_N N T v1 S = some (q, S')) : yEv ro xNo (yKx T) (d + 2) jX1_broughtBy [.ref 17, .null, .int v1] S (some (.int q)) S' := by
  refine ry_meth pX1_broughtBy rfl (fun z => ?_)
  unfold fX1_broughtBy_N at hf
  refine ry_step rfl rfl ?_
  refine ry_call rfl rfl rfl rfl rfl tX11_isCount ?_
  refine ry_step rfl rfl ?_
  refine ry_br hf (fun hc hf => ?_) (fun hc hf => ?_)
  · iterate 6 (refine ry_step rfl rfl ?_)
    refine ry_iald hf rfl rfl rfl (fun j1 hf => ?_)
    iterate 2 (refine ry_step rfl rfl ?_)
    cases hf
    exact ry_ret rfl rfl
  · refine ry_step rfl rfl ?_
    cases hf
    exact ry_ret rfl rfl
def fX1_broughtBy_T (N : Nat) (T : yK) (v0 : Nat) (v1 : Int32) (S : yS) : Option (Int32 × yS) := (if ¬ (fX11_isCount v1) = 0 then (if ¬ (S.1 v0 4) = (Int32.ofInt (-1)) then pSt (ySi S 17 3 v1) fun S1 => (fX1_run_T N T v0 (S1.1 v0 4) (S1.1 v0 5) S1).bind fun (u4, S3) => some ((fX11_held u4 (Int32.ofInt (-99)) (Int32.ofInt 99)), S3) else (ain 9 v1).bind fun j5 => some (((S.2.2.1 117 j5) - (Int32.ofInt 2)), S)) else some ((Int32.ofInt 0), S))
set_option maxRecDepth 4000 in
theorem tX1_broughtBy_T {ro : xRo} {T : yK} {S : yS} {d N : Nat} {v0 : Nat} {v1 : Int32} (hv0 : yTx T v0 = true) {q : Int32} {S' : yS} (hf : fX1_broughtBy_T N T v0 v1 S = some (q, S')) : yEv ro xNo (yKx T) (d + 4) jX1_broughtBy [.ref 17, .ref v0, .int v1] S (some (.int q)) S' := by
  refine ry_meth pX1_broughtBy rfl (fun z => ?_)
  unfold fX1_broughtBy_T at hf
  refine ry_step rfl rfl ?_
  refine ry_call rfl rfl rfl rfl rfl tX11_isCount ?_
  refine ry_step rfl rfl ?_
  refine ry_br hf (fun hc hf => ?_) (fun hc hf => ?_)
  · iterate 3 (refine ry_step rfl rfl ?_)
    refine ry_gi rfl (yTx_K hv0).1 rfl ?_
    iterate 2 (refine ry_step rfl rfl ?_)
    refine ry_br hf (fun hc hf => ?_) (fun hc hf => ?_)
    · iterate 2 (refine ry_step rfl rfl ?_)
      refine ry_stepS hf rfl rfl (fun S1 hf => ?_)
      iterate 3 (refine ry_step rfl rfl ?_)
      refine ry_gi rfl (yTx_K hv0).1 rfl ?_
      refine ry_step rfl rfl ?_
      refine ry_gi rfl (yTx_K hv0).1 rfl ?_
      obtain ⟨⟨u4, S3⟩, hv2, hf⟩ := Option.bind_eq_some_iff.mp hf
      dsimp only at hf
      refine ry_call rfl rfl rfl rfl rfl (tX1_run_T hv0 hv2) ?_
      iterate 2 (refine ry_step rfl rfl ?_)
      refine ry_call rfl rfl rfl rfl rfl tX11_held ?_
      cases hf
      exact ry_ret rfl rfl
    · iterate 4 (refine ry_step rfl rfl ?_)
      refine ry_iald hf rfl rfl rfl (fun j5 hf => ?_)
      iterate 2 (refine ry_step rfl rfl ?_)
      cases hf
      exact ry_ret rfl rfl
  · refine ry_step rfl rfl ?_
    cases hf
    exact ry_ret rfl rfl
def lX11_passDay (N : Nat) (T : yK) : Nat → Int32 → Int32 → yS → Option (Int32 × yS)
  | 0, _, _, _ => none
  | n + 1, l2, l3, S => (if (S.1 18 5) ≤ l3 then (fX0_rulingText T  S).bind fun t2 => optC t2 ((fX1_broughtBy_N N T l2 S).bind fun (u6, S5) => pSt (ySi S5 19 2 l2) fun S7 => (ain 9 l2).bind fun j8 => pSt (ySi S7 19 3 (S7.2.2.1 117 j8)) fun S9 => pSt (ySi S9 19 1 (fX11_held ((S9.1 19 1) + u6) (Int32.ofInt (-9999)) (Int32.ofInt 9999))) fun S10 => (fX2_write u6 S10).bind fun S12 => pSt (ySi S12 19 4 ((S12.1 19 4) + (Int32.ofInt 1))) fun S13 => some (l2, S13)) (fun o3 => if yTx T o3 = true then (fX1_broughtBy_T N T o3 l2 S).bind fun (u16, S15) => pSt (ySi S15 19 2 l2) fun S17 => (ain 9 l2).bind fun j18 => pSt (ySi S17 19 3 (S17.2.2.1 117 j18)) fun S19 => pSt (ySi S19 19 1 (fX11_held ((S19.1 19 1) + u16) (Int32.ofInt (-9999)) (Int32.ofInt 9999))) fun S20 => (fX2_write u16 S20).bind fun S22 => pSt (ySi S22 19 4 ((S22.1 19 4) + (Int32.ofInt 1))) fun S23 => some (l2, S23) else none) else (fX0_isDue l3 (S.1 19 4) S).bind fun u25 => (if u25 = 0 then lX11_passDay N T n l2 (l3 + (Int32.ofInt 1)) S else (fX2_draw  S).bind fun (u28, S27) => pSt (u28 - u28 / (Int32.ofInt 10) * (Int32.ofInt 10)) fun w29 => (fX1_chanceOf N T l3 S27).bind fun (u32, S31) => (if u32 ≤ w29 then lX11_passDay N T n l2 (l3 + (Int32.ofInt 1)) S31 else (fX2_noteCame l3 S31).bind fun S34 => lX11_passDay N T n (l2 + (Int32.ofInt 1)) (l3 + (Int32.ofInt 1)) S34)))
set_option maxRecDepth 4000 in
theorem uX11_passDay {ro : xRo} {T : yK} {d N : Nat} : ∀ n : Nat, (∀ (l2 : Int32) (l3 : Int32) (S : yS) {q : Int32} {S' : yS}, lX11_passDay N T n l2 l3 S = some (q, S') → ∀ z, Ry ro xNo (yKx T) z (d + 4) mX11_passDay 12 [(0, .ref 16), (1, .ref 19), (2, .int l2), (3, .int l3)] [] S (some (.int q), yH (yKx T) z S')) := by
  intro n
  induction n with
  | zero => exact (by intro _ _ _ _ _ hf; cases hf)
  | succ n ih =>
    intro l2 l3 S q S' hf z
    unfold lX11_passDay at hf
    iterate 5 (refine ry_step rfl rfl ?_)
    refine ry_br hf (fun hc hf => ?_) (fun hc hf => ?_)
    · iterate 4 (refine ry_step rfl rfl ?_)
      obtain ⟨t2, hv1, hf⟩ := Option.bind_eq_some_iff.mp hf
      refine ry_call rfl rfl rfl rfl rfl (tX0_rulingText hv1) ?_
      cases t2 with
      | none =>
        dsimp only [optC] at hf
        refine ry_step rfl rfl ?_
        obtain ⟨⟨u6, S5⟩, hv4, hf⟩ := Option.bind_eq_some_iff.mp hf
        dsimp only at hf
        refine ry_call rfl rfl rfl rfl rfl (tX1_broughtBy_N hv4) ?_
        iterate 3 (refine ry_step rfl rfl ?_)
        refine ry_stepS hf rfl rfl (fun S7 hf => ?_)
        iterate 5 (refine ry_step rfl rfl ?_)
        refine ry_iald hf rfl rfl rfl (fun j8 hf => ?_)
        refine ry_stepS hf rfl rfl (fun S9 hf => ?_)
        iterate 7 (refine ry_step rfl rfl ?_)
        refine ry_call rfl rfl rfl rfl rfl tX11_held ?_
        refine ry_stepS hf rfl rfl (fun S10 hf => ?_)
        iterate 2 (refine ry_step rfl rfl ?_)
        obtain ⟨S12, hv11, hf⟩ := Option.bind_eq_some_iff.mp hf
        refine ry_call rfl rfl rfl rfl rfl (tX2_write hv11) ?_
        iterate 5 (refine ry_step rfl rfl ?_)
        refine ry_stepS hf rfl rfl (fun S13 hf => ?_)
        refine ry_step rfl rfl ?_
        cases hf
        exact ry_ret rfl rfl
      | some o3 =>
        dsimp only [optC] at hf
        split at hf
        · rename_i ho3
          refine ry_step rfl rfl ?_
          obtain ⟨⟨u16, S15⟩, hv14, hf⟩ := Option.bind_eq_some_iff.mp hf
          dsimp only at hf
          refine ry_call rfl rfl rfl rfl rfl (tX1_broughtBy_T ho3 hv14) ?_
          iterate 3 (refine ry_step rfl rfl ?_)
          refine ry_stepS hf rfl rfl (fun S17 hf => ?_)
          iterate 5 (refine ry_step rfl rfl ?_)
          refine ry_iald hf rfl rfl rfl (fun j18 hf => ?_)
          refine ry_stepS hf rfl rfl (fun S19 hf => ?_)
          iterate 7 (refine ry_step rfl rfl ?_)
          refine ry_call rfl rfl rfl rfl rfl tX11_held ?_
          refine ry_stepS hf rfl rfl (fun S20 hf => ?_)
          iterate 2 (refine ry_step rfl rfl ?_)
          obtain ⟨S22, hv21, hf⟩ := Option.bind_eq_some_iff.mp hf
          refine ry_call rfl rfl rfl rfl rfl (tX2_write hv21) ?_
          iterate 5 (refine ry_step rfl rfl ?_)
          refine ry_stepS hf rfl rfl (fun S23 hf => ?_)
          refine ry_step rfl rfl ?_
          cases hf
          exact ry_ret rfl rfl
        · cases hf
    · iterate 5 (refine ry_step rfl rfl ?_)
      obtain ⟨u25, hv24, hf⟩ := Option.bind_eq_some_iff.mp hf
      refine ry_call rfl rfl rfl rfl rfl (tX0_isDue hv24) ?_
      refine ry_step rfl rfl ?_
      refine ry_br hf (fun hc hf => ?_) (fun hc hf => ?_)
      · iterate 2 (refine ry_step rfl rfl ?_)
        refine ry_sub [1, 2, 3, 0] rfl rfl ?_
        exact ih l2 (l3 + (Int32.ofInt 1)) S hf _
      · refine ry_step rfl rfl ?_
        obtain ⟨⟨u28, S27⟩, hv26, hf⟩ := Option.bind_eq_some_iff.mp hf
        dsimp only at hf
        refine ry_call rfl rfl rfl rfl rfl (tX2_draw hv26) ?_
        iterate 2 (refine ry_step rfl rfl ?_)
        refine ry_nmi hf (fun w29 hf => ?_)
        iterate 5 (refine ry_step rfl rfl ?_)
        obtain ⟨⟨u32, S31⟩, hv30, hf⟩ := Option.bind_eq_some_iff.mp hf
        dsimp only at hf
        refine ry_call rfl rfl rfl rfl rfl (tX1_chanceOf hv30) ?_
        refine ry_step rfl rfl ?_
        refine ry_br hf (fun hc hf => ?_) (fun hc hf => ?_)
        · iterate 2 (refine ry_step rfl rfl ?_)
          refine ry_sub [2, 3, 4, 0] rfl rfl ?_
          exact ih l2 (l3 + (Int32.ofInt 1)) S31 hf _
        · iterate 2 (refine ry_step rfl rfl ?_)
          obtain ⟨S34, hv33, hf⟩ := Option.bind_eq_some_iff.mp hf
          refine ry_call rfl rfl rfl rfl rfl (tX2_noteCame hv33) ?_
          iterate 3 (refine ry_step rfl rfl ?_)
          refine ry_sub [3, 4, 1, 0] rfl rfl ?_
          exact ih (l2 + (Int32.ofInt 1)) (l3 + (Int32.ofInt 1)) S34 hf _
def fX11_passDay (N : Nat) (T : yK) (S : yS) : Option (Int32 × yS) := lX11_passDay N T N (Int32.ofInt 0) (Int32.ofInt 0) S
set_option maxRecDepth 4000 in
theorem tX11_passDay {ro : xRo} {T : yK} {S : yS} {d N : Nat} {q : Int32} {S' : yS} (hf : fX11_passDay N T  S = some (q, S')) : yEv ro xNo (yKx T) (d + 5) jX11_passDay [.ref 16] S (some (.int q)) S' := by
  refine ry_meth pX11_passDay rfl (fun z => ?_)
  unfold fX11_passDay at hf
  iterate 8 (refine ry_step rfl rfl ?_)
  refine ry_sub [3, 2, 1, 0] rfl rfl ?_
  exact uX11_passDay (ro := ro) _ (Int32.ofInt 0) (Int32.ofInt 0) S hf _
def lX11_passSteps (N : Nat) (T : yK) : Nat → Int32 → Int32 → Int32 → yS → Option (Int32 × yS)
  | 0, _, _, _, _ => none
  | n + 1, l1, l2, l3, S => (if l1 ≤ l3 then some (l2, S) else (fX8_keep_19  S).bind fun S2 => (fX11_passDay N T  S2).bind fun (u5, S4) => lX11_passSteps N T n l1 (l2 + u5) (l3 + (Int32.ofInt 1)) S4)
set_option maxRecDepth 4000 in
theorem uX11_passSteps {ro : xRo} {T : yK} {d N : Nat} : ∀ n : Nat, (∀ (l1 : Int32) (l2 : Int32) (l3 : Int32) (S : yS) {q : Int32} {S' : yS}, lX11_passSteps N T n l1 l2 l3 S = some (q, S') → ∀ z, Ry ro xNo (yKx T) z (d + 5) mX11_passSteps 4 [(0, .ref 16), (1, .int l1), (2, .int l2), (3, .int l3)] [] S (some (.int q), yH (yKx T) z S')) := by
  intro n
  induction n with
  | zero => exact (by intro _ _ _ _ _ _ hf; cases hf)
  | succ n ih =>
    intro l1 l2 l3 S q S' hf z
    unfold lX11_passSteps at hf
    iterate 3 (refine ry_step rfl rfl ?_)
    refine ry_br hf (fun hc hf => ?_) (fun hc hf => ?_)
    · refine ry_step rfl rfl ?_
      cases hf
      exact ry_ret rfl rfl
    · iterate 6 (refine ry_step rfl rfl ?_)
      obtain ⟨S2, hv1, hf⟩ := Option.bind_eq_some_iff.mp hf
      refine ry_call rfl rfl rfl rfl rfl (tX8_keep_19 hv1) ?_
      iterate 2 (refine ry_step rfl rfl ?_)
      obtain ⟨⟨u5, S4⟩, hv3, hf⟩ := Option.bind_eq_some_iff.mp hf
      dsimp only at hf
      refine ry_call rfl rfl rfl rfl rfl (tX11_passDay hv3) ?_
      iterate 4 (refine ry_step rfl rfl ?_)
      refine ry_sub [2, 3, 1, 0] rfl rfl ?_
      exact ih l1 (l2 + u5) (l3 + (Int32.ofInt 1)) S4 hf _
def fX11_passSteps (N : Nat) (T : yK) (v0 : Int32) (S : yS) : Option (Int32 × yS) := lX11_passSteps N T N v0 (Int32.ofInt 0) (Int32.ofInt 0) S
set_option maxRecDepth 4000 in
theorem tX11_passSteps {ro : xRo} {T : yK} {S : yS} {d N : Nat} {v0 : Int32} {q : Int32} {S' : yS} (hf : fX11_passSteps N T v0 S = some (q, S')) : yEv ro xNo (yKx T) (d + 6) jX11_passSteps [.ref 16, .int v0] S (some (.int q)) S' := by
  refine ry_meth pX11_passSteps rfl (fun z => ?_)
  unfold fX11_passSteps at hf
  iterate 4 (refine ry_step rfl rfl ?_)
  refine ry_sub [2, 3, 1, 0] rfl rfl ?_
  exact uX11_passSteps (ro := ro) _ v0 (Int32.ofInt 0) (Int32.ofInt 0) S hf _
def fX11_day (N : Nat) (T : yK) (v0 : Int32) (S : yS) : Option (Int32 × yS) := (if (fX11_within v0 (Int32.ofInt 1) (Int32.ofInt 60)) = 0 then some ((Int32.ofInt (-1)), S) else (if ((S.1 19 4) + v0) ≤ (Int32.ofInt 9999) then (fX11_passSteps N T v0 S).bind fun (u3, S2) => some (u3, S2) else some ((Int32.ofInt (-1)), S)))
set_option maxRecDepth 4000 in
theorem tX11_day {ro : xRo} {T : yK} {S : yS} {d N : Nat} {v0 : Int32} {q : Int32} {S' : yS} (hf : fX11_day N T v0 S = some (q, S')) : yEv ro xNo (yKx T) (d + 7) jX11_day [.ref 16, .int v0] S (some (.int q)) S' := by
  refine ry_meth pX11_day rfl (fun z => ?_)
  unfold fX11_day at hf
  iterate 3 (refine ry_step rfl rfl ?_)
  refine ry_call rfl rfl rfl rfl rfl tX11_within ?_
  refine ry_step rfl rfl ?_
  refine ry_br hf (fun hc hf => ?_) (fun hc hf => ?_)
  · refine ry_step rfl rfl ?_
    cases hf
    exact ry_ret rfl rfl
  · iterate 8 (refine ry_step rfl rfl ?_)
    refine ry_br hf (fun hc hf => ?_) (fun hc hf => ?_)
    · iterate 2 (refine ry_step rfl rfl ?_)
      obtain ⟨⟨u3, S2⟩, hv1, hf⟩ := Option.bind_eq_some_iff.mp hf
      dsimp only at hf
      refine ry_call rfl rfl rfl rfl rfl (tX11_passSteps hv1) ?_
      cases hf
      exact ry_ret rfl rfl
    · refine ry_step rfl rfl ?_
      cases hf
      exact ry_ret rfl rfl
def fX11_drawYear (N : Nat) (T : yK) (S : yS) : Option yS := (fX2_draw  S).bind fun (u3, S2) => pSt ((u3 / (Int32.ofInt 6)) - (u3 / (Int32.ofInt 6)) / (Int32.ofInt 8) * (Int32.ofInt 8)) fun w4 => pSt ((Int32.ofInt 1) + ((u3 / (Int32.ofInt 6)) - (u3 / (Int32.ofInt 6)) / (Int32.ofInt 50) * (Int32.ofInt 50))) fun w5 => pSt (u3 - u3 / (Int32.ofInt 6) * (Int32.ofInt 6)) fun w6 => (if w6 = (Int32.ofInt 0) then (if ¬ (u3 - u3 / (Int32.ofInt 4) * (Int32.ofInt 4)) = (Int32.ofInt 2) then some S2 else (fX0_canThin w4 S2).bind fun u20 => (if u20 = 0 then some S2 else (fX2_markGone w4 S2).bind fun S22 => some S22)) else (if w6 = (Int32.ofInt 1) then (fX0_canCall w4 S2).bind fun u16 => (if u16 = 0 then some S2 else (fX2_markBack w4 S2).bind fun S18 => some S18) else (if w6 = (Int32.ofInt 2) then (if ¬ (u3 - u3 / (Int32.ofInt 4) * (Int32.ofInt 4)) = 0 then some S2 else (fX0_canGrant w5 S2).bind fun u13 => (if u13 = 0 then some S2 else pSt (ySi S2 19 1 ((S2.1 19 1) + w5)) fun S14 => some S14)) else (fX0_canPass  S2).bind fun u8 => (if u8 = 0 then some S2 else (fX11_passDay N T  S2).bind fun (u11, S10) => some S10))))
set_option maxRecDepth 4000 in
theorem tX11_drawYear {ro : xRo} {T : yK} {S : yS} {d N : Nat} {S' : yS} (hf : fX11_drawYear N T  S = some S') : yEv ro xNo (yKx T) (d + 6) jX11_drawYear [.ref 16] S (none) S' := by
  refine ry_meth pX11_drawYear rfl (fun z => ?_)
  unfold fX11_drawYear at hf
  iterate 5 (refine ry_step rfl rfl ?_)
  obtain ⟨⟨u3, S2⟩, hv1, hf⟩ := Option.bind_eq_some_iff.mp hf
  dsimp only at hf
  refine ry_call rfl rfl rfl rfl rfl (tX2_draw hv1) ?_
  iterate 6 (refine ry_step rfl rfl ?_)
  refine ry_nmi hf (fun w4 hf => ?_)
  iterate 8 (refine ry_step rfl rfl ?_)
  refine ry_nmi hf (fun w5 hf => ?_)
  iterate 4 (refine ry_step rfl rfl ?_)
  refine ry_nmi hf (fun w6 hf => ?_)
  refine ry_sw hf (fun hf => ?_) (fun n0 hf => ?_)
  · iterate 6 (refine ry_step rfl rfl ?_)
    refine ry_br hf (fun hc hf => ?_) (fun hc hf => ?_)
    · cases hf
      exact ry_ret rfl rfl
    · iterate 3 (refine ry_step rfl rfl ?_)
      obtain ⟨u20, hv19, hf⟩ := Option.bind_eq_some_iff.mp hf
      refine ry_call rfl rfl rfl rfl rfl (tX0_canThin hv19) ?_
      refine ry_step rfl rfl ?_
      refine ry_br hf (fun hc hf => ?_) (fun hc hf => ?_)
      · cases hf
        exact ry_ret rfl rfl
      · iterate 2 (refine ry_step rfl rfl ?_)
        obtain ⟨S22, hv21, hf⟩ := Option.bind_eq_some_iff.mp hf
        refine ry_call rfl rfl rfl rfl rfl (tX2_markGone hv21) ?_
        refine ry_step rfl rfl ?_
        cases hf
        exact ry_ret rfl rfl
  · refine ry_sw hf (fun hf => ?_) (fun n1 hf => ?_)
    · iterate 4 (refine ry_step rfl rfl ?_)
      obtain ⟨u16, hv15, hf⟩ := Option.bind_eq_some_iff.mp hf
      refine ry_call rfl rfl rfl rfl rfl (tX0_canCall hv15) ?_
      refine ry_step rfl rfl ?_
      refine ry_br hf (fun hc hf => ?_) (fun hc hf => ?_)
      · cases hf
        exact ry_ret rfl rfl
      · iterate 2 (refine ry_step rfl rfl ?_)
        obtain ⟨S18, hv17, hf⟩ := Option.bind_eq_some_iff.mp hf
        refine ry_call rfl rfl rfl rfl rfl (tX2_markBack hv17) ?_
        refine ry_step rfl rfl ?_
        cases hf
        exact ry_ret rfl rfl
    · refine ry_sw hf (fun hf => ?_) (fun n2 hf => ?_)
      · iterate 5 (refine ry_step rfl rfl ?_)
        refine ry_br hf (fun hc hf => ?_) (fun hc hf => ?_)
        · cases hf
          exact ry_ret rfl rfl
        · iterate 3 (refine ry_step rfl rfl ?_)
          obtain ⟨u13, hv12, hf⟩ := Option.bind_eq_some_iff.mp hf
          refine ry_call rfl rfl rfl rfl rfl (tX0_canGrant hv12) ?_
          refine ry_step rfl rfl ?_
          refine ry_br hf (fun hc hf => ?_) (fun hc hf => ?_)
          · cases hf
            exact ry_ret rfl rfl
          · iterate 5 (refine ry_step rfl rfl ?_)
            refine ry_stepS hf rfl rfl (fun S14 hf => ?_)
            refine ry_step rfl rfl ?_
            cases hf
            exact ry_ret rfl rfl
      · have m0 := xne_toInt (k := 0) rfl n0
        have m1 := xne_toInt (k := 1) rfl n1
        have m2 := xne_toInt (k := 2) rfl n2
        refine ry_tb rfl (by omega) ?_
        iterate 2 (refine ry_step rfl rfl ?_)
        obtain ⟨u8, hv7, hf⟩ := Option.bind_eq_some_iff.mp hf
        refine ry_call rfl rfl rfl rfl rfl (tX0_canPass hv7) ?_
        refine ry_step rfl rfl ?_
        refine ry_br hf (fun hc hf => ?_) (fun hc hf => ?_)
        · cases hf
          exact ry_ret rfl rfl
        · refine ry_step rfl rfl ?_
          obtain ⟨⟨u11, S10⟩, hv9, hf⟩ := Option.bind_eq_some_iff.mp hf
          dsimp only at hf
          refine ry_call rfl rfl rfl rfl rfl (tX11_passDay hv9) ?_
          refine ry_step rfl rfl ?_
          cases hf
          exact ry_ret rfl rfl
def lX11_years (N : Nat) (T : yK) : Nat → Int32 → Int32 → yS → Option (Int32 × yS)
  | 0, _, _, _ => none
  | n + 1, l2, l3, S => (if l2 ≤ l3 then some ((S.1 19 4), S) else (fX11_drawYear N T  S).bind fun S5 => lX11_years N T n l2 (l3 + (Int32.ofInt 1)) S5)
set_option maxRecDepth 4000 in
theorem uX11_years {ro : xRo} {T : yK} {d N : Nat} : ∀ n : Nat, (∀ (l2 : Int32) (l3 : Int32) (S : yS) {q : Int32} {S' : yS}, lX11_years N T n l2 l3 S = some (q, S') → ∀ z, Ry ro xNo (yKx T) z (d + 6) mX11_years 59 [(0, .ref 16), (2, .int l2), (3, .int l3)] [] S (some (.int q), yH (yKx T) z S')) := by
  intro n
  induction n with
  | zero => exact (by intro _ _ _ _ _ hf; cases hf)
  | succ n ih =>
    intro l2 l3 S q S' hf z
    unfold lX11_years at hf
    iterate 3 (refine ry_step rfl rfl ?_)
    refine ry_br hf (fun hc hf => ?_) (fun hc hf => ?_)
    · iterate 4 (refine ry_step rfl rfl ?_)
      cases hf
      exact ry_ret rfl rfl
    · refine ry_step rfl rfl ?_
      obtain ⟨S5, hv4, hf⟩ := Option.bind_eq_some_iff.mp hf
      refine ry_call rfl rfl rfl rfl rfl (tX11_drawYear hv4) ?_
      iterate 2 (refine ry_step rfl rfl ?_)
      refine ry_sub [1, 2, 0] rfl rfl ?_
      exact ih l2 (l3 + (Int32.ofInt 1)) S5 hf _
def fX11_years (N : Nat) (T : yK) (v0 : Int32) (v1 : Int32) (S : yS) : Option (Int32 × yS) := (if (fX11_within v0 (Int32.ofInt 0) (Int32.ofInt 9999)) = 0 then some ((Int32.ofInt (-1)), S) else (if ¬ (fX11_within v1 (Int32.ofInt 1) (Int32.ofInt 40)) = 0 then (fX8_keep_19  S).bind fun S2 => pSt (ySi S2 19 5 ((v0 * (Int32.ofInt 2)) + (Int32.ofInt 419))) fun S3 => lX11_years N T N v1 (Int32.ofInt 0) S3 else some ((Int32.ofInt (-1)), S)))
set_option maxRecDepth 4000 in
theorem tX11_years {ro : xRo} {T : yK} {S : yS} {d N : Nat} {v0 : Int32} {v1 : Int32} {q : Int32} {S' : yS} (hf : fX11_years N T v0 v1 S = some (q, S')) : yEv ro xNo (yKx T) (d + 7) jX11_years [.ref 16, .int v0, .int v1] S (some (.int q)) S' := by
  refine ry_meth pX11_years rfl (fun z => ?_)
  unfold fX11_years at hf
  iterate 3 (refine ry_step rfl rfl ?_)
  refine ry_call rfl rfl rfl rfl rfl tX11_within ?_
  refine ry_step rfl rfl ?_
  refine ry_br hf (fun hc hf => ?_) (fun hc hf => ?_)
  · refine ry_step rfl rfl ?_
    cases hf
    exact ry_ret rfl rfl
  · iterate 3 (refine ry_step rfl rfl ?_)
    refine ry_call rfl rfl rfl rfl rfl tX11_within ?_
    refine ry_step rfl rfl ?_
    refine ry_br hf (fun hc hf => ?_) (fun hc hf => ?_)
    · iterate 6 (refine ry_step rfl rfl ?_)
      obtain ⟨S2, hv1, hf⟩ := Option.bind_eq_some_iff.mp hf
      refine ry_call rfl rfl rfl rfl rfl (tX8_keep_19 hv1) ?_
      iterate 8 (refine ry_step rfl rfl ?_)
      refine ry_stepS hf rfl rfl (fun S3 hf => ?_)
      iterate 2 (refine ry_step rfl rfl ?_)
      refine ry_sub [1, 3, 0] rfl rfl ?_
      exact uX11_years (ro := ro) _ v1 (Int32.ofInt 0) S3 hf _
    · refine ry_step rfl rfl ?_
      cases hf
      exact ry_ret rfl rfl
def fX8_takeBack_19 (S : yS) : Option yS := (if (S.1 22 2) ≤ 0 then some S else pSt (ySi S 22 2 ((S.1 22 2) - (Int32.ofInt 1))) fun S1 => (ain 30 (((S1.1 22 1) + (S1.1 22 2)) - ((S1.1 22 1) + (S1.1 22 2)) / (Int32.ofInt 30) * (Int32.ofInt 30))).bind fun j2 => (S1.2.2.2.2 23 j2).bind fun o3 => if yMo o3 = true then pSt (mCopy S1 19 o3) fun S4 => some S4 else none)
set_option maxRecDepth 4000 in
theorem tX8_takeBack_19 {ro : xRo} {T : yK} {S : yS} {d : Nat} {S' : yS} (hf : fX8_takeBack_19  S = some S') : yEv ro xNo (yKx T) (d + 2) jX8_takeBack [.ref 22, .ref 19] S (none) S' := by
  refine ry_meth pX8_takeBack rfl (fun z => ?_)
  unfold fX8_takeBack_19 at hf
  iterate 3 (refine ry_step rfl rfl ?_)
  refine ry_br hf (fun hc hf => ?_) (fun hc hf => ?_)
  · cases hf
    exact ry_ret rfl rfl
  · iterate 5 (refine ry_step rfl rfl ?_)
    refine ry_stepS hf rfl rfl (fun S1 hf => ?_)
    iterate 10 (refine ry_step rfl rfl ?_)
    refine ry_aaM hf rfl rfl (fun o3 ho3 hf => ?_)
    refine ry_mcp hf rfl rfl rfl ho3 rfl (fun S4 hf => ?_)
    cases hf
    exact ry_ret rfl rfl
def fX11_undo (S : yS) : Option (Int32 × yS) := (if ¬ (S.1 22 2) = 0 then (fX8_takeBack_19  S).bind fun S2 => some ((S2.1 22 2), S2) else some ((Int32.ofInt (-1)), S))
set_option maxRecDepth 4000 in
theorem tX11_undo {ro : xRo} {T : yK} {S : yS} {d : Nat} {q : Int32} {S' : yS} (hf : fX11_undo  S = some (q, S')) : yEv ro xNo (yKx T) (d + 3) jX11_undo [.ref 16] S (some (.int q)) S' := by
  refine ry_meth pX11_undo rfl (fun z => ?_)
  unfold fX11_undo at hf
  iterate 5 (refine ry_step rfl rfl ?_)
  refine ry_br hf (fun hc hf => ?_) (fun hc hf => ?_)
  · iterate 6 (refine ry_step rfl rfl ?_)
    obtain ⟨S2, hv1, hf⟩ := Option.bind_eq_some_iff.mp hf
    refine ry_call rfl rfl rfl rfl rfl (tX8_takeBack_19 hv1) ?_
    iterate 4 (refine ry_step rfl rfl ?_)
    cases hf
    exact ry_ret rfl rfl
  · refine ry_step rfl rfl ?_
    cases hf
    exact ry_ret rfl rfl
def fX11_of (N : Nat) (T : yK) (v0 : Int32) (v1 : Int32) (S : yS) : Option (Int32 × yS) := (fX0_hasBird v0 S).bind fun u2 => (if ¬ u2 = 0 then (if v1 = (Int32.ofInt 0) then (ain 8 v0).bind fun j11 => some ((S.2.2.1 114 j11), S) else (if v1 = (Int32.ofInt 1) then (ain 8 v0).bind fun j10 => some ((S.2.2.1 115 j10), S) else (if v1 = (Int32.ofInt 2) then (ain 8 v0).bind fun j9 => some ((S.2.2.1 116 j9), S) else (if v1 = (Int32.ofInt 3) then (fX2_isGone v0 S).bind fun u8 => (if u8 = 0 then some ((Int32.ofInt 0), S) else some ((Int32.ofInt 1), S)) else (if v1 = (Int32.ofInt 4) then (ain 8 v0).bind fun j6 => some ((S.2.2.1 20 j6), S) else (if v1 = (Int32.ofInt 5) then (fX1_chanceOf N T v0 S).bind fun (u5, S4) => some (u5, S4) else some ((Int32.ofInt (-1)), S))))))) else some ((Int32.ofInt (-1)), S))
set_option maxRecDepth 4000 in
theorem tX11_of {ro : xRo} {T : yK} {S : yS} {d N : Nat} {v0 : Int32} {v1 : Int32} {q : Int32} {S' : yS} (hf : fX11_of N T v0 v1 S = some (q, S')) : yEv ro xNo (yKx T) (d + 5) jX11_of [.ref 16, .int v0, .int v1] S (some (.int q)) S' := by
  refine ry_meth pX11_of rfl (fun z => ?_)
  unfold fX11_of at hf
  iterate 3 (refine ry_step rfl rfl ?_)
  obtain ⟨u2, hv1, hf⟩ := Option.bind_eq_some_iff.mp hf
  refine ry_call rfl rfl rfl rfl rfl (tX0_hasBird hv1) ?_
  refine ry_step rfl rfl ?_
  refine ry_br hf (fun hc hf => ?_) (fun hc hf => ?_)
  · refine ry_step rfl rfl ?_
    refine ry_sw hf (fun hf => ?_) (fun n0 hf => ?_)
    · iterate 5 (refine ry_step rfl rfl ?_)
      refine ry_iald hf rfl rfl rfl (fun j11 hf => ?_)
      cases hf
      exact ry_ret rfl rfl
    · refine ry_sw hf (fun hf => ?_) (fun n1 hf => ?_)
      · iterate 5 (refine ry_step rfl rfl ?_)
        refine ry_iald hf rfl rfl rfl (fun j10 hf => ?_)
        cases hf
        exact ry_ret rfl rfl
      · refine ry_sw hf (fun hf => ?_) (fun n2 hf => ?_)
        · iterate 5 (refine ry_step rfl rfl ?_)
          refine ry_iald hf rfl rfl rfl (fun j9 hf => ?_)
          cases hf
          exact ry_ret rfl rfl
        · refine ry_sw hf (fun hf => ?_) (fun n3 hf => ?_)
          · iterate 5 (refine ry_step rfl rfl ?_)
            obtain ⟨u8, hv7, hf⟩ := Option.bind_eq_some_iff.mp hf
            refine ry_call rfl rfl rfl rfl rfl (tX2_isGone hv7) ?_
            refine ry_step rfl rfl ?_
            refine ry_br hf (fun hc hf => ?_) (fun hc hf => ?_)
            · refine ry_step rfl rfl ?_
              cases hf
              exact ry_ret rfl rfl
            · iterate 2 (refine ry_step rfl rfl ?_)
              cases hf
              exact ry_ret rfl rfl
          · refine ry_sw hf (fun hf => ?_) (fun n4 hf => ?_)
            · iterate 6 (refine ry_step rfl rfl ?_)
              refine ry_iald hf rfl rfl rfl (fun j6 hf => ?_)
              cases hf
              exact ry_ret rfl rfl
            · refine ry_sw hf (fun hf => ?_) (fun n5 hf => ?_)
              · iterate 4 (refine ry_step rfl rfl ?_)
                obtain ⟨⟨u5, S4⟩, hv3, hf⟩ := Option.bind_eq_some_iff.mp hf
                dsimp only at hf
                refine ry_call rfl rfl rfl rfl rfl (tX1_chanceOf hv3) ?_
                cases hf
                exact ry_ret rfl rfl
              · have m0 := xne_toInt (k := 0) rfl n0
                have m1 := xne_toInt (k := 1) rfl n1
                have m2 := xne_toInt (k := 2) rfl n2
                have m3 := xne_toInt (k := 3) rfl n3
                have m4 := xne_toInt (k := 4) rfl n4
                have m5 := xne_toInt (k := 5) rfl n5
                refine ry_tb rfl (by omega) ?_
                refine ry_step rfl rfl ?_
                cases hf
                exact ry_ret rfl rfl
  · refine ry_step rfl rfl ?_
    cases hf
    exact ry_ret rfl rfl
def fX11_brings (N : Nat) (T : yK) (v0 : Int32) (S : yS) : Option (Int32 × yS) := (if (fX11_isCount v0) = 0 then some ((Int32.ofInt (-1000)), S) else (fX0_rulingText T  S).bind fun t2 => optC t2 ((fX1_broughtBy_N N T v0 S).bind fun (u6, S5) => some (u6, S5)) (fun o3 => if yTx T o3 = true then (fX1_broughtBy_T N T o3 v0 S).bind fun (u9, S8) => some (u9, S8) else none))
set_option maxRecDepth 4000 in
theorem tX11_brings {ro : xRo} {T : yK} {S : yS} {d N : Nat} {v0 : Int32} {q : Int32} {S' : yS} (hf : fX11_brings N T v0 S = some (q, S')) : yEv ro xNo (yKx T) (d + 5) jX11_brings [.ref 16, .int v0] S (some (.int q)) S' := by
  refine ry_meth pX11_brings rfl (fun z => ?_)
  unfold fX11_brings at hf
  refine ry_step rfl rfl ?_
  refine ry_call rfl rfl rfl rfl rfl tX11_isCount ?_
  refine ry_step rfl rfl ?_
  refine ry_br hf (fun hc hf => ?_) (fun hc hf => ?_)
  · refine ry_step rfl rfl ?_
    cases hf
    exact ry_ret rfl rfl
  · iterate 4 (refine ry_step rfl rfl ?_)
    obtain ⟨t2, hv1, hf⟩ := Option.bind_eq_some_iff.mp hf
    refine ry_call rfl rfl rfl rfl rfl (tX0_rulingText hv1) ?_
    cases t2 with
    | none =>
      dsimp only [optC] at hf
      refine ry_step rfl rfl ?_
      obtain ⟨⟨u6, S5⟩, hv4, hf⟩ := Option.bind_eq_some_iff.mp hf
      dsimp only at hf
      refine ry_call rfl rfl rfl rfl rfl (tX1_broughtBy_N hv4) ?_
      refine ry_step rfl rfl ?_
      cases hf
      exact ry_ret rfl rfl
    | some o3 =>
      dsimp only [optC] at hf
      split at hf
      · rename_i ho3
        refine ry_step rfl rfl ?_
        obtain ⟨⟨u9, S8⟩, hv7, hf⟩ := Option.bind_eq_some_iff.mp hf
        dsimp only at hf
        refine ry_call rfl rfl rfl rfl rfl (tX1_broughtBy_T ho3 hv7) ?_
        refine ry_step rfl rfl ?_
        cases hf
        exact ry_ret rfl rfl
      · cases hf
def lX11_foretold (N : Nat) (T : yK) : Nat → Int32 → Int32 → Int32 → yS → Option (Int32 × yS)
  | 0, _, _, _, _ => none
  | n + 1, l1, l2, l3, S => (if l1 ≤ l3 then (if ¬ l2 = 0 then (fX2_copy_247  S).bind fun S4 => some ((S.1 19 2), S4) else (fX2_copy_247  S).bind fun S6 => some ((S.1 19 1), S6)) else (fX0_canPass  S).bind fun u8 => (if u8 = 0 then (if ¬ l2 = 0 then (fX2_copy_247  S).bind fun S10 => some ((S.1 19 2), S10) else (fX2_copy_247  S).bind fun S12 => some ((S.1 19 1), S12)) else (fX11_passDay N T  S).bind fun (u15, S14) => lX11_foretold N T n l1 l2 (l3 + (Int32.ofInt 1)) S14))
set_option maxRecDepth 4000 in
theorem uX11_foretold {ro : xRo} {T : yK} {d N : Nat} : ∀ n : Nat, (∀ (l1 : Int32) (l2 : Int32) (l3 : Int32) (S : yS) {q : Int32} {S' : yS}, lX11_foretold N T n l1 l2 l3 S = some (q, S') → ∀ z, Ry ro xNo (yKx T) z (d + 5) mX11_foretold 38 [(0, .ref 16), (1, .int l1), (2, .int l2), (3, .int l3)] [] S (some (.int q), yH (yKx T) z S')) := by
  intro n
  induction n with
  | zero => exact (by intro _ _ _ _ _ _ hf; cases hf)
  | succ n ih =>
    intro l1 l2 l3 S q S' hf z
    unfold lX11_foretold at hf
    iterate 3 (refine ry_step rfl rfl ?_)
    refine ry_br hf (fun hc hf => ?_) (fun hc hf => ?_)
    · iterate 2 (refine ry_step rfl rfl ?_)
      refine ry_br hf (fun hc hf => ?_) (fun hc hf => ?_)
      · iterate 10 (refine ry_step rfl rfl ?_)
        obtain ⟨S4, hv3, hf⟩ := Option.bind_eq_some_iff.mp hf
        refine ry_call rfl rfl rfl rfl rfl (tX2_copy_247 hv3) ?_
        refine ry_step rfl rfl ?_
        cases hf
        exact ry_ret rfl rfl
      · iterate 11 (refine ry_step rfl rfl ?_)
        obtain ⟨S6, hv5, hf⟩ := Option.bind_eq_some_iff.mp hf
        refine ry_call rfl rfl rfl rfl rfl (tX2_copy_247 hv5) ?_
        refine ry_step rfl rfl ?_
        cases hf
        exact ry_ret rfl rfl
    · iterate 2 (refine ry_step rfl rfl ?_)
      obtain ⟨u8, hv7, hf⟩ := Option.bind_eq_some_iff.mp hf
      refine ry_call rfl rfl rfl rfl rfl (tX0_canPass hv7) ?_
      refine ry_step rfl rfl ?_
      refine ry_br hf (fun hc hf => ?_) (fun hc hf => ?_)
      · iterate 2 (refine ry_step rfl rfl ?_)
        refine ry_br hf (fun hc hf => ?_) (fun hc hf => ?_)
        · iterate 10 (refine ry_step rfl rfl ?_)
          obtain ⟨S10, hv9, hf⟩ := Option.bind_eq_some_iff.mp hf
          refine ry_call rfl rfl rfl rfl rfl (tX2_copy_247 hv9) ?_
          refine ry_step rfl rfl ?_
          cases hf
          exact ry_ret rfl rfl
        · iterate 11 (refine ry_step rfl rfl ?_)
          obtain ⟨S12, hv11, hf⟩ := Option.bind_eq_some_iff.mp hf
          refine ry_call rfl rfl rfl rfl rfl (tX2_copy_247 hv11) ?_
          refine ry_step rfl rfl ?_
          cases hf
          exact ry_ret rfl rfl
      · refine ry_step rfl rfl ?_
        obtain ⟨⟨u15, S14⟩, hv13, hf⟩ := Option.bind_eq_some_iff.mp hf
        dsimp only at hf
        refine ry_call rfl rfl rfl rfl rfl (tX11_passDay hv13) ?_
        iterate 3 (refine ry_step rfl rfl ?_)
        refine ry_sub [1, 2, 3, 0] rfl rfl ?_
        exact ih l1 l2 (l3 + (Int32.ofInt 1)) S14 hf _
def fX11_foretold (N : Nat) (T : yK) (v0 : Int32) (v1 : Int32) (S : yS) : Option (Int32 × yS) := (if (fX11_within v0 (Int32.ofInt 1) (Int32.ofInt 60)) = 0 then some ((Int32.ofInt (-100000)), S) else (if ¬ (fX11_within v1 (Int32.ofInt 0) (Int32.ofInt 1)) = 0 then (fX2_copy_t247_19  S).bind fun S2 => lX11_foretold N T N v0 v1 (Int32.ofInt 0) S2 else some ((Int32.ofInt (-100000)), S)))
set_option maxRecDepth 4000 in
theorem tX11_foretold {ro : xRo} {T : yK} {S : yS} {d N : Nat} {v0 : Int32} {v1 : Int32} {q : Int32} {S' : yS} (hf : fX11_foretold N T v0 v1 S = some (q, S')) : yEv ro xNo (yKx T) (d + 6) jX11_foretold [.ref 16, .int v0, .int v1] S (some (.int q)) S' := by
  refine ry_meth pX11_foretold rfl (fun z => ?_)
  unfold fX11_foretold at hf
  iterate 3 (refine ry_step rfl rfl ?_)
  refine ry_call rfl rfl rfl rfl rfl tX11_within ?_
  refine ry_step rfl rfl ?_
  refine ry_br hf (fun hc hf => ?_) (fun hc hf => ?_)
  · refine ry_step rfl rfl ?_
    cases hf
    exact ry_ret rfl rfl
  · iterate 3 (refine ry_step rfl rfl ?_)
    refine ry_call rfl rfl rfl rfl rfl tX11_within ?_
    refine ry_step rfl rfl ?_
    refine ry_br hf (fun hc hf => ?_) (fun hc hf => ?_)
    · iterate 5 (refine ry_step rfl rfl ?_)
      obtain ⟨S2, hv1, hf⟩ := Option.bind_eq_some_iff.mp hf
      refine ry_call rfl rfl rfl rfl rfl (tX2_copy_t247_19 hv1) ?_
      iterate 2 (refine ry_step rfl rfl ?_)
      refine ry_sub [1, 2, 3, 0] rfl rfl ?_
      exact uX11_foretold (ro := ro) _ v0 v1 (Int32.ofInt 0) S2 hf _
    · refine ry_step rfl rfl ?_
      cases hf
      exact ry_ret rfl rfl
def lX11_noteChances (N : Nat) (T : yK) : Nat → Int32 → yS → Option yS
  | 0, _, _ => none
  | n + 1, l1, S => (if (S.1 18 5) ≤ l1 then some S else (fX1_chanceOf N T l1 S).bind fun (u3, S2) => (ain 8 l1).bind fun j5 => pSt (ySa S2 263 (upd (S2.2.2.1 263) j5 u3)) fun S4 => lX11_noteChances N T n (l1 + (Int32.ofInt 1)) S4)
set_option maxRecDepth 4000 in
theorem uX11_noteChances {ro : xRo} {T : yK} {d N : Nat} : ∀ n : Nat, (∀ (l1 : Int32) (S : yS) {S' : yS}, lX11_noteChances N T n l1 S = some S' → ∀ z, Ry ro xNo (yKx T) z (d + 4) mX11_noteChances 2 [(0, .ref 16), (1, .int l1)] [] S (none, yH (yKx T) z S')) := by
  intro n
  induction n with
  | zero => exact (by intro _ _ _ hf; cases hf)
  | succ n ih =>
    intro l1 S S' hf z
    unfold lX11_noteChances at hf
    iterate 5 (refine ry_step rfl rfl ?_)
    refine ry_br hf (fun hc hf => ?_) (fun hc hf => ?_)
    · cases hf
      exact ry_ret rfl rfl
    · iterate 6 (refine ry_step rfl rfl ?_)
      obtain ⟨⟨u3, S2⟩, hv1, hf⟩ := Option.bind_eq_some_iff.mp hf
      dsimp only at hf
      refine ry_call rfl rfl rfl rfl rfl (tX1_chanceOf hv1) ?_
      refine ry_iast hf rfl rfl (fun j5 S4 hf => ?_)
      iterate 2 (refine ry_step rfl rfl ?_)
      refine ry_sub [1, 0] rfl rfl ?_
      exact ih (l1 + (Int32.ofInt 1)) S4 hf _
def fX11_noteChances (N : Nat) (T : yK) (S : yS) : Option yS := lX11_noteChances N T N (Int32.ofInt 0) S
set_option maxRecDepth 4000 in
theorem tX11_noteChances {ro : xRo} {T : yK} {S : yS} {d N : Nat} {S' : yS} (hf : fX11_noteChances N T  S = some S') : yEv ro xNo (yKx T) (d + 5) jX11_noteChances [.ref 16] S (none) S' := by
  refine ry_meth pX11_noteChances rfl (fun z => ?_)
  unfold fX11_noteChances at hf
  iterate 2 (refine ry_step rfl rfl ?_)
  refine ry_sub [1, 0] rfl rfl ?_
  exact uX11_noteChances (ro := ro) _ (Int32.ofInt 0) S hf _
def fX11_likely (N : Nat) (T : yK) (v0 : Int32) (v1 : Int32) (S : yS) : Option (Int64 × yS) := (if ¬ (fX11_isCount v0) = 0 then (fX0_dueOn N (S.1 19 4) S).bind fun u2 => (fX11_noteChances N T  S).bind fun S4 => (fX11_spreadOver N u2 (Int32.ofInt 0) S4).bind fun S6 => (fX7_just v0 S6).bind fun u8 => (fX11_lowest N u8 (S6.2.1 261 2) v1 S6).bind fun u10 => some (u10, S6) else some ((Int64.ofInt (-1)), S))
set_option maxRecDepth 4000 in
theorem tX11_likely {ro : xRo} {T : yK} {S : yS} {d N : Nat} {v0 : Int32} {v1 : Int32} {q : Int64} {S' : yS} (hf : fX11_likely N T v0 v1 S = some (q, S')) : yEv ro xNo (yKx T) (d + 6) jX11_likely [.ref 16, .int v0, .int v1] S (some (.long q)) S' := by
  refine ry_meth pX11_likely rfl (fun z => ?_)
  unfold fX11_likely at hf
  refine ry_step rfl rfl ?_
  refine ry_call rfl rfl rfl rfl rfl tX11_isCount ?_
  refine ry_step rfl rfl ?_
  refine ry_br hf (fun hc hf => ?_) (fun hc hf => ?_)
  · iterate 6 (refine ry_step rfl rfl ?_)
    obtain ⟨u2, hv1, hf⟩ := Option.bind_eq_some_iff.mp hf
    refine ry_call rfl rfl rfl rfl rfl (tX0_dueOn hv1) ?_
    iterate 2 (refine ry_step rfl rfl ?_)
    obtain ⟨S4, hv3, hf⟩ := Option.bind_eq_some_iff.mp hf
    refine ry_call rfl rfl rfl rfl rfl (tX11_noteChances hv3) ?_
    iterate 3 (refine ry_step rfl rfl ?_)
    obtain ⟨S6, hv5, hf⟩ := Option.bind_eq_some_iff.mp hf
    refine ry_call rfl rfl rfl rfl rfl (tX11_spreadOver hv5) ?_
    iterate 3 (refine ry_step rfl rfl ?_)
    obtain ⟨u8, hv7, hf⟩ := Option.bind_eq_some_iff.mp hf
    refine ry_call rfl rfl rfl rfl rfl (tX7_just hv7) ?_
    iterate 4 (refine ry_step rfl rfl ?_)
    obtain ⟨u10, hv9, hf⟩ := Option.bind_eq_some_iff.mp hf
    refine ry_call rfl rfl rfl rfl rfl (tX11_lowest hv9) ?_
    cases hf
    exact ry_ret rfl rfl
  · refine ry_step rfl rfl ?_
    cases hf
    exact ry_ret rfl rfl
def lX11_mean (N : Nat) (T : yK) : Nat → Int32 → Int32 → Int32 → Int32 → yS → Option (Int64 × yS)
  | 0, _, _, _, _, _ => none
  | n + 1, l1, l2, l3, l4, S => (if (Int32.ofInt 8) ≤ l4 then (fX11_lowest N (Int32.toInt64 l3) (Int64.ofInt 10) l1 S).bind fun u6 => some (u6, S) else (if (fX11_isIn l2 l4) = 0 then lX11_mean N T n l1 l2 l3 (l4 + (Int32.ofInt 1)) S else (ain 8 l4).bind fun j7 => lX11_mean N T n l1 l2 (l3 + (S.2.2.1 263 j7)) (l4 + (Int32.ofInt 1)) S))
set_option maxRecDepth 4000 in
theorem uX11_mean {ro : xRo} {T : yK} {d N : Nat} : ∀ n : Nat, (∀ (l1 : Int32) (l2 : Int32) (l3 : Int32) (l4 : Int32) (S : yS) {q : Int64} {S' : yS}, lX11_mean N T n l1 l2 l3 l4 S = some (q, S') → ∀ z, Ry ro xNo (yKx T) z (d + 5) mX11_mean 27 [(0, .ref 16), (1, .int l1), (2, .int l2), (3, .int l3), (4, .int l4)] [] S (some (.long q), yH (yKx T) z S')) := by
  intro n
  induction n with
  | zero => exact (by intro _ _ _ _ _ _ _ hf; cases hf)
  | succ n ih =>
    intro l1 l2 l3 l4 S q S' hf z
    unfold lX11_mean at hf
    iterate 3 (refine ry_step rfl rfl ?_)
    refine ry_br hf (fun hc hf => ?_) (fun hc hf => ?_)
    · iterate 4 (refine ry_step rfl rfl ?_)
      obtain ⟨u6, hv5, hf⟩ := Option.bind_eq_some_iff.mp hf
      refine ry_call rfl rfl rfl rfl rfl (tX11_lowest hv5) ?_
      cases hf
      exact ry_ret rfl rfl
    · iterate 2 (refine ry_step rfl rfl ?_)
      refine ry_call rfl rfl rfl rfl rfl tX11_isIn ?_
      refine ry_step rfl rfl ?_
      refine ry_br hf (fun hc hf => ?_) (fun hc hf => ?_)
      · iterate 2 (refine ry_step rfl rfl ?_)
        refine ry_sub [1, 2, 3, 4, 0] rfl rfl ?_
        exact ih l1 l2 l3 (l4 + (Int32.ofInt 1)) S hf _
      · iterate 4 (refine ry_step rfl rfl ?_)
        refine ry_iald hf rfl rfl rfl (fun j7 hf => ?_)
        iterate 4 (refine ry_step rfl rfl ?_)
        refine ry_sub [2, 3, 4, 1, 0] rfl rfl ?_
        exact ih l1 l2 (l3 + (S.2.2.1 263 j7)) (l4 + (Int32.ofInt 1)) S hf _
def fX11_mean (N : Nat) (T : yK) (v0 : Int32) (S : yS) : Option (Int64 × yS) := (fX0_dueOn N (S.1 19 4) S).bind fun u2 => (fX11_noteChances N T  S).bind fun S4 => lX11_mean N T N v0 u2 (Int32.ofInt 0) (Int32.ofInt 0) S4
set_option maxRecDepth 4000 in
theorem tX11_mean {ro : xRo} {T : yK} {S : yS} {d N : Nat} {v0 : Int32} {q : Int64} {S' : yS} (hf : fX11_mean N T v0 S = some (q, S')) : yEv ro xNo (yKx T) (d + 6) jX11_mean [.ref 16, .int v0] S (some (.long q)) S' := by
  refine ry_meth pX11_mean rfl (fun z => ?_)
  unfold fX11_mean at hf
  iterate 6 (refine ry_step rfl rfl ?_)
  obtain ⟨u2, hv1, hf⟩ := Option.bind_eq_some_iff.mp hf
  refine ry_call rfl rfl rfl rfl rfl (tX0_dueOn hv1) ?_
  iterate 2 (refine ry_step rfl rfl ?_)
  obtain ⟨S4, hv3, hf⟩ := Option.bind_eq_some_iff.mp hf
  refine ry_call rfl rfl rfl rfl rfl (tX11_noteChances hv3) ?_
  iterate 4 (refine ry_step rfl rfl ?_)
  refine ry_sub [3, 4, 2, 1, 0] rfl rfl ?_
  exact uX11_mean (ro := ro) _ v0 u2 (Int32.ofInt 0) (Int32.ofInt 0) S4 hf _
def lX11_bestThinned (N : Nat) (T : yK) : Nat → Int32 → Int32 → Int32 → Int64 → Int32 → yS → Option (Int32 × yS)
  | 0, _, _, _, _, _, _ => none
  | n + 1, l1, l2, l3, l4, l6, S => (if (Int32.ofInt 256) ≤ l6 then some (l3, S) else (if (l6 &&& (l2 ^^^ (Int32.ofInt (-1)))) = 0 then (fX11_spreadOver N l2 l6 S).bind fun S6 => (fX7_just l1 S6).bind fun u8 => (if 0 < (lg_cmp u8 l4) then lX11_bestThinned N T n l1 l2 l6 u8 (l6 + (Int32.ofInt 1)) S6 else (if ¬ (lg_cmp u8 l4) = 0 then lX11_bestThinned N T n l1 l2 l3 l4 (l6 + (Int32.ofInt 1)) S6 else (if (fJ6_bitCount_0f7a4 l3) ≤ (fJ6_bitCount_0f7a4 l6) then lX11_bestThinned N T n l1 l2 l3 l4 (l6 + (Int32.ofInt 1)) S6 else lX11_bestThinned N T n l1 l2 l6 u8 (l6 + (Int32.ofInt 1)) S6))) else lX11_bestThinned N T n l1 l2 l3 l4 (l6 + (Int32.ofInt 1)) S))
set_option maxRecDepth 4000 in
theorem uX11_bestThinned {ro : xRo} {T : yK} {d N : Nat} : ∀ n : Nat, (∀ (l1 : Int32) (l2 : Int32) (l3 : Int32) (l4 : Int64) (l6 : Int32) (S : yS) {q : Int32} {S' : yS}, lX11_bestThinned N T n l1 l2 l3 l4 l6 S = some (q, S') → ∀ z, Ry ro xNo (yKx T) z (d + 5) mX11_bestThinned 32 [(0, .ref 16), (1, .int l1), (2, .int l2), (3, .int l3), (4, .long l4), (6, .int l6)] [] S (some (.int q), yH (yKx T) z S')) := by
  intro n
  induction n with
  | zero => exact (by intro _ _ _ _ _ _ _ _ hf; cases hf)
  | succ n ih =>
    intro l1 l2 l3 l4 l6 S q S' hf z
    unfold lX11_bestThinned at hf
    iterate 3 (refine ry_step rfl rfl ?_)
    refine ry_br hf (fun hc hf => ?_) (fun hc hf => ?_)
    · refine ry_step rfl rfl ?_
      cases hf
      exact ry_ret rfl rfl
    · iterate 6 (refine ry_step rfl rfl ?_)
      refine ry_br hf (fun hc hf => ?_) (fun hc hf => ?_)
      · iterate 3 (refine ry_step rfl rfl ?_)
        obtain ⟨S6, hv5, hf⟩ := Option.bind_eq_some_iff.mp hf
        refine ry_call rfl rfl rfl rfl rfl (tX11_spreadOver hv5) ?_
        iterate 3 (refine ry_step rfl rfl ?_)
        obtain ⟨u8, hv7, hf⟩ := Option.bind_eq_some_iff.mp hf
        refine ry_call rfl rfl rfl rfl rfl (tX7_just hv7) ?_
        iterate 5 (refine ry_step rfl rfl ?_)
        refine ry_br hf (fun hc hf => ?_) (fun hc hf => ?_)
        · iterate 6 (refine ry_step rfl rfl ?_)
          refine ry_sub [4, 5, 6, 1, 2, 0] rfl rfl ?_
          exact ih l1 l2 l6 u8 (l6 + (Int32.ofInt 1)) S6 hf _
        · iterate 4 (refine ry_step rfl rfl ?_)
          refine ry_br hf (fun hc hf => ?_) (fun hc hf => ?_)
          · iterate 2 (refine ry_step rfl rfl ?_)
            refine ry_sub [2, 3, 4, 5, 6, 0] rfl rfl ?_
            exact ih l1 l2 l3 l4 (l6 + (Int32.ofInt 1)) S6 hf _
          · refine ry_step rfl rfl ?_
            refine ry_call rfl rfl rfl rfl rfl tJ6_bitCount_0f7a4 ?_
            refine ry_step rfl rfl ?_
            refine ry_call rfl rfl rfl rfl rfl tJ6_bitCount_0f7a4 ?_
            refine ry_step rfl rfl ?_
            refine ry_br hf (fun hc hf => ?_) (fun hc hf => ?_)
            · iterate 2 (refine ry_step rfl rfl ?_)
              refine ry_sub [2, 3, 4, 5, 6, 0] rfl rfl ?_
              exact ih l1 l2 l3 l4 (l6 + (Int32.ofInt 1)) S6 hf _
            · iterate 6 (refine ry_step rfl rfl ?_)
              refine ry_sub [4, 5, 6, 1, 2, 0] rfl rfl ?_
              exact ih l1 l2 l6 u8 (l6 + (Int32.ofInt 1)) S6 hf _
      · iterate 3 (refine ry_step rfl rfl ?_)
        refine ry_sub [1, 2, 3, 4, 5, 0] rfl rfl ?_
        exact ih l1 l2 l3 l4 (l6 + (Int32.ofInt 1)) S hf _
def fX11_bestThinned (N : Nat) (T : yK) (v0 : Int32) (S : yS) : Option (Int32 × yS) := (fX0_dueOn N (S.1 19 4) S).bind fun u2 => (fX11_noteChances N T  S).bind fun S4 => lX11_bestThinned N T N v0 u2 (Int32.ofInt 0) (Int64.ofInt (-1)) (Int32.ofInt 0) S4
set_option maxRecDepth 4000 in
theorem tX11_bestThinned {ro : xRo} {T : yK} {S : yS} {d N : Nat} {v0 : Int32} {q : Int32} {S' : yS} (hf : fX11_bestThinned N T v0 S = some (q, S')) : yEv ro xNo (yKx T) (d + 6) jX11_bestThinned [.ref 16, .int v0] S (some (.int q)) S' := by
  refine ry_meth pX11_bestThinned rfl (fun z => ?_)
  unfold fX11_bestThinned at hf
  iterate 6 (refine ry_step rfl rfl ?_)
  obtain ⟨u2, hv1, hf⟩ := Option.bind_eq_some_iff.mp hf
  refine ry_call rfl rfl rfl rfl rfl (tX0_dueOn hv1) ?_
  iterate 2 (refine ry_step rfl rfl ?_)
  obtain ⟨S4, hv3, hf⟩ := Option.bind_eq_some_iff.mp hf
  refine ry_call rfl rfl rfl rfl rfl (tX11_noteChances hv3) ?_
  iterate 6 (refine ry_step rfl rfl ?_)
  refine ry_sub [4, 5, 3, 2, 1, 0] rfl rfl ?_
  exact uX11_bestThinned (ro := ro) _ v0 u2 (Int32.ofInt 0) (Int64.ofInt (-1)) (Int32.ofInt 0) S4 hf _
def fX11_best (N : Nat) (T : yK) (v0 : Int32) (v1 : Int32) (S : yS) : Option (Int32 × yS) := (if ¬ (fX11_isCount v0) = 0 then (fX11_bestThinned N T v0 S).bind fun (u3, S2) => (if v1 = 0 then some (u3, S2) else some ((fJ6_bitCount_0f7a4 u3), S2)) else some ((Int32.ofInt (-1)), S))
set_option maxRecDepth 4000 in
theorem tX11_best {ro : xRo} {T : yK} {S : yS} {d N : Nat} {v0 : Int32} {v1 : Int32} {q : Int32} {S' : yS} (hf : fX11_best N T v0 v1 S = some (q, S')) : yEv ro xNo (yKx T) (d + 7) jX11_best [.ref 16, .int v0, .int v1] S (some (.int q)) S' := by
  refine ry_meth pX11_best rfl (fun z => ?_)
  unfold fX11_best at hf
  refine ry_step rfl rfl ?_
  refine ry_call rfl rfl rfl rfl rfl tX11_isCount ?_
  refine ry_step rfl rfl ?_
  refine ry_br hf (fun hc hf => ?_) (fun hc hf => ?_)
  · iterate 2 (refine ry_step rfl rfl ?_)
    obtain ⟨⟨u3, S2⟩, hv1, hf⟩ := Option.bind_eq_some_iff.mp hf
    dsimp only at hf
    refine ry_call rfl rfl rfl rfl rfl (tX11_bestThinned hv1) ?_
    iterate 3 (refine ry_step rfl rfl ?_)
    refine ry_br hf (fun hc hf => ?_) (fun hc hf => ?_)
    · refine ry_step rfl rfl ?_
      cases hf
      exact ry_ret rfl rfl
    · refine ry_step rfl rfl ?_
      refine ry_call rfl rfl rfl rfl rfl tJ6_bitCount_0f7a4 ?_
      refine ry_step rfl rfl ?_
      cases hf
      exact ry_ret rfl rfl
  · refine ry_step rfl rfl ?_
    cases hf
    exact ry_ret rfl rfl
def lX11_comes (N : Nat) (T : yK) : Nat → Int32 → Int32 → yS → Option (Int32 × yS)
  | 0, _, _, _ => none
  | n + 1, l1, l2, S => (if (Int32.ofInt 60) < l2 then some ((Int32.ofInt (-1)), S) else (fX0_dueOn N ((S.1 19 4) + l2) S).bind fun u4 => (fX11_canCome N u4 l1 S).bind fun u6 => (if u6 = 0 then lX11_comes N T n l1 (l2 + (Int32.ofInt 1)) S else some (l2, S)))
set_option maxRecDepth 4000 in
theorem uX11_comes {ro : xRo} {T : yK} {d N : Nat} : ∀ n : Nat, (∀ (l1 : Int32) (l2 : Int32) (S : yS) {q : Int32} {S' : yS}, lX11_comes N T n l1 l2 S = some (q, S') → ∀ z, Ry ro xNo (yKx T) z (d + 5) mX11_comes 15 [(0, .ref 16), (1, .int l1), (2, .int l2)] [] S (some (.int q), yH (yKx T) z S')) := by
  intro n
  induction n with
  | zero => exact (by intro _ _ _ _ _ hf; cases hf)
  | succ n ih =>
    intro l1 l2 S q S' hf z
    unfold lX11_comes at hf
    iterate 3 (refine ry_step rfl rfl ?_)
    refine ry_br hf (fun hc hf => ?_) (fun hc hf => ?_)
    · refine ry_step rfl rfl ?_
      cases hf
      exact ry_ret rfl rfl
    · iterate 9 (refine ry_step rfl rfl ?_)
      obtain ⟨u4, hv3, hf⟩ := Option.bind_eq_some_iff.mp hf
      refine ry_call rfl rfl rfl rfl rfl (tX0_dueOn hv3) ?_
      refine ry_step rfl rfl ?_
      obtain ⟨u6, hv5, hf⟩ := Option.bind_eq_some_iff.mp hf
      refine ry_call rfl rfl rfl rfl rfl (tX11_canCome hv5) ?_
      refine ry_step rfl rfl ?_
      refine ry_br hf (fun hc hf => ?_) (fun hc hf => ?_)
      · iterate 2 (refine ry_step rfl rfl ?_)
        refine ry_sub [1, 2, 0] rfl rfl ?_
        exact ih l1 (l2 + (Int32.ofInt 1)) S hf _
      · refine ry_step rfl rfl ?_
        cases hf
        exact ry_ret rfl rfl
def fX11_comes (N : Nat) (T : yK) (v0 : Int32) (S : yS) : Option (Int32 × yS) := (if ¬ (fX11_isCount v0) = 0 then (fX11_noteChances N T  S).bind fun S2 => lX11_comes N T N v0 (Int32.ofInt 0) S2 else some ((Int32.ofInt (-1)), S))
set_option maxRecDepth 4000 in
theorem tX11_comes {ro : xRo} {T : yK} {S : yS} {d N : Nat} {v0 : Int32} {q : Int32} {S' : yS} (hf : fX11_comes N T v0 S = some (q, S')) : yEv ro xNo (yKx T) (d + 6) jX11_comes [.ref 16, .int v0] S (some (.int q)) S' := by
  refine ry_meth pX11_comes rfl (fun z => ?_)
  unfold fX11_comes at hf
  refine ry_step rfl rfl ?_
  refine ry_call rfl rfl rfl rfl rfl tX11_isCount ?_
  refine ry_step rfl rfl ?_
  refine ry_br hf (fun hc hf => ?_) (fun hc hf => ?_)
  · refine ry_step rfl rfl ?_
    obtain ⟨S2, hv1, hf⟩ := Option.bind_eq_some_iff.mp hf
    refine ry_call rfl rfl rfl rfl rfl (tX11_noteChances hv1) ?_
    iterate 2 (refine ry_step rfl rfl ?_)
    refine ry_sub [1, 2, 0] rfl rfl ?_
    exact uX11_comes (ro := ro) _ v0 (Int32.ofInt 0) S2 hf _
  · refine ry_step rfl rfl ?_
    cases hf
    exact ry_ret rfl rfl
def lX8_copy_t137_22 (N : Nat) : Nat → Int32 → yS → Option yS
  | 0, _, _ => none
  | n + 1, l2, S => (if (S.1 137 2) ≤ l2 then some S else pSt (((S.1 137 1) + l2) - ((S.1 137 1) + l2) / (Int32.ofInt 30) * (Int32.ofInt 30)) fun w3 => (ain 30 w3).bind fun j4 => (S.2.2.2.2 138 j4).bind fun o5 => if yMo o5 = true then (ain 30 w3).bind fun j6 => (S.2.2.2.2 23 j6).bind fun o7 => if yMo o7 = true then pSt (mCopy S o5 o7) fun S8 => lX8_copy_t137_22 N n (l2 + (Int32.ofInt 1)) S8 else none else none)
set_option maxRecDepth 4000 in
theorem uX8_copy_t137_22 {ro : xRo} {T : yK} {d N : Nat} : ∀ n : Nat, (∀ (l2 : Int32) (S : yS) {S' : yS}, lX8_copy_t137_22 N n l2 S = some S' → ∀ z, Ry ro xNo (yKx T) z (d + 1) mX8_copy 18 [(0, .ref 137), (1, .ref 22), (2, .int l2)] [] S (none, yH (yKx T) z S')) := by
  intro n
  induction n with
  | zero => exact (by intro _ _ _ hf; cases hf)
  | succ n ih =>
    intro l2 S S' hf z
    unfold lX8_copy_t137_22 at hf
    iterate 4 (refine ry_step rfl rfl ?_)
    refine ry_br hf (fun hc hf => ?_) (fun hc hf => ?_)
    · cases hf
      exact ry_ret rfl rfl
    · iterate 6 (refine ry_step rfl rfl ?_)
      refine ry_nmi hf (fun w3 hf => ?_)
      iterate 4 (refine ry_step rfl rfl ?_)
      refine ry_aaM hf rfl rfl (fun o5 ho5 hf => ?_)
      iterate 3 (refine ry_step rfl rfl ?_)
      refine ry_aaM hf rfl rfl (fun o7 ho7 hf => ?_)
      refine ry_mcp hf rfl rfl ho5 ho7 rfl (fun S8 hf => ?_)
      iterate 2 (refine ry_step rfl rfl ?_)
      refine ry_sub [2, 3, 0] rfl rfl ?_
      exact ih (l2 + (Int32.ofInt 1)) S8 hf _
def fX8_copy_t137_22 (N : Nat) (S : yS) : Option yS := pSt (ySi S 137 1 (S.1 22 1)) fun S1 => pSt (ySi S1 137 2 (S1.1 22 2)) fun S2 => lX8_copy_t137_22 N N (Int32.ofInt 0) S2
set_option maxRecDepth 4000 in
theorem tX8_copy_t137_22 {ro : xRo} {T : yK} {S : yS} {d N : Nat} {S' : yS} (hf : fX8_copy_t137_22 N  S = some S') : yEv ro xNo (yKx T) (d + 2) jX8_copy [.ref 137, .ref 22] S (none) S' := by
  refine ry_meth pX8_copy rfl (fun z => ?_)
  unfold fX8_copy_t137_22 at hf
  iterate 3 (refine ry_step rfl rfl ?_)
  refine ry_stepS hf rfl rfl (fun S1 hf => ?_)
  iterate 3 (refine ry_step rfl rfl ?_)
  refine ry_stepS hf rfl rfl (fun S2 hf => ?_)
  iterate 2 (refine ry_step rfl rfl ?_)
  refine ry_sub [1, 2, 0] rfl rfl ?_
  exact uX8_copy_t137_22 (ro := ro) _ (Int32.ofInt 0) S2 hf _
def lX3_copy_t234_119 (N : Nat) : Nat → Int32 → yS → Option yS
  | 0, _, _ => none
  | n + 1, l2, S => (if (Int32.ofInt 12) ≤ l2 then pSt (ySi S 234 2 (S.1 119 2)) fun S1 => some S1 else (ain 12 l2).bind fun j2 => (ain 12 l2).bind fun j7 => pSt (ySa S 235 (upd (S.2.2.1 235) j7 (S.2.2.1 120 j2))) fun S3 => (ain 12 l2).bind fun j4 => (ain 12 l2).bind fun j6 => if (S3.2.2.1 121 j4) = 0 ∨ (S3.2.2.1 121 j4) = 1 then pSt (ySa S3 236 (upd (S3.2.2.1 236) j6 (S3.2.2.1 121 j4))) fun S5 => lX3_copy_t234_119 N n (l2 + (Int32.ofInt 1)) S5 else none)
set_option maxRecDepth 4000 in
theorem uX3_copy_t234_119 {ro : xRo} {T : yK} {d N : Nat} : ∀ n : Nat, (∀ (l2 : Int32) (S : yS) {S' : yS}, lX3_copy_t234_119 N n l2 S = some S' → ∀ z, Ry ro xNo (yKx T) z (d + 0) mX3_copy 2 [(0, .ref 234), (1, .ref 119), (2, .int l2)] [] S (none, yH (yKx T) z S')) := by
  intro n
  induction n with
  | zero => exact (by intro _ _ _ hf; cases hf)
  | succ n ih =>
    intro l2 S S' hf z
    unfold lX3_copy_t234_119 at hf
    iterate 3 (refine ry_step rfl rfl ?_)
    refine ry_br hf (fun hc hf => ?_) (fun hc hf => ?_)
    · iterate 3 (refine ry_step rfl rfl ?_)
      refine ry_stepS hf rfl rfl (fun S1 hf => ?_)
      cases hf
      exact ry_ret rfl rfl
    · iterate 6 (refine ry_step rfl rfl ?_)
      refine ry_iald hf rfl rfl rfl (fun j2 hf => ?_)
      refine ry_iast hf rfl rfl (fun j7 S3 hf => ?_)
      iterate 6 (refine ry_step rfl rfl ?_)
      refine ry_zald hf rfl rfl rfl (fun j4 hf => ?_)
      refine ry_zast (E := fun j6 S5 => lX3_copy_t234_119 N n (l2 + (Int32.ofInt 1)) S5) hf rfl rfl (fun j6 S5 hf => ?_)
      iterate 2 (refine ry_step rfl rfl ?_)
      refine ry_sub [1, 2, 0] rfl rfl ?_
      exact ih (l2 + (Int32.ofInt 1)) S5 hf _
def fX3_copy_t234_119 (N : Nat) (S : yS) : Option yS := lX3_copy_t234_119 N N (Int32.ofInt 0) S
set_option maxRecDepth 4000 in
theorem tX3_copy_t234_119 {ro : xRo} {T : yK} {S : yS} {d N : Nat} {S' : yS} (hf : fX3_copy_t234_119 N  S = some S') : yEv ro xNo (yKx T) (d + 1) jX3_copy [.ref 234, .ref 119] S (none) S' := by
  refine ry_meth pX3_copy rfl (fun z => ?_)
  unfold fX3_copy_t234_119 at hf
  iterate 2 (refine ry_step rfl rfl ?_)
  refine ry_sub [1, 2, 0] rfl rfl ?_
  exact uX3_copy_t234_119 (ro := ro) _ (Int32.ofInt 0) S hf _
def fX6_copy_t237_122 (S : yS) : Option yS := pSt (ySa S 238 (va_cpy (S.2.2.1 123) (S.2.2.1 238) 0 0 9)) fun S1 => some S1
set_option maxRecDepth 4000 in
theorem tX6_copy_t237_122 {ro : xRo} {T : yK} {S : yS} {d : Nat} {S' : yS} (hf : fX6_copy_t237_122  S = some S') : yEv ro xNo (yKx T) (d + 1) jX6_copy [.ref 237, .ref 122] S (none) S' := by
  refine ry_meth pX6_copy rfl (fun z => ?_)
  unfold fX6_copy_t237_122 at hf
  iterate 7 (refine ry_step rfl rfl ?_)
  refine ry_stepS hf rfl rfl (fun S1 hf => ?_)
  cases hf
  exact ry_ret rfl rfl
def fX4_copy_t239_124 (S : yS) : Option yS := pSt (ySa S 240 (va_cpy (S.2.2.1 125) (S.2.2.1 240) 0 0 5)) fun S1 => pSt (ySa S1 241 (va_cpy (S1.2.2.1 126) (S1.2.2.1 241) 0 0 5)) fun S2 => some S2
set_option maxRecDepth 4000 in
theorem tX4_copy_t239_124 {ro : xRo} {T : yK} {S : yS} {d : Nat} {S' : yS} (hf : fX4_copy_t239_124  S = some S') : yEv ro xNo (yKx T) (d + 1) jX4_copy [.ref 239, .ref 124] S (none) S' := by
  refine ry_meth pX4_copy rfl (fun z => ?_)
  unfold fX4_copy_t239_124 at hf
  iterate 7 (refine ry_step rfl rfl ?_)
  refine ry_stepS hf rfl rfl (fun S1 hf => ?_)
  iterate 7 (refine ry_step rfl rfl ?_)
  refine ry_stepS hf rfl rfl (fun S2 hf => ?_)
  cases hf
  exact ry_ret rfl rfl
def lX8_copy_137 (N : Nat) : Nat → Int32 → yS → Option yS
  | 0, _, _ => none
  | n + 1, l2, S => (if (S.1 22 2) ≤ l2 then some S else pSt (((S.1 22 1) + l2) - ((S.1 22 1) + l2) / (Int32.ofInt 30) * (Int32.ofInt 30)) fun w3 => (ain 30 w3).bind fun j4 => (S.2.2.2.2 23 j4).bind fun o5 => if yMo o5 = true then (ain 30 w3).bind fun j6 => (S.2.2.2.2 138 j6).bind fun o7 => if yMo o7 = true then pSt (mCopy S o5 o7) fun S8 => lX8_copy_137 N n (l2 + (Int32.ofInt 1)) S8 else none else none)
set_option maxRecDepth 4000 in
theorem uX8_copy_137 {ro : xRo} {T : yK} {d N : Nat} : ∀ n : Nat, (∀ (l2 : Int32) (S : yS) {S' : yS}, lX8_copy_137 N n l2 S = some S' → ∀ z, Ry ro xNo (yKx T) z (d + 1) mX8_copy 18 [(0, .ref 22), (1, .ref 137), (2, .int l2)] [] S (none, yH (yKx T) z S')) := by
  intro n
  induction n with
  | zero => exact (by intro _ _ _ hf; cases hf)
  | succ n ih =>
    intro l2 S S' hf z
    unfold lX8_copy_137 at hf
    iterate 4 (refine ry_step rfl rfl ?_)
    refine ry_br hf (fun hc hf => ?_) (fun hc hf => ?_)
    · cases hf
      exact ry_ret rfl rfl
    · iterate 6 (refine ry_step rfl rfl ?_)
      refine ry_nmi hf (fun w3 hf => ?_)
      iterate 4 (refine ry_step rfl rfl ?_)
      refine ry_aaM hf rfl rfl (fun o5 ho5 hf => ?_)
      iterate 3 (refine ry_step rfl rfl ?_)
      refine ry_aaM hf rfl rfl (fun o7 ho7 hf => ?_)
      refine ry_mcp hf rfl rfl ho5 ho7 rfl (fun S8 hf => ?_)
      iterate 2 (refine ry_step rfl rfl ?_)
      refine ry_sub [2, 3, 0] rfl rfl ?_
      exact ih (l2 + (Int32.ofInt 1)) S8 hf _
def fX8_copy_137 (N : Nat) (S : yS) : Option yS := pSt (ySi S 22 1 (S.1 137 1)) fun S1 => pSt (ySi S1 22 2 (S1.1 137 2)) fun S2 => lX8_copy_137 N N (Int32.ofInt 0) S2
set_option maxRecDepth 4000 in
theorem tX8_copy_137 {ro : xRo} {T : yK} {S : yS} {d N : Nat} {S' : yS} (hf : fX8_copy_137 N  S = some S') : yEv ro xNo (yKx T) (d + 2) jX8_copy [.ref 22, .ref 137] S (none) S' := by
  refine ry_meth pX8_copy rfl (fun z => ?_)
  unfold fX8_copy_137 at hf
  iterate 3 (refine ry_step rfl rfl ?_)
  refine ry_stepS hf rfl rfl (fun S1 hf => ?_)
  iterate 3 (refine ry_step rfl rfl ?_)
  refine ry_stepS hf rfl rfl (fun S2 hf => ?_)
  iterate 2 (refine ry_step rfl rfl ?_)
  refine ry_sub [1, 2, 0] rfl rfl ?_
  exact uX8_copy_137 (ro := ro) _ (Int32.ofInt 0) S2 hf _
def lX3_copy_234 (N : Nat) : Nat → Int32 → yS → Option yS
  | 0, _, _ => none
  | n + 1, l2, S => (if (Int32.ofInt 12) ≤ l2 then pSt (ySi S 119 2 (S.1 234 2)) fun S1 => some S1 else (ain 12 l2).bind fun j2 => (ain 12 l2).bind fun j7 => pSt (ySa S 120 (upd (S.2.2.1 120) j7 (S.2.2.1 235 j2))) fun S3 => (ain 12 l2).bind fun j4 => (ain 12 l2).bind fun j6 => if (S3.2.2.1 236 j4) = 0 ∨ (S3.2.2.1 236 j4) = 1 then pSt (ySa S3 121 (upd (S3.2.2.1 121) j6 (S3.2.2.1 236 j4))) fun S5 => lX3_copy_234 N n (l2 + (Int32.ofInt 1)) S5 else none)
set_option maxRecDepth 4000 in
theorem uX3_copy_234 {ro : xRo} {T : yK} {d N : Nat} : ∀ n : Nat, (∀ (l2 : Int32) (S : yS) {S' : yS}, lX3_copy_234 N n l2 S = some S' → ∀ z, Ry ro xNo (yKx T) z (d + 0) mX3_copy 2 [(0, .ref 119), (1, .ref 234), (2, .int l2)] [] S (none, yH (yKx T) z S')) := by
  intro n
  induction n with
  | zero => exact (by intro _ _ _ hf; cases hf)
  | succ n ih =>
    intro l2 S S' hf z
    unfold lX3_copy_234 at hf
    iterate 3 (refine ry_step rfl rfl ?_)
    refine ry_br hf (fun hc hf => ?_) (fun hc hf => ?_)
    · iterate 3 (refine ry_step rfl rfl ?_)
      refine ry_stepS hf rfl rfl (fun S1 hf => ?_)
      cases hf
      exact ry_ret rfl rfl
    · iterate 6 (refine ry_step rfl rfl ?_)
      refine ry_iald hf rfl rfl rfl (fun j2 hf => ?_)
      refine ry_iast hf rfl rfl (fun j7 S3 hf => ?_)
      iterate 6 (refine ry_step rfl rfl ?_)
      refine ry_zald hf rfl rfl rfl (fun j4 hf => ?_)
      refine ry_zast (E := fun j6 S5 => lX3_copy_234 N n (l2 + (Int32.ofInt 1)) S5) hf rfl rfl (fun j6 S5 hf => ?_)
      iterate 2 (refine ry_step rfl rfl ?_)
      refine ry_sub [1, 2, 0] rfl rfl ?_
      exact ih (l2 + (Int32.ofInt 1)) S5 hf _
def fX3_copy_234 (N : Nat) (S : yS) : Option yS := lX3_copy_234 N N (Int32.ofInt 0) S
set_option maxRecDepth 4000 in
theorem tX3_copy_234 {ro : xRo} {T : yK} {S : yS} {d N : Nat} {S' : yS} (hf : fX3_copy_234 N  S = some S') : yEv ro xNo (yKx T) (d + 1) jX3_copy [.ref 119, .ref 234] S (none) S' := by
  refine ry_meth pX3_copy rfl (fun z => ?_)
  unfold fX3_copy_234 at hf
  iterate 2 (refine ry_step rfl rfl ?_)
  refine ry_sub [1, 2, 0] rfl rfl ?_
  exact uX3_copy_234 (ro := ro) _ (Int32.ofInt 0) S hf _
def fX6_copy_237 (S : yS) : Option yS := pSt (ySa S 123 (va_cpy (S.2.2.1 238) (S.2.2.1 123) 0 0 9)) fun S1 => some S1
set_option maxRecDepth 4000 in
theorem tX6_copy_237 {ro : xRo} {T : yK} {S : yS} {d : Nat} {S' : yS} (hf : fX6_copy_237  S = some S') : yEv ro xNo (yKx T) (d + 1) jX6_copy [.ref 122, .ref 237] S (none) S' := by
  refine ry_meth pX6_copy rfl (fun z => ?_)
  unfold fX6_copy_237 at hf
  iterate 7 (refine ry_step rfl rfl ?_)
  refine ry_stepS hf rfl rfl (fun S1 hf => ?_)
  cases hf
  exact ry_ret rfl rfl
def fX4_copy_239 (S : yS) : Option yS := pSt (ySa S 125 (va_cpy (S.2.2.1 240) (S.2.2.1 125) 0 0 5)) fun S1 => pSt (ySa S1 126 (va_cpy (S1.2.2.1 241) (S1.2.2.1 126) 0 0 5)) fun S2 => some S2
set_option maxRecDepth 4000 in
theorem tX4_copy_239 {ro : xRo} {T : yK} {S : yS} {d : Nat} {S' : yS} (hf : fX4_copy_239  S = some S') : yEv ro xNo (yKx T) (d + 1) jX4_copy [.ref 124, .ref 239] S (none) S' := by
  refine ry_meth pX4_copy rfl (fun z => ?_)
  unfold fX4_copy_239 at hf
  iterate 7 (refine ry_step rfl rfl ?_)
  refine ry_stepS hf rfl rfl (fun S1 hf => ?_)
  iterate 7 (refine ry_step rfl rfl ?_)
  refine ry_stepS hf rfl rfl (fun S2 hf => ?_)
  cases hf
  exact ry_ret rfl rfl
def fX11_playClause (N : Nat) (T : yK) (v0 : Int32) (v1 : Int32) (v2 : Int32) (S : yS) : Option (Int32 × yS) := (if v0 = (Int32.ofInt 0) then pSt (if ((Int32.ofInt 9999) - (S.1 19 4)) < v1 then ((Int32.ofInt 9999) - (S.1 19 4)) else v1) fun w16 => (fX11_passSteps N T w16 S).bind fun (u19, S18) => (if ¬ w16 = v1 then some ((Int32.ofInt 0), S18) else some ((Int32.ofInt 1), S18)) else (if v0 = (Int32.ofInt 9) then (fX11_rhyme v1 v2 S).bind fun (u15, S14) => (if u15 = 0 ∨ u15 = 1 then some (u15, S14) else none) else (if v0 = (Int32.ofInt 20) then (fX11_bird v1 (Int32.ofInt 0) v2 S).bind fun (u12, S11) => (if u12 = (Int32.ofInt (-1)) then some ((Int32.ofInt 0), S11) else some ((Int32.ofInt 1), S11)) else (if v0 = (Int32.ofInt 21) then (fX11_thin v1 S).bind fun (u9, S8) => (if u9 = 0 ∨ u9 = 1 then some (u9, S8) else none) else (if v0 = (Int32.ofInt 22) then (fX11_call v1 S).bind fun (u6, S5) => (if u6 = 0 ∨ u6 = 1 then some (u6, S5) else none) else (if v0 = (Int32.ofInt 23) then (fX11_grant v1 S).bind fun (u3, S2) => (if u3 = 0 ∨ u3 = 1 then some (u3, S2) else none) else some ((Int32.ofInt 1), S)))))))
set_option maxRecDepth 4000 in
theorem tX11_playClause {ro : xRo} {T : yK} {S : yS} {d N : Nat} {v0 : Int32} {v1 : Int32} {v2 : Int32} {q : Int32} {S' : yS} (hf : fX11_playClause N T v0 v1 v2 S = some (q, S')) : yEv ro xNo (yKx T) (d + 7) jX11_playClause [.ref 16, .int v0, .int v1, .int v2] S (some (.int q)) S' := by
  refine ry_meth pX11_playClause rfl (fun z => ?_)
  unfold fX11_playClause at hf
  refine ry_step rfl rfl ?_
  refine ry_sw hf (fun hf => ?_) (fun n0 hf => ?_)
  · iterate 9 (refine ry_step rfl rfl ?_)
    refine ry_nmi hf (fun w16 hf => ?_)
    iterate 3 (refine ry_step rfl rfl ?_)
    obtain ⟨⟨u19, S18⟩, hv17, hf⟩ := Option.bind_eq_some_iff.mp hf
    dsimp only at hf
    refine ry_call rfl rfl rfl rfl rfl (tX11_passSteps hv17) ?_
    iterate 4 (refine ry_step rfl rfl ?_)
    refine ry_br hf (fun hc hf => ?_) (fun hc hf => ?_)
    · refine ry_step rfl rfl ?_
      cases hf
      exact ry_ret rfl rfl
    · iterate 2 (refine ry_step rfl rfl ?_)
      cases hf
      exact ry_ret rfl rfl
  · refine ry_sw hf (fun hf => ?_) (fun n9 hf => ?_)
    · iterate 4 (refine ry_step rfl rfl ?_)
      obtain ⟨⟨u15, S14⟩, hv13, hf⟩ := Option.bind_eq_some_iff.mp hf
      dsimp only at hf
      refine ry_call rfl rfl rfl rfl rfl (tX11_rhyme hv13) ?_
      exact ry_retz (S' := S) hf rfl rfl rfl (fun h => by cases h; rfl)
    · refine ry_sw hf (fun hf => ?_) (fun n20 hf => ?_)
      · iterate 5 (refine ry_step rfl rfl ?_)
        obtain ⟨⟨u12, S11⟩, hv10, hf⟩ := Option.bind_eq_some_iff.mp hf
        dsimp only at hf
        refine ry_call rfl rfl rfl rfl rfl (tX11_bird hv10) ?_
        iterate 2 (refine ry_step rfl rfl ?_)
        refine ry_br hf (fun hc hf => ?_) (fun hc hf => ?_)
        · refine ry_step rfl rfl ?_
          cases hf
          exact ry_ret rfl rfl
        · iterate 2 (refine ry_step rfl rfl ?_)
          cases hf
          exact ry_ret rfl rfl
      · refine ry_sw hf (fun hf => ?_) (fun n21 hf => ?_)
        · iterate 3 (refine ry_step rfl rfl ?_)
          obtain ⟨⟨u9, S8⟩, hv7, hf⟩ := Option.bind_eq_some_iff.mp hf
          dsimp only at hf
          refine ry_call rfl rfl rfl rfl rfl (tX11_thin hv7) ?_
          exact ry_retz (S' := S) hf rfl rfl rfl (fun h => by cases h; rfl)
        · refine ry_sw hf (fun hf => ?_) (fun n22 hf => ?_)
          · iterate 3 (refine ry_step rfl rfl ?_)
            obtain ⟨⟨u6, S5⟩, hv4, hf⟩ := Option.bind_eq_some_iff.mp hf
            dsimp only at hf
            refine ry_call rfl rfl rfl rfl rfl (tX11_call hv4) ?_
            exact ry_retz (S' := S) hf rfl rfl rfl (fun h => by cases h; rfl)
          · refine ry_sw hf (fun hf => ?_) (fun n23 hf => ?_)
            · iterate 3 (refine ry_step rfl rfl ?_)
              obtain ⟨⟨u3, S2⟩, hv1, hf⟩ := Option.bind_eq_some_iff.mp hf
              dsimp only at hf
              refine ry_call rfl rfl rfl rfl rfl (tX11_grant hv1) ?_
              exact ry_retz (S' := S) hf rfl rfl rfl (fun h => by cases h; rfl)
            · have m0 := xne_toInt (k := 0) rfl n0
              have m9 := xne_toInt (k := 9) rfl n9
              have m20 := xne_toInt (k := 20) rfl n20
              have m21 := xne_toInt (k := 21) rfl n21
              have m22 := xne_toInt (k := 22) rfl n22
              have m23 := xne_toInt (k := 23) rfl n23
              refine ry_lk rfl (by simp [Op.lookupswitch.offset, Ne.symm m0, Ne.symm m9, Ne.symm m20, Ne.symm m21, Ne.symm m22, Ne.symm m23]) ?_
              refine ry_step rfl rfl ?_
              cases hf
              exact ry_ret rfl rfl
