/-! ===== a law's clause; a clause; all clauses ===== -/
def mkL (l0 l1 : lD) : Int := (if l0.isSome = true then 1 else 0) + (if l1.isSome = true then 2 else 0)
section CLA
variable {f : Nat → Int} {n t N M : Nat} {S S' : yS} {k k' z z' m m' r : Nat} {q : qT} {la lb : lD} {c : Nat → Int × Int} {mq : Int}
theorem cB_i {e p : Int} (h : cB S M e p) {j : Nat} {v : Int32} (hj : 8 ≤ j) : cB (ySi S 250 j v) M e p := by
  obtain ⟨a, b, d, zz, z1, z2⟩ := h
  exact ⟨by rw [fld_ne (by omega)]; exact a, by rw [fld_ne (by omega)]; exact b, by rw [fld_ne (by omega)]; exact d, zz, z1, by rw [fld_ne (by omega)]; exact z2⟩
theorem rl_eq {s : Nat} (hs : s ≤ 1) {S9 : yS} (h1 : rd N 200 0 0 (Int32.ofInt 0) (ySi S 250 2 (Int32.ofInt (1 - (s : Int)))) = some S9) (h2 : S9.1 250 2 = Int32.ofInt (1 - (s : Int))) : fX5_readLaw N (Int32.ofInt (18 + (s : Int))) S = some (ySi (ySi S9 250 (8 + 2 * s) (S.1 250 7)) 250 (9 + 2 * s) (S9.1 250 7)) := by
  have e7 : ∀ (X : yS) (j : Nat) (v : Int32), j ≠ 7 → (ySi X 250 j v).1 250 7 = X.1 250 7 := fun X j v hj => fld_ne (fun e => hj e.symm)
  have : s = 0 ∨ s = 1 := by omega
  rcases this with rfl | rfl
  · unfold fX5_readLaw
    refine h_neg (by decide) (h_pst (h_bind h1 ?_))
    rw [h2, e7 _ _ _ (by omega)]
    refine h_neg (by decide) (h_pst (h_pst ?_))
    rw [e7 _ _ _ (by omega)]
  · unfold fX5_readLaw
    refine h_pos (by decide) (h_pst (h_bind h1 ?_))
    rw [h2, e7 _ _ _ (by omega)]
    refine h_pos (by decide) (h_pst (h_pst ?_))
    rw [e7 _ _ _ (by omega)]
theorem lw_step (hN : 2000000 ≤ N) (ht4 : t < 4) {s : Nat} (hs : s ≤ 1) (hn : n ≤ 300) (hM : M ≤ n) (hMe : psT f n M = n) (hg : tkG (kdT f n) (vlT f n) M) (hm : m < 24) (hk : k ≤ M) (hz : z ≤ k) (hr : r ≤ k) (hl0 : s = 0 → la = none) (hl1 : s = 1 → lb = none) (hC : jC f n M S k z m m q la lb) (hv : S.2.2.1 258 m = Int32.ofInt (vbC (s : Int))) : bRs f n t N M (fX5_readLaw N (Int32.ofInt (18 + (s : Int)))) (s : Int) S k z m q la lb r c mq := by
  have hM3 := hg.1
  obtain ⟨a1, a2, a3, a4, a5, a6⟩ := id hC
  have F0 : Fx S (ySi S 250 2 (Int32.ofInt (1 - (s : Int)))) := Fx_i
  have c0 : cS (ySi S 250 2 (Int32.ofInt (1 - (s : Int)))) k z := ⟨by rw [fld_ne (by omega)]; exact a2.1, ⟨by rw [fld_ne (by omega)]; exact a2.2.1.1, by rw [fld_ne (by omega)]; exact a2.2.1.2⟩, by rw [fld_ne (by omega)]; exact a2.2.2⟩
  obtain ⟨S9, d1, d2, d3⟩ := law_step (c := c) hN ht4 hs hn hM hMe hg (tkC_c a1 F0) c0 (show gC s _ from fld_at) hk hz hr
  have e2 : S9.1 250 2 = Int32.ofInt (1 - (s : Int)) := by rw [d2.2.1 2 (by omega) (by omega) (by omega) (by omega)]; exact fld_at
  have cl := rl_eq hs d1 e2
  have eb : fX12_body N (Int32.ofInt (s : Int)) = fun x S => (fX12_lawClause N x S).bind fun (u3, S2) => some (u3, S2) := by
    funext x S
    unfold fX12_body
    have : s = 0 ∨ s = 1 := by omega
    rcases this with rfl | rfl
    · exact h_neg (by decide) (h_neg (by decide) (h_neg (by decide) (h_neg (by decide) (h_neg (by decide) (h_neg (by decide) rfl)))))
    · exact h_neg (by decide) (h_neg (by decide) (h_neg (by decide) (h_neg (by decide) (h_neg (by decide) (h_neg (by decide) rfl)))))
  have ex : Int32.ofInt ((681 * t + 1 + 3 * m : Nat) : Int) + Int32.ofInt 1 = Int32.ofInt ((681 * t + 1 + 3 * m + 1 : Nat) : Int) := by
    rw [i_add, show ((681 * t + 1 + 3 * m : Nat) : Int) + 1 = ((681 * t + 1 + 3 * m + 1 : Nat) : Int) by omega]
  have ex2 : Int32.ofInt ((681 * t + 1 + 3 * m : Nat) : Int) + Int32.ofInt 2 = Int32.ofInt ((681 * t + 1 + 3 * m + 2 : Nat) : Int) := by
    rw [i_add, show ((681 * t + 1 + 3 * m : Nat) : Int) + 2 = ((681 * t + 1 + 3 * m + 2 : Nat) : Int) by omega]
  have start : ∀ Sr, jR f n t Sr k m m q r c mq → Sr.1 265 14 = Int32.ofInt (s : Int) → rS (ySi (ySi (ySi (ySa Sr 268 (upd (Sr.2.2.1 268) (681 * t + 1 + 3 * m + 1) (Int32.ofInt (r : Int)))) 265 16 (Int32.ofInt 0)) 265 17 (Int32.ofInt 0)) 265 18 (Int32.ofInt 0)) f n t s (k, false, [], 0, c, r) := fun Sr jr h14 => by
    have jr2 := jR_a jr (x := 681 * t + 1 + 3 * m + 1) (v := Int32.ofInt (r : Int)) hm (by omega)
    obtain ⟨b1, b2, b3, b4, b5, b6, b7, b8⟩ := jr2
    have ne : ∀ (X : yS) (j : Nat), j ≠ 16 → j ≠ 17 → j ≠ 18 → (ySi (ySi (ySi X 265 16 (Int32.ofInt 0)) 265 17 (Int32.ofInt 0)) 265 18 (Int32.ofInt 0)).1 265 j = X.1 265 j := fun X j e1 e2 e3 => by rw [fld_ne e3, fld_ne e2, fld_ne e1]
    refine ⟨⟨b1.1, by rw [ne _ 4 (by omega) (by omega) (by omega)]; exact b1.2.1, b1.2.2.1, b1.2.2.2⟩, atT_s b2 (ne _ 7 (by omega) (by omega) (by omega)) (ne _ 8 (by omega) (by omega) (by omega)) (ne _ 9 (by omega) (by omega) (by omega)) (ne _ 10 (by omega) (by omega) (by omega)) rfl, ⟨by rw [ne _ 12 (by omega) (by omega) (by omega)]; exact b3, by rw [fld_ne (by omega), fld_ne (by omega), fld_at]; rfl, trivial, by rw [fld_ne (by omega), fld_at], by rw [ne _ 13 (by omega) (by omega) (by omega)]; exact b4, b8⟩, fld_at, by rw [ne _ 14 (by omega) (by omega) (by omega)]; exact h14⟩
  have Fst : ∀ Sr, Fw t Sr (ySi (ySi (ySi (ySa Sr 268 (upd (Sr.2.2.1 268) (681 * t + 1 + 3 * m + 1) (Int32.ofInt (r : Int)))) 265 16 (Int32.ofInt 0)) 265 17 (Int32.ofInt 0)) 265 18 (Int32.ofInt 0)) := fun Sr => Fw_trans (Fw_a (by omega)) (Fw_trans (Fw_i (by omega)) (Fw_trans (Fw_i (by omega)) (Fw_i (by omega))))
  rcases d3 with ⟨e, kf, e1, e3, e4, e5⟩ | ⟨k', z', r', c', w, e1, e3, e4, e5, e6, e7, e8, e9, e10, e11, e12⟩
  · refine ⟨_, cl, Fx_trans F0 (Fx_trans (Fx_r d2) (Fx_trans Fx_i Fx_i)), Or.inl ⟨e, kf, e1, e3, cB_i (cB_i e4 (by omega)) (by omega), ?_, fun Sr jr h0 h14 => ?_⟩⟩
    · rw [fld_ne (by omega), fld_ne (by omega), d2.2.1 15 (by omega) (by omega) (by omega) (by omega), fld_ne (by omega)]; exact a3
    · obtain ⟨Sr', u1, u2, u3⟩ := e5 _ (start Sr jr h14)
      refine ⟨ySa Sr' 268 (upd (Sr'.2.2.1 268) (681 * t + 1 + 3 * m + 2) (Sr'.1 265 13)), ?_, atT_s u2 rfl rfl rfl rfl rfl, Fw_trans (Fst Sr) (Fw_trans (Fw_u u3) (Fw_a (by omega)))⟩
      rw [eb]
      refine h_bind (v := (Int32.ofInt e, ySa Sr' 268 (upd (Sr'.2.2.1 268) (681 * t + 1 + 3 * m + 2) (Sr'.1 265 13)))) ?_ rfl
      unfold fX12_lawClause fX12_summed
      rw [ex, ex2, jr.2.2.2.1]
      refine h_ainN (by omega) (by omega) (h_pst (h_bind u1 ?_))
      dsimp only
      exact h_ainN (by omega) (by omega) rfl
  · have z7 : S9.1 250 7 = Int32.ofInt (z' : Int) := e4.2.2
    have zz := e7.1
    have nf : ∀ j, j ≠ 8 + 2 * s → j ≠ 9 + 2 * s → (ySi (ySi S9 250 (8 + 2 * s) (S.1 250 7)) 250 (9 + 2 * s) (S9.1 250 7)).1 250 j = S9.1 250 j := fun j q1 q2 => by rw [fld_ne q2, fld_ne q1]
    have o9 : ∀ j, j ≠ 1 → j ≠ 2 → j ≠ 3 → j ≠ 4 → j ≠ 7 → S9.1 250 j = S.1 250 j := fun j q1 q2 q3 q4 q5 => by rw [d2.2.1 j q1 q3 q4 q5, fld_ne q2]
    have cd9 : ∀ j, j < z → cdX S9 j = cdX S j := fun j hj => by rw [e6 j hj]; rfl
    have lnew : lwX (ySi (ySi S9 250 (8 + 2 * s) (S.1 250 7)) 250 (9 + 2 * s) (S9.1 250 7)) s (some (m, w)) z' := ⟨z, z', by rw [fld_ne (by omega), fld_at]; exact a2.2.2, by rw [fld_at]; exact z7, Nat.le_refl _, e7⟩
    have lold : ∀ (s2 : Nat) (l : lD), s2 ≤ 1 → s2 ≠ s → lwX S s2 l z → lwX (ySi (ySi S9 250 (8 + 2 * s) (S.1 250 7)) 250 (9 + 2 * s) (S9.1 250 7)) s2 l z' := fun s2 l q1 q2 hl => lwX_m hl (by rw [nf _ (by omega) (by omega), o9 _ (by omega) (by omega) (by omega) (by omega) (by omega)]) (by rw [nf _ (by omega) (by omega), o9 _ (by omega) (by omega) (by omega) (by omega) (by omega)]) cd9 (by omega)
    have base : ∀ (l0' l1' : lD), lwX (ySi (ySi S9 250 (8 + 2 * s) (S.1 250 7)) 250 (9 + 2 * s) (S9.1 250 7)) 0 l0' z' → lwX (ySi (ySi S9 250 (8 + 2 * s) (S.1 250 7)) 250 (9 + 2 * s) (S9.1 250 7)) 1 l1' z' → jC f n M (ySi (ySi S9 250 (8 + 2 * s) (S.1 250 7)) 250 (9 + 2 * s) (S9.1 250 7)) k' z' m (m + 1) (qU q m ((s : Int), (r : Int), (r' : Int))) l0' l1' := fun l0' l1' q1 q2 => by
      refine jC_add (m' := m) ⟨tkC_c a1 (Fx_trans F0 (Fx_trans (Fx_r d2) (Fx_trans Fx_i Fx_i))), ⟨by rw [nf _ (by omega) (by omega)]; exact e4.1, ⟨by rw [nf _ (by omega) (by omega)]; exact e4.2.1.1, by rw [nf _ (by omega) (by omega)]; exact e4.2.1.2⟩, by rw [nf _ (by omega) (by omega)]; exact e4.2.2⟩, by rw [nf _ (by omega) (by omega), o9 _ (by omega) (by omega) (by omega) (by omega) (by omega)]; exact a3, fun j hj => ?_, q1, q2⟩ ?_ (fun q => by dsimp only at q; omega) (fun q => by dsimp only at q; omega)
      · rw [ySi_2, ySi_2, d2.2.2.1 258 (by omega) (by omega), d2.2.2.1 259 (by omega) (by omega), d2.2.2.1 260 (by omega) (by omega)]; exact a4 j hj
      · rw [ySi_2, ySi_2, d2.2.2.1 258 (by omega) (by omega)]; exact hv
    have ref : ∀ Sr, jR f n t Sr k m m q r c mq → Sr.2.2.1 268 (681 * t + 1 + 3 * m) = Int32.ofInt (s : Int) → Sr.1 265 14 = Int32.ofInt (s : Int) → ∃ Sr', fX12_body N (Int32.ofInt (s : Int)) (Int32.ofInt ((681 * t + 1 + 3 * m : Nat) : Int)) Sr = some (Int32.ofInt 0, Sr') ∧ jR f n t Sr' k' m (m + 1) (qU q m ((s : Int), (r : Int), (r' : Int))) r' c' mq ∧ Fw t Sr Sr' := fun Sr jr h0 h14 => by
      obtain ⟨Sr', u1, u2, u3, u4, u5⟩ := e12 _ (start Sr jr h14)
      have jr2 := jR_a jr (x := 681 * t + 1 + 3 * m + 1) (v := Int32.ofInt (r : Int)) hm (by omega)
      obtain ⟨b1, b2, b3, b4, b5, b6, b7, b8⟩ := jr2
      have k268 : ∀ x, x < 681 * t + 73 → Sr'.2.2.1 268 x = upd (Sr.2.2.1 268) (681 * t + 1 + 3 * m + 1) (Int32.ofInt (r : Int)) x := fun x hx => by rw [u3.2.2.2.1 x (by omega), ySi_2, ySi_2, ySi_2, ySa_at]
      have fo : ∀ j, ¬ (7 ≤ j ∧ j ≤ 10) → j ≠ 13 → ¬ (16 ≤ j ∧ j ≤ 18) → Sr'.1 265 j = Sr.1 265 j := fun j q1 q2 q3 => by rw [u3.2.1 j q1 q2 q3, fld_ne (by omega), fld_ne (by omega), fld_ne (by omega)]; rfl
      have jr3 : jR f n t Sr' k' m m q r' c' mq := by
        refine ⟨⟨b1.1, by rw [fo 4 (by omega) (by omega) (by omega)]; exact jr.1.2.1, fun j hj => by rw [u3.2.2.1 269 (by omega) (by omega)]; exact b1.2.2.1 j hj, b1.2.2.2⟩, u2, by rw [fo 12 (by omega) (by omega) (by omega)]; exact jr.2.2.1, u4, by rw [fo 19 (by omega) (by omega) (by omega)]; exact jr.2.2.2.2.1, ?_, fun j hj => ?_, u5⟩
        · rw [k268 _ (by omega), upd_ne (by omega)]; exact jr.2.2.2.2.2.1
        · rw [k268 _ (by omega), k268 _ (by omega), k268 _ (by omega), upd_ne (by omega), upd_ne (by omega), upd_ne (by omega)]; exact jr.2.2.2.2.2.2.1 j hj
      have jr4 := jR_a jr3 (x := 681 * t + 1 + 3 * m + 2) (v := Int32.ofInt (r' : Int)) hm (by omega)
      refine ⟨ySa Sr' 268 (upd (Sr'.2.2.1 268) (681 * t + 1 + 3 * m + 2) (Int32.ofInt (r' : Int))), ?_, jR_add jr4 (x := ((s : Int), (r : Int), (r' : Int))) ?_ ?_ (fun _ => ?_), Fw_trans (Fst Sr) (Fw_trans (Fw_u u3) (Fw_a (by omega)))⟩
      · rw [eb]
        refine h_bind (v := (Int32.ofInt 0, ySa Sr' 268 (upd (Sr'.2.2.1 268) (681 * t + 1 + 3 * m + 2) (Int32.ofInt (r' : Int))))) ?_ rfl
        unfold fX12_lawClause fX12_summed
        rw [ex, ex2, jr.2.2.2.1]
        refine h_ainN (by omega) (by omega) (h_pst (h_bind u1 ?_))
        dsimp only
        rw [u4]
        exact h_ainN (by omega) (by omega) rfl
      · rw [ySa_at, upd_ne (by omega), k268 _ (by omega), upd_ne (by omega)]; exact h0
      · rw [ySa_at, upd_ne (by omega), k268 _ (by omega), upd_at]
      · rw [ySa_at, upd_at]
    have s01 : s = 0 ∨ s = 1 := by omega
    rcases s01 with s0 | s1
    · have hn0 := hl0 s0
      refine ⟨_, cl, Fx_trans F0 (Fx_trans (Fx_r d2) (Fx_trans Fx_i Fx_i)), Or.inr ⟨k', z', ((s : Int), (r : Int), (r' : Int)), some (m, w), lb, r', c', e1, e3, e5, e8, e9, rfl, ⟨by dsimp only; omega, fun q => by dsimp only at q; omega, fun q => by dsimp only at q; omega⟩, fun mm ⟨p0, p1⟩ e => ?_, ⟨?_, ?_⟩, base _ _ ?_ ?_, ref⟩⟩
      · rw [e]
        rw [hn0] at p0
        refine ⟨?_, lwP_add p1 (by dsimp only; omega) e10 e8⟩
        have := lwP_new (s := 0) (i' := r) (j' := r') (r' := r') (w := w) p0 (by rw [s0] at e11; exact e11) (Nat.le_refl _)
        rw [s0]
        exact this
      · rw [decide_eq_true (show (s : Int) = 0 by omega), Bool.or_true]; rfl
      · rw [decide_eq_false (show ¬ (s : Int) = 1 by omega), Bool.or_false]
      · rw [s0] at lnew ⊢; exact lnew
      · exact lold 1 lb (by omega) (by omega) a6
    · have hn1 := hl1 s1
      refine ⟨_, cl, Fx_trans F0 (Fx_trans (Fx_r d2) (Fx_trans Fx_i Fx_i)), Or.inr ⟨k', z', ((s : Int), (r : Int), (r' : Int)), la, some (m, w), r', c', e1, e3, e5, e8, e9, rfl, ⟨by dsimp only; omega, fun q => by dsimp only at q; omega, fun q => by dsimp only at q; omega⟩, fun mm ⟨p0, p1⟩ e => ?_, ⟨?_, ?_⟩, base _ _ ?_ ?_, ref⟩⟩
      · rw [e]
        rw [hn1] at p1
        refine ⟨lwP_add p0 (by dsimp only; omega) e10 e8, ?_⟩
        have := lwP_new (s := 1) (i' := r) (j' := r') (r' := r') (w := w) p1 (by rw [s1] at e11; exact e11) (Nat.le_refl _)
        rw [s1]
        exact this
      · rw [decide_eq_false (show ¬ (s : Int) = 0 by omega), Bool.or_false]
      · rw [decide_eq_true (show (s : Int) = 1 by omega), Bool.or_true]; rfl
      · exact lold 0 la (by omega) (by omega) a5
      · rw [s1] at lnew ⊢; exact lnew
/-! the clause as a head and a body -/
def ccT (cb : yS → Option yS) (S : yS) : Option yS := (cb S).bind fun S8 => (fX5_expect (Int32.ofInt 35) S8).bind fun S10 => pSt (ySi S10 250 15 ((S10.1 250 15) + (Int32.ofInt 1))) fun S11 => some S11
def ccB (N : Nat) (u2 : Int32) (S6 : yS) : Option yS := (if u2 = (Int32.ofInt 18) then ccT (fX5_readLaw N u2) S6 else (if ¬ u2 = (Int32.ofInt 19) then ccT (fX5_readNumbers u2) S6 else ccT (fX5_readLaw N u2) S6))
def ccH (N : Nat) (u2 : Int32) (S : yS) : Option yS := (if (S.1 250 15) < (Int32.ofInt 24) then pSt (ySi S 250 1 ((S.1 250 1) + (Int32.ofInt 1))) fun S3 => (ain 24 (S3.1 250 15)).bind fun j24 => pSt (ySa S3 258 (upd (S3.2.2.1 258) j24 u2)) fun S4 => (ain 24 (S4.1 250 15)).bind fun j23 => pSt (ySa S4 259 (upd (S4.2.2.1 259) j23 (Int32.ofInt 0))) fun S5 => (ain 24 (S5.1 250 15)).bind fun j22 => pSt (ySa S5 260 (upd (S5.2.2.1 260) j22 (Int32.ofInt 0))) fun S6 => ccB N u2 S6 else (fX5_fail (Int32.ofInt 6) S).bind fun S26 => some S26)
theorem cc_eq : fX5_readClause N S = (fX5_kind S).bind fun u2 => (if ¬ (fX5_isVerb u2) = 0 then (if ¬ u2 = (Int32.ofInt 18) then (if ¬ u2 = (Int32.ofInt 19) then ccH N u2 S else (if (S.1 250 10) = (Int32.ofInt (-1)) then ccH N u2 S else (fX5_fail (Int32.ofInt 4) S).bind fun S52 => some S52)) else (if ¬ (S.1 250 8) = (Int32.ofInt (-1)) then (fX5_fail (Int32.ofInt 4) S).bind fun S54 => some S54 else (if ¬ u2 = (Int32.ofInt 19) then ccH N u2 S else (if (S.1 250 10) = (Int32.ofInt (-1)) then ccH N u2 S else (fX5_fail (Int32.ofInt 4) S).bind fun S104 => some S104)))) else (fX5_fail (Int32.ofInt 1) S).bind fun S106 => some S106) := rfl
def rcB (N : Nat) (u2 w7 : Int32) (S8 : yS) : Option (Int32 × yS) := (fX12_body N u2 w7 S8).bind fun (u11, S10) => (if u11 = 0 then (ain 2724 (S10.1 265 12)).bind fun j12 => (ain 2724 (S10.1 265 12)).bind fun j16 => pSt (ySa S10 268 (upd (S10.2.2.1 268) j16 ((S10.2.2.1 268 j12) + (Int32.ofInt 1)))) fun S13 => (if (S13.1 265 9) = (Int32.ofInt 59) then (fX12_nextToken N S13).bind fun S15 => some ((Int32.ofInt 0), S15) else some ((Int32.ofInt 1), S13)) else some (u11, S10))
def rcT (N : Nat) (u2 ct : Int32) (S4 : yS) : Option (Int32 × yS) := (fX12_nextToken N S4).bind fun S6 => pSt (((S6.1 265 12) + (Int32.ofInt 1)) + ((Int32.ofInt 3) * ct)) fun w7 => (ain 2724 w7).bind fun j17 => pSt (ySa S6 268 (upd (S6.2.2.1 268) j17 u2)) fun S8 => rcB N u2 w7 S8
def rcH (N : Nat) (u2 : Int32) (S : yS) : Option (Int32 × yS) := (ain 2724 (S.1 265 12)).bind fun j3 => (if ¬ (S.2.2.1 268 j3) = (Int32.ofInt 24) then (if (Int32.ofInt 1) < u2 then pSt (ySi S 265 14 u2) fun S4 => rcT N u2 (S.2.2.1 268 j3) S4 else pSt (ySi S 265 19 ((S.1 265 19) ||| ((Int32.ofInt 1) <<< (u2 &&& 31)))) fun S18 => pSt (ySi S18 265 14 u2) fun S19 => rcT N u2 (S.2.2.1 268 j3) S19) else some ((Int32.ofInt 6), S))
theorem rc_eq : fX12_clause N S = (fX12_sortOf S).bind fun u2 => (if 0 ≤ u2 then (if (Int32.ofInt 1) < u2 then rcH N u2 S else (if (fX12_has (S.1 265 19) u2) = 0 then rcH N u2 S else some ((Int32.ofInt 4), S))) else some ((Int32.ofInt 1), S)) := rfl
end CLA
