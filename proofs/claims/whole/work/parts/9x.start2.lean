/-! ===== the constructors, by computation: a run ===== -/
abbrev zA : Type := Option Value × Nat × List va_E
def zRun (C : Nat → List Value → Nat → List va_E → Option zA) (M : xMeth) : Nat → Nat → xL → List Value → Nat → List va_E → Option zA
  | 0, _, _, _, _, _ => none
  | n + 1, pc, ls, st, w, L => match xAt M.2.2.2.2 pc with
    | none => none
    | some i => match xCallee i with
      | some (j, k) => bif Nat.ble k st.length && Nat.ble ((st.drop k).map fun v => v.category).sum 8 && xRcv i (st.take k).reverse (0, 0, fun _ => none) then (match C j (st.take k).reverse w L with
        | none => none
        | some q => zRun C M n (pc + 3) ls (q.1.toList ++ st.drop k) q.2.1 q.2.2) else none
      | none => match xRetV M.2.2.2.1 i.1 st with
        | some v => some (v, w, L)
        | none => match zStep i pc ls st w L with
          | none => none
          | some q => zRun C M n q.1 q.2.1 q.2.2.1 q.2.2.2.1 q.2.2.2.2
def zEv : Nat → Nat → List Value → Nat → List va_E → Option zA
  | 0, _, _, _, _ => none
  | d + 1, j, as, w, L => match xP j with
    | none => none
    | some M => bif Nat.ble (lg_sl as).length M.2.2.1 then zRun (zEv d) M 1000 0 (lv_args 0 as) [] w L else none
theorem xRcv_z {i : xI} {as : List Value} {h : xH} (hh : xRcv i as (0, 0, fun _ => none) = true) (hs : ∀ n, i.1 ≠ .invokevirtual n) : xRcv i as h = true := by
  obtain ⟨op, rest⟩ := i
  unfold xRcv at hh ⊢
  cases op with
  | invokevirtual n => exact absurd rfl (hs n)
  | _ => exact hh
theorem zRun_x {ro : xRo} {d : Nat} {C : Nat → List Value → Nat → List va_E → Option zA} {M : xMeth} (hC : ∀ j as w L v w' L', C j as w L = some (v, w', L') → xEv ro xP xNo d j as (lH w L) (v, lH w' L')) (hM : ∀ pc i, xAt M.2.2.2.2 pc = some i → ∀ n, i.1 ≠ .invokevirtual n) : ∀ (n pc : Nat) (ls : xL) (st : List Value) (w : Nat) (L : List va_E) (v : Option Value) (w' : Nat) (L' : List va_E), zRun C M n pc ls st w L = some (v, w', L') → xRun ro (xEv ro xP xNo d) M.2.2.2.1 M.2.2.2.2 n pc ls st (lH w L) (v, lH w' L') := by
  intro n
  induction n with
  | zero => intro pc ls st w L v w' L' h; cases h
  | succ n ih =>
    intro pc ls st w L v w' L' h
    unfold zRun at h
    cases hi : xAt M.2.2.2.2 pc with
    | none => rw [hi] at h; cases h
    | some i =>
      rw [hi] at h
      dsimp only at h
      refine ⟨i, hi, ?_⟩
      cases hc : xCallee i with
      | some jk =>
        obtain ⟨j, k⟩ := jk
        rw [hc] at h
        dsimp only at h
        cases hb : (Nat.ble k st.length && Nat.ble ((st.drop k).map fun v => v.category).sum 8 && xRcv i (st.take k).reverse (0, 0, fun _ => none)) with
        | false => rw [hb] at h; cases h
        | true =>
          rw [hb] at h
          have hb := Bool.and_eq_true_iff.mp hb
          have hb1 := Bool.and_eq_true_iff.mp hb.1
          cases hq : C j (st.take k).reverse w L with
          | none => rw [hq] at h; cases h
          | some q =>
            rw [hq] at h
            obtain ⟨v1, w1, L1⟩ := q
            exact Or.inr (Or.inl ⟨j, k, v1, lH w1 L1, rfl, Nat.le_of_ble_eq_true hb1.1, Nat.le_of_ble_eq_true hb1.2, xRcv_z hb.2 (hM pc i hi), hC _ _ _ _ _ _ _ hq, ih _ _ _ _ _ _ _ _ h⟩)
      | none =>
        rw [hc] at h
        dsimp only at h
        cases hr : xRetV M.2.2.2.1 i.1 st with
        | some v1 =>
          rw [hr] at h
          cases h
          exact Or.inr (Or.inr ⟨_, rfl, rfl⟩)
        | none =>
          rw [hr] at h
          dsimp only at h
          cases hz : zStep i pc ls st w L with
          | none => rw [hz] at h; cases h
          | some q =>
            rw [hz] at h
            obtain ⟨pc1, ls1, st1, w1, L1⟩ := q
            exact Or.inl ⟨pc1, ls1, st1, lH w1 L1, zStep_x hz, ih _ _ _ _ _ _ _ _ h⟩
def zOk (M : xMeth) : Bool := M.2.2.2.2.all (fun l => l.all (fun q => match q.2.1 with
  | .invokevirtual _ => false
  | _ => true))
theorem zFind {α : Type} {P : α → Bool} : ∀ {l : List (Nat × α)} {k : Nat} {x : α}, l.all (fun q => P q.2) = true → xFind l k = some x → P x = true
  | [], k, x, _, h => by cases h
  | q :: l, k, x, ha, h => by
    rw [List.all_cons] at ha
    have ha := Bool.and_eq_true_iff.mp ha
    unfold xFind at h
    cases hb : Nat.beq q.1 k with
    | true => rw [hb] at h; cases h; exact ha.1
    | false => rw [hb] at h; exact zFind ha.2 h
theorem zOk_at {M : xMeth} (h : zOk M = true) {pc : Nat} {i : xI} (hi : xAt M.2.2.2.2 pc = some i) (n : Nat) : i.1 ≠ .invokevirtual n := by
  unfold xAt at hi
  cases hl : M.2.2.2.2[pc / 32]? with
  | none => rw [hl] at hi; cases hi
  | some l =>
    rw [hl] at hi
    have h1 := List.all_eq_true.mp h l (List.mem_of_getElem? hl)
    have h2 := zFind (P := fun (q : xI) => match q.1 with
      | .invokevirtual _ => false
      | _ => true) h1 hi
    intro e
    rw [e] at h2
    cases h2
/-- like zEv, with a look at each method's code -/
def zEw : Nat → Nat → List Value → Nat → List va_E → Option zA
  | 0, _, _, _, _ => none
  | d + 1, j, as, w, L => match xP j with
    | none => none
    | some M => bif Nat.ble (lg_sl as).length M.2.2.1 && zOk M then zRun (zEw d) M 1000 0 (lv_args 0 as) [] w L else none
theorem zEw_x {ro : xRo} : ∀ (d j : Nat) (as : List Value) (w : Nat) (L : List va_E) (v : Option Value) (w' : Nat) (L' : List va_E), zEw d j as w L = some (v, w', L') → xEv ro xP xNo d j as (lH w L) (v, lH w' L') := by
  intro d
  induction d with
  | zero => intro j as w L v w' L' h; cases h
  | succ d ih =>
    intro j as w L v w' L' h
    unfold zEw at h
    cases hj : xP j with
    | none => rw [hj] at h; cases h
    | some M =>
      rw [hj] at h
      dsimp only at h
      cases hb : (Nat.ble (lg_sl as).length M.2.2.1 && zOk M) with
      | false => rw [hb] at h; cases h
      | true =>
        rw [hb] at h
        have hb := Bool.and_eq_true_iff.mp hb
        exact Or.inr ⟨M, 1000, hj, hb.1, zRun_x ih (fun pc i hi n => zOk_at hb.2 hi n) _ _ _ _ _ _ _ _ _ h⟩
/-! the heap that stands then, by its shape -/
def shF : List Nat → List Value → Bool
  | [], [] => true
  | 0 :: r, .int _ :: s => shF r s
  | 1 :: r, .long _ :: s => shF r s
  | (n + 2) :: r, .ref m :: s => Nat.beq n m && shF r s
  | _, _ => false
def shE (k : Option ((Nat × List Nat) ⊕ (Nat × Nat))) (e : va_E) : Bool := match k, e with
  | some (.inl (ci, ks)), .inr (c, fs) => Nat.beq ci c && shF ks fs
  | some (.inr (t, n)), .inl (t', n', .inl _) => Nat.beq t t' && Nat.beq n n' && !(Nat.beq t 1) && !(Nat.beq t 3 || Nat.beq t 4)
  | some (.inr (t, n)), .inl (t', n', .inr (.inl _)) => Nat.beq t t' && Nat.beq n n' && Nat.beq t 1
  | some (.inr (t, n)), .inl (t', n', .inr (.inr (.inr (.inr _)))) => Nat.beq t t' && Nat.beq n n' && !(Nat.beq t 1) && (Nat.beq t 3 || Nat.beq t 4)
  | _, _ => false
def shL (i : Nat) : List va_E → Bool
  | [] => true
  | e :: L => shE (yK0 i) e && shL (i + 1) L
def exI (v : Option Value) : Int32 := match v with
  | some (.int x) => x
  | _ => 0
def exJ (v : Option Value) : Int64 := match v with
  | some (.long x) => x
  | _ => 0
def ext (L : List va_E) : yS := (fun i k => match L[i - 16]? with
    | some (.inr (_, fs)) => exI fs[k]?
    | _ => 0, fun i k => match L[i - 16]? with
    | some (.inr (_, fs)) => exJ fs[k]?
    | _ => 0, fun a => match L[a - 16]? with
    | some (.inl (_, _, .inl f)) => f
    | _ => fun _ => 0, fun a => match L[a - 16]? with
    | some (.inl (_, _, .inr (.inl f))) => f
    | _ => fun _ => 0, fun a => match L[a - 16]? with
    | some (.inl (_, _, .inr (.inr (.inr (.inr f))))) => f
    | _ => fun _ => none)
theorem shF_y {S : yS} {i : Nat} {fs0 : List Value} (h1 : ∀ k, S.1 i k = exI fs0[k]?) (h2 : ∀ k, S.2.1 i k = exJ fs0[k]?) : ∀ (ks : List Nat) (fs : List Value) (k : Nat), (∀ m, fs[m]? = fs0[k + m]?) → shF ks fs = true → yF S i k ks = fs
  | [], [], k, _, _ => rfl
  | [], v :: fs, k, _, h => by cases v <;> cases h
  | 0 :: r, fs, k, hk, h => by
    cases fs with
    | nil => cases h
    | cons v s =>
      cases v with
      | int x =>
        have h : shF r s = true := h
        have e0 : S.1 i k = x := by rw [h1 k, ← Nat.add_zero k, ← hk 0]; rfl
        show .int (S.1 i k) :: yF S i (k + 1) r = _
        rw [e0, shF_y h1 h2 r s (k + 1) (fun m => by rw [show k + 1 + m = k + (m + 1) by omega, ← hk (m + 1)]; rfl) h]
      | _ => cases h
  | 1 :: r, fs, k, hk, h => by
    cases fs with
    | nil => cases h
    | cons v s =>
      cases v with
      | long x =>
        have h : shF r s = true := h
        have e0 : S.2.1 i k = x := by rw [h2 k, ← Nat.add_zero k, ← hk 0]; rfl
        show .long (S.2.1 i k) :: yF S i (k + 1) r = _
        rw [e0, shF_y h1 h2 r s (k + 1) (fun m => by rw [show k + 1 + m = k + (m + 1) by omega, ← hk (m + 1)]; rfl) h]
      | _ => cases h
  | (n + 2) :: r, fs, k, hk, h => by
    cases fs with
    | nil => cases h
    | cons v s =>
      cases v with
      | ref x =>
        have h : (Nat.beq n x && shF r s) = true := h
        have h := Bool.and_eq_true_iff.mp h
        have e0 : n = x := xbeq h.1
        show .ref n :: yF S i (k + 1) r = _
        rw [e0, shF_y h1 h2 r s (k + 1) (fun m => by rw [show k + 1 + m = k + (m + 1) by omega, ← hk (m + 1)]; rfl) h.2]
      | _ => cases h
theorem shL_at : ∀ (L : List va_E) (i m : Nat) (e : va_E), shL i L = true → L[m]? = some e → shE (yK0 (i + m)) e = true
  | [], i, m, e, _, h => by cases h
  | x :: L, i, 0, e, hs, h => by
    have hs := Bool.and_eq_true_iff.mp hs
    cases h
    exact hs.1
  | x :: L, i, m + 1, e, hs, h => by
    have hs := Bool.and_eq_true_iff.mp hs
    have h : L[m]? = some e := h
    rw [show i + (m + 1) = i + 1 + m by omega]
    exact shL_at L (i + 1) m e hs.2 h
theorem ext_H {w : Nat} {L : List va_E} (hl : L.length = 265) (hs : shL 16 L = true) (h0 : ∀ i, i < 16 → yK0 i = none) : lH w L = yH (yKx (fun _ => none)) (281, w) (ext L) := by
  have e1 : (lH w L).2.2 = yE (yKx (fun _ => none)) (ext L) := by
    funext j
    show (if j < 16 then none else L[j - 16]?) = _
    by_cases j16 : j < 16
    · rw [if_pos j16]
      unfold yE
      have : yKx (fun _ => none) j = none := by
        unfold yKx
        rw [show Nat.blt j 281 = true from Nat.ble_eq_true_of_le (by omega)]
        exact h0 j j16
      rw [this]
    · rw [if_neg j16]
      by_cases j281 : j < 281
      · obtain ⟨e, he⟩ : ∃ e, L[j - 16]? = some e := ⟨L[j - 16]'(by omega), List.getElem?_eq_getElem (by omega)⟩
        have hsh := shL_at L 16 (j - 16) e hs he
        rw [show 16 + (j - 16) = j by omega] at hsh
        rw [he]
        have hK : yKx (fun _ => none) j = yK0 j := by
          unfold yKx
          rw [show Nat.blt j 281 = true from Nat.ble_eq_true_of_le (by omega)]
          rfl
        unfold yE
        rw [hK]
        unfold shE at hsh
        split at hsh
        · rename_i ci ks c fs hk
          have hsh := Bool.and_eq_true_iff.mp hsh
          have ec : ci = c := xbeq hsh.1
          rw [hk]
          dsimp only
          have f1 : ∀ k, (ext L).1 j k = exI fs[k]? := fun k => by
            show (match L[j - 16]? with | some (.inr (_, fs)) => exI fs[k]? | _ => 0) = _
            rw [he]
          have f2 : ∀ k, (ext L).2.1 j k = exJ fs[k]? := fun k => by
            show (match L[j - 16]? with | some (.inr (_, fs)) => exJ fs[k]? | _ => 0) = _
            rw [he]
          rw [shF_y f1 f2 ks fs 0 (fun m => by rw [Nat.zero_add]) hsh.2, ec]
        · rename_i t n t' n' g hk
          have hsh := Bool.and_eq_true_iff.mp hsh
          have hs2 := Bool.and_eq_true_iff.mp hsh.1
          have hs3 := Bool.and_eq_true_iff.mp hs2.1
          have et : t = t' := xbeq hs3.1
          have en : n = n' := xbeq hs3.2
          rw [hk]
          dsimp only
          unfold yA
          rw [show Nat.beq t 1 = false by have := hs2.2; revert this; cases Nat.beq t 1 <;> simp, show (Nat.beq t 3 || Nat.beq t 4) = false by have := hsh.2; revert this; cases (Nat.beq t 3 || Nat.beq t 4) <;> simp]
          have f1 : (ext L).2.2.1 j = g := by
            show (match L[j - 16]? with | some (.inl (_, _, .inl f)) => f | _ => fun _ => 0) = _
            rw [he]
          show _ = (some (Sum.inl (t, n, Sum.inl ((ext L).2.2.1 j))) : Option va_E)
          rw [f1, et, en]
        · rename_i t n t' n' g hk
          have hsh := Bool.and_eq_true_iff.mp hsh
          have hs3 := Bool.and_eq_true_iff.mp hsh.1
          have et : t = t' := xbeq hs3.1
          have en : n = n' := xbeq hs3.2
          rw [hk]
          dsimp only
          unfold yA
          rw [hsh.2]
          have f1 : (ext L).2.2.2.1 j = g := by
            show (match L[j - 16]? with | some (.inl (_, _, .inr (.inl f))) => f | _ => fun _ => 0) = _
            rw [he]
          show _ = (some (Sum.inl (t, n, Sum.inr (Sum.inl ((ext L).2.2.2.1 j)))) : Option va_E)
          rw [f1, et, en]
        · rename_i t n t' n' g hk
          have hsh := Bool.and_eq_true_iff.mp hsh
          have hs2 := Bool.and_eq_true_iff.mp hsh.1
          have hs3 := Bool.and_eq_true_iff.mp hs2.1
          have et : t = t' := xbeq hs3.1
          have en : n = n' := xbeq hs3.2
          rw [hk]
          dsimp only
          unfold yA
          rw [show Nat.beq t 1 = false by have := hs2.2; revert this; cases Nat.beq t 1 <;> simp, hsh.2]
          have f1 : (ext L).2.2.2.2 j = g := by
            show (match L[j - 16]? with | some (.inl (_, _, .inr (.inr (.inr (.inr f))))) => f | _ => fun _ => none) = _
            rw [he]
          show _ = (some (Sum.inl (t, n, Sum.inr (Sum.inr (Sum.inr (Sum.inr ((ext L).2.2.2.2 j)))))) : Option va_E)
          rw [f1, et, en]
        · cases hsh
      · rw [List.getElem?_eq_none (by omega)]
        unfold yE
        rw [yKx_ge (by omega)]
  show (16 + L.length, w, (lH w L).2.2) = (281, w, yE (yKx (fun _ => none)) (ext L))
  rw [hl, e1]
/-! the run -/
/-- steps of one method up to a place -/
def zGo (M : xMeth) (stop : Nat) : Nat → Nat → xL → List Value → Nat → List va_E → Option (xL × List Value × Nat × List va_E)
  | 0, _, _, _, _, _ => none
  | n + 1, pc, ls, st, w, L => bif Nat.beq pc stop then some (ls, st, w, L) else match xAt M.2.2.2.2 pc with
    | none => none
    | some i => match zStep i pc ls st w L with
      | none => none
      | some q => zGo M stop n q.1 q.2.1 q.2.2.1 q.2.2.2.1 q.2.2.2.2
theorem zGo_x {ro : xRo} {B : Nat → List Value → xH → xR → Prop} {d stop : Nat} {M : xMeth} {r : xR} {ls' : xL} {st' : List Value} {w' : Nat} {L' : List va_E} (k : Rx ro B d M stop ls' st' (lH w' L') r) : ∀ (n pc : Nat) (ls : xL) (st : List Value) (w : Nat) (L : List va_E), zGo M stop n pc ls st w L = some (ls', st', w', L') → Rx ro B d M pc ls st (lH w L) r := by
  intro n
  induction n with
  | zero => intro pc ls st w L h; cases h
  | succ n ih =>
    intro pc ls st w L h
    unfold zGo at h
    cases hs : Nat.beq pc stop with
    | true =>
      rw [hs] at h
      cases h
      rw [xbeq hs]
      exact k
    | false =>
      rw [hs] at h
      simp only [cond_false] at h
      cases hi : xAt M.2.2.2.2 pc with
      | none => rw [hi] at h; cases h
      | some i =>
        rw [hi] at h
        dsimp only at h
        cases hz : zStep i pc ls st w L with
        | none => rw [hz] at h; cases h
        | some q =>
          rw [hz] at h
          obtain ⟨pc1, ls1, st1, w1, L1⟩ := q
          exact rx_step hi (zStep_x hz) (ih _ _ _ _ _ h)
/-- the class's constructor, then the reference's up to its last call -/
def zS0 : Option (xL × List Value × Nat × List va_E) := (zEw 12 110 [.ref 16] 11 [.inr (11, xNew 11 11)]).bind fun q => bif Nat.beq q.2.2.length 249 && q.1.isNone then zGo mX12_init 203 1000 0 (lv_args 0 [.ref 265]) [] (q.2.1 + 32) (q.2.2 ++ [.inr (12, xNew 12 32)]) else none
