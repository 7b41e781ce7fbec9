/-! ===== a new text: its object and its five rows ===== -/
def Rx (ro : xRo) (B : Nat → List Value → xH → xR → Prop) (d : Nat) (M : xMeth) (pc : Nat) (ls : xL) (st : List Value) (h : xH) (r : xR) : Prop := ∃ n, xRun ro (xEv ro xP B d) M.2.2.2.1 M.2.2.2.2 n pc ls st h r
section RX
variable {ro : xRo} {B : Nat → List Value → xH → xR → Prop} {d : Nat} {M : xMeth} {pc pc' : Nat} {ls ls' : xL} {st st' : List Value} {h h' : xH} {r : xR}
theorem rx_step {i : xI} (h1 : xAt M.2.2.2.2 pc = some i) (h2 : xStep ro i pc ls st h = some (pc', ls', st', h')) (k : Rx ro B d M pc' ls' st' h' r) : Rx ro B d M pc ls st h r := by
  obtain ⟨n, hn⟩ := k
  exact ⟨n + 1, i, h1, Or.inl ⟨pc', ls', st', _, h2, hn⟩⟩
theorem rx_call {i : xI} {j k : Nat} {v : Option Value} (h1 : xAt M.2.2.2.2 pc = some i) (h2 : xCallee i = some (j, k)) (h3 : Nat.ble k st.length = true) (h4 : Nat.ble ((st.drop k).map fun v => v.category).sum 8 = true) (h5 : xRcv i (st.take k).reverse h = true) (h6 : xEv ro xP B d j (st.take k).reverse h (v, h')) (kk : Rx ro B d M (pc + 3) ls (v.toList ++ st.drop k) h' r) : Rx ro B d M pc ls st h r := by
  obtain ⟨n, hn⟩ := kk
  exact ⟨n + 1, i, h1, Or.inr (Or.inl ⟨j, k, v, _, h2, Nat.le_of_ble_eq_true h3, Nat.le_of_ble_eq_true h4, h5, h6, hn⟩)⟩
theorem rx_ret {i : xI} {v : Option Value} (h1 : xAt M.2.2.2.2 pc = some i) (h2 : xRetV M.2.2.2.1 i.1 st = some v) : Rx ro B d M pc ls st h (v, h) := ⟨1, i, h1, Or.inr (Or.inr ⟨v, h2, rfl⟩)⟩
theorem rx_meth {j : Nat} {as : List Value} (hP : xP j = some M) (hs : Nat.ble (lg_sl as).length M.2.2.1 = true) (hk : Rx ro B d M 0 (lv_args 0 as) [] h r) : xEv ro xP B (d + 1) j as h r := by
  obtain ⟨n, hn⟩ := hk
  exact Or.inr ⟨M, n, hP, hs, hn⟩
end RX
def tH (K : yK) (z : Nat × Nat) (S : yS) (fs : List Value) (as : List (Nat × (Nat → Int32))) : xH :=
  (z.1 + 1 + as.length, z.2 + 9 + (as.map Prod.fst).sum, fun j => if j < z.1 then yE K S j else if j = z.1 then some (.inr (10, fs)) else (as[j - (z.1 + 1)]?).map fun a => .inl (0, a.1, .inl a.2))
theorem tH_lt {K : yK} {z : Nat × Nat} {S : yS} {fs : List Value} {as : List (Nat × (Nat → Int32))} {j : Nat} (h : j < z.1) : (tH K z S fs as).2.2 j = yE K S j := if_pos h
theorem tH_at {K : yK} {z : Nat × Nat} {S : yS} {fs : List Value} {as : List (Nat × (Nat → Int32))} : (tH K z S fs as).2.2 z.1 = some (.inr (10, fs)) := by
  show (if z.1 < z.1 then _ else _) = _
  rw [if_neg (Nat.lt_irrefl _), if_pos rfl]
theorem tH_begin {K : yK} {z : Nat × Nat} {S : yS} (hK : ∀ j, z.1 ≤ j → K j = none) (fs : List Value) : xNw (yH K z S) 9 (.inr (10, fs)) = tH K z S fs [] := by
  show (z.1 + 1, z.2 + 9, _) = (z.1 + 1, z.2 + 9, _)
  congr 2
  funext j
  show (if j = z.1 then _ else yE K S j) = (if j < z.1 then _ else if j = z.1 then _ else _)
  by_cases h1 : j = z.1
  · subst h1; rw [if_pos rfl, if_neg (Nat.lt_irrefl _), if_pos rfl]
  · rw [if_neg h1]
    by_cases h2 : j < z.1
    · rw [if_pos h2]
    · rw [if_neg h2, if_neg h1]
      unfold yE
      rw [hK j (by omega)]
      simp
theorem tH_put {K : yK} {z : Nat × Nat} {S : yS} {fs fs' : List Value} {as : List (Nat × (Nat → Int32))} : xUp (tH K z S fs as) z.1 (.inr (10, fs')) = tH K z S fs' as := by
  show (z.1 + 1 + as.length, z.2 + 9 + (as.map Prod.fst).sum, _) = (z.1 + 1 + as.length, z.2 + 9 + (as.map Prod.fst).sum, _)
  congr 2
  funext j
  show (if j = z.1 then _ else (if j < z.1 then yE K S j else if j = z.1 then _ else _)) = _
  by_cases h1 : j = z.1
  · subst h1; rw [if_pos rfl, if_neg (Nat.lt_irrefl _), if_pos rfl]
  · rw [if_neg h1, if_neg h1]
    show _ = (if j < z.1 then yE K S j else if j = z.1 then _ else _)
    rw [if_neg h1]
theorem tH_nw {K : yK} {z : Nat × Nat} {S : yS} {fs : List Value} {as : List (Nat × (Nat → Int32))} {n : Nat} {f : Nat → Int32} : xNw (tH K z S fs as) n (.inl (0, n, .inl f)) = tH K z S fs (as ++ [(n, f)]) := by
  show (z.1 + 1 + as.length + 1, z.2 + 9 + (as.map Prod.fst).sum + n, fun j => if j = z.1 + 1 + as.length then some (.inl (0, n, .inl f)) else (if j < z.1 then yE K S j else if j = z.1 then some (.inr (10, fs)) else (as[j - (z.1 + 1)]?).map fun a => .inl (0, a.1, .inl a.2))) = (z.1 + 1 + (as ++ [(n, f)]).length, z.2 + 9 + ((as ++ [(n, f)]).map Prod.fst).sum, fun j => if j < z.1 then yE K S j else if j = z.1 then some (.inr (10, fs)) else ((as ++ [(n, f)])[j - (z.1 + 1)]?).map fun a => .inl (0, a.1, .inl a.2))
  have e1 : z.1 + 1 + as.length + 1 = z.1 + 1 + (as ++ [(n, f)]).length := by simp; omega
  have e2 : z.2 + 9 + (as.map Prod.fst).sum + n = z.2 + 9 + ((as ++ [(n, f)]).map Prod.fst).sum := by simp; omega
  rw [e1, e2]
  congr 2
  funext j
  by_cases h1 : j = z.1 + 1 + as.length
  · subst h1
    rw [if_pos rfl, if_neg (by omega), if_neg (by omega)]
    have : z.1 + 1 + as.length - (z.1 + 1) = as.length := by omega
    rw [this]
    simp
  · rw [if_neg h1]
    by_cases h2 : j < z.1
    · rw [if_pos h2, if_pos h2]
    · rw [if_neg h2, if_neg h2]
      by_cases h3 : j = z.1
      · rw [if_pos h3, if_pos h3]
      · rw [if_neg h3, if_neg h3]
        by_cases h4 : j - (z.1 + 1) < as.length
        · rw [List.getElem?_append_left h4]
        · rw [List.getElem?_eq_none (by omega), List.getElem?_eq_none (by simp; omega)]
theorem tH_up {K : yK} {z : Nat × Nat} {S : yS} {fs : List Value} {as : List (Nat × (Nat → Int32))} {n : Nat} {f g : Nat → Int32} : xUp (tH K z S fs (as ++ [(n, f)])) (z.1 + 1 + as.length) (.inl (0, n, .inl g)) = tH K z S fs (as ++ [(n, g)]) := by
  rw [← tH_nw, ← tH_nw]
  show (_, _, _) = (_, _, _)
  congr 2
  funext j
  show (if j = z.1 + 1 + as.length then _ else (if j = z.1 + 1 + as.length then _ else _)) = (if j = z.1 + 1 + as.length then _ else _)
  by_cases h1 : j = z.1 + 1 + as.length
  · rw [if_pos h1, if_pos h1]
  · rw [if_neg h1, if_neg h1, if_neg h1]
theorem tH_new {K : yK} {z : Nat × Nat} {S : yS} {fs : List Value} {as : List (Nat × (Nat → Int32))} {n : Nat} {f : Nat → Int32} : (tH K z S fs (as ++ [(n, f)])).2.2 (z.1 + 1 + as.length) = some (.inl (0, n, .inl f)) := by
  rw [← tH_nw]
  exact if_pos rfl
theorem yE_arr {K : yK} {S : yS} {a n : Nat} (h : K a = some (.inr (0, n))) : yE K S a = some (.inl (0, n, .inl (S.2.2.1 a))) := by
  unfold yE; rw [h]; rfl
theorem i32_nat {v : Int32} (h0 : ¬ v < 0) : (v.toNatClampNeg : Int) = v.toInt := by
  have e1 : (0 : Int) ≤ v.toInt := by
    have := mt Int32.lt_iff_toInt_lt.mpr h0
    simpa using this
  show ((v.toInt.toNat : Nat) : Int) = _
  omega
theorem tJ7_copyOf {ro : xRo} {K : yK} {z : Nat × Nat} {S : yS} {fs : List Value} {as : List (Nat × (Nat → Int32))} {d a n L : Nat} {v : Int32} (ha : a < z.1) (ha2 : Nat.blt a 16 = false) (hk : K a = some (.inr (0, L))) (hL : L ≤ 1000) (hv : v.toInt = n) (hn : n ≤ L) : ∃ g : Nat → Int32, (∀ j, j < n → g j = S.2.2.1 a j) ∧ xEv ro xP xNo (d + 1) jJ7_copyOf_59c91 [.ref a, .int v] (tH K z S fs as) (some (.ref (z.1 + 1 + as.length)), tH K z S fs (as ++ [(n, g)])) := by
  have h0 : ¬ v < 0 := fun h => by have := Int32.lt_iff_toInt_lt.mp h; simp at this; omega
  have hcl : v.toNatClampNeg = n := by have := i32_nat h0; omega
  have hcell : (tH K z S fs as).2.2 a = some (.inl (0, L, .inl (S.2.2.1 a))) := by rw [tH_lt ha, yE_arr hk]
  have eL : (Int32.ofNat L).toInt = L := by
    rw [Int32.toInt_ofNat_of_lt (by omega)]
  by_cases hvL : v = Int32.ofNat L
  · have hnL : n = L := by rw [hvL] at hv; omega
    refine ⟨S.2.2.1 a, fun _ _ => rfl, ?_⟩
    refine rx_meth pJ7_copyOf_59c91 rfl ?_
    iterate 2 (refine rx_step rfl rfl ?_)
    refine rx_step (pc' := 3) (ls' := lv_args 0 [.ref a, .int v]) (st' := [.int (Int32.ofNat L), .int v]) (h' := tH K z S fs as) rfl ?_ ?_
    · show (bif Nat.blt a 16 then _ else _) = _
      rw [ha2]
      show (match (tH K z S fs as).2.2 a with
        | some (.inl (t, n, _)) => bif Nat.blt t 5 then some (3, lv_args 0 [Value.ref a, Value.int v], [Value.int (Int32.ofNat n), Value.int v], tH K z S fs as) else none
        | _ => none) = _
      rw [hcell]
      rfl
    refine rx_step rfl rfl ?_
    rw [if_neg (not_not_intro hvL)]
    refine rx_step rfl rfl ?_
    refine rx_step (pc' := 10) (ls' := lv_args 0 [.ref a, .int v]) (st' := [.ref (z.1 + 1 + as.length)]) (h' := tH K z S fs (as ++ [(n, S.2.2.1 a)])) rfl ?_ ?_
    · show xar (tH K z S fs as) a 0 _ = _
      unfold xar
      rw [hcell]
      show (if 8 < ((([] : List Value)).map fun v => v.category).sum ∨ 100000 < L then none else some (10, lv_args 0 [Value.ref a, Value.int v], [Value.ref (z.1 + 1 + as.length)], xNw (tH K z S fs as) L (.inl (0, L, .inl (S.2.2.1 a))))) = _
      rw [if_neg (by simp; omega), tH_nw, hnL]
    refine rx_step (pc' := 13) (ls' := lv_args 0 [.ref a, .int v]) (st' := [.ref (z.1 + 1 + as.length)]) (h' := tH K z S fs (as ++ [(n, S.2.2.1 a)])) rfl ?_ ?_
    · show xar (tH K z S fs (as ++ [(n, S.2.2.1 a)])) (z.1 + 1 + as.length) 0 _ = _
      unfold xar
      rw [tH_new]
      rfl
    exact rx_ret rfl rfl
  · refine ⟨va_cpy (S.2.2.1 a) (fun _ => 0) 0 0 n, ?_, ?_⟩
    · intro j hj
      unfold va_cpy
      simp [hj]
    refine rx_meth pJ7_copyOf_59c91 rfl ?_
    iterate 2 (refine rx_step rfl rfl ?_)
    have hln : ∀ (h : xH) (pc : Nat) (ls : xL) (st : List Value), h.2.2 a = some (.inl (0, L, .inl (S.2.2.1 a))) → ∀ (i : xI), i.1 = .arraylength → xStep ro i pc ls (.ref a :: st) h = some (pc + 1, ls, .int (Int32.ofNat L) :: st, h) := by
      intro h pc ls st hh i hi
      obtain ⟨i1, i2⟩ := i
      dsimp only at hi
      subst hi
      show (bif Nat.blt a 16 then _ else _) = _
      rw [ha2]
      show (match h.2.2 a with
        | some (.inl (t, n, _)) => bif Nat.blt t 5 then some (pc + 1, ls, Value.int (Int32.ofNat n) :: st, h) else none
        | _ => none) = _
      rw [hh]
      rfl
    refine rx_step rfl (hln _ _ _ _ hcell _ rfl) ?_
    refine rx_step rfl rfl ?_
    rw [if_pos hvL]
    refine rx_step rfl rfl ?_
    refine rx_step (pc' := 17) (ls' := lv_args 0 [.ref a, .int v]) (st' := [.ref (z.1 + 1 + as.length)]) (h' := tH K z S fs (as ++ [(n, fun _ => 0)])) rfl ?_ ?_
    · show (if v < 0 ∨ 100000 < v.toNatClampNeg then none else some (17, lv_args 0 [Value.ref a, Value.int v], [Value.ref (z.1 + 1 + as.length)], xNw (tH K z S fs as) v.toNatClampNeg (.inl (0, xZero 0 v.toNatClampNeg)))) = _
      rw [if_neg (by rw [hcl]; intro h; rcases h with h | h; exact h0 h; omega), hcl]
      show some (17, _, _, xNw (tH K z S fs as) n (.inl (0, n, .inl (fun _ => 0)))) = _
      rw [tH_nw]
    iterate 6 (refine rx_step rfl rfl ?_)
    have hcell2 : ∀ as' : List (Nat × (Nat → Int32)), (tH K z S fs as').2.2 a = some (.inl (0, L, .inl (S.2.2.1 a))) := fun as' => by rw [tH_lt ha, yE_arr hk]
    refine rx_step rfl (hln _ _ _ _ (hcell2 _) _ rfl) ?_
    refine rx_step rfl rfl ?_
    refine rx_step (pc' := 28) (ls' := [(2, .ref (z.1 + 1 + as.length)), (0, .ref a), (1, .int v)]) (st' := [.int v, .int 0, .ref (z.1 + 1 + as.length), .int 0, .ref a]) (h' := tH K z S fs (as ++ [(n, fun _ => 0)])) rfl ?_ ?_
    · show (if 8 < (([Value.int 0, Value.ref (z.1 + 1 + as.length), Value.int 0, Value.ref a] : List Value).map fun v => v.category).sum then none else some (28, _, Value.int (if v < Int32.ofNat L then v else Int32.ofNat L) :: _, _)) = _
      have hlt : v < Int32.ofNat L := by
        refine Int32.lt_iff_toInt_lt.mpr ?_
        have : v.toInt ≠ (Int32.ofNat L).toInt := fun e => hvL (Int32.toInt_inj.mp e)
        omega
      rw [if_pos hlt]
      rfl
    refine rx_step (pc' := 31) (ls' := [(2, .ref (z.1 + 1 + as.length)), (0, .ref a), (1, .int v)]) (st' := []) (h' := tH K z S fs (as ++ [(n, va_cpy (S.2.2.1 a) (fun _ => 0) 0 0 n)])) rfl ?_ ?_
    · show xar (tH K z S fs (as ++ [(n, fun _ => 0)])) a 0 _ = _
      unfold xar
      rw [hcell2, tH_new]
      show (if (0 : Int32) < 0 ∨ (0 : Int32) < 0 ∨ v < 0 ∨ L < (0 : Int32).toNatClampNeg + v.toNatClampNeg ∨ n < (0 : Int32).toNatClampNeg + v.toNatClampNeg ∨ 8 < ((([] : List Value)).map fun v => v.category).sum then none else some (31, _, [], xUp (tH K z S fs (as ++ [(n, fun _ => 0)])) (z.1 + 1 + as.length) (.inl (0, n, .inl (va_cpy (S.2.2.1 a) (fun _ => 0) (0 : Int32).toNatClampNeg (0 : Int32).toNatClampNeg v.toNatClampNeg))))) = _
      have e0 : (0 : Int32).toNatClampNeg = 0 := rfl
      rw [e0, hcl, if_neg (by rintro (h | h | h | h | h | h) <;> first | exact absurd h (by decide) | exact h0 h | (simp at h; done) | omega), tH_up]
    refine rx_step rfl rfl ?_
    exact rx_ret rfl rfl
