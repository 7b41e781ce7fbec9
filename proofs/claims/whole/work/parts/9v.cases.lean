/-! ===== the law's sixty cases ===== -/
def lsL (i : Nat) : xL := [(3, .int (Int32.ofInt (i : Int))), (2, .ref 265), (1, .ref 16), (0, .ref 0)]
theorem xin_n {α : Type} {k n : Nat} {G : Nat → Option α} (h : k < n) (hn : n < 2147483648) : xin (Int32.ofInt (k : Int)) n G = G k := by
  have h0 : ¬ Int32.ofInt (k : Int) < 0 := by first | omega | ((simp (disch := omega) only [i0, i1, i_lt, i_le, i_eq, i_add, i_sub, i_mul, i_neg, i_ofNat, i_rem, i_div, w_in, w_in2, w_cnt, w_cnt2, z01, z01', il, li, lc_ge, lc_le, lc_gt, lc_lt, lc_eq, l_ofNat, l0, l_eq, l_lt, l_le]) <;> omega)
  have h1 : ((Int32.ofInt (k : Int)).toNatClampNeg : Int) = (Int32.ofInt (k : Int)).toInt := i32_nat h0
  rw [i_toInt (by omega) (by omega)] at h1
  have h2 : (Int32.ofInt (k : Int)).toNatClampNeg = k := by omega
  unfold xin
  rw [h2, if_neg (fun q => q.elim h0 (fun q => by omega))]
section CAS
variable {L i : Nat} {xs : Nat → Int32} {F : Bool} {T : yK} {S : yS} {z : Nat × Nat} {G : xR → Prop} {r : xR} {pc : Nat} {st : List Value} {d : Nat}
theorem ry_arg {c : Nat} (hb : i + c < L) (hL : L ≤ 3072) (h0 : xAt kL_law pc = some (.aload_n 0, 1, 0, 0, 0, [])) (h1 : xAt kL_law (pc + 1) = some (.iload_n 3, 1, 0, 0, 0, [])) (h2 : xAt kL_law (pc + 2) = some (.iconst (c : Int), 1, 0, 0, 0, [])) (h3 : xAt kL_law (pc + 3) = some (.iadd, 1, 0, 0, 0, [])) (h4 : xAt kL_law (pc + 4) = some (.iaload, 1, 0, 0, 0, [])) (k : Ry (xRoL L xs F) xNo (yKx T) z d mL_law (pc + 5) (lsL i) (.int (xs (i + c)) :: st) S r) : Ry (xRoL L xs F) xNo (yKx T) z d mL_law pc (lsL i) st S r := by
  refine ry_step h0 rfl (ry_step h1 rfl (ry_step h2 rfl (ry_step h3 rfl (ry_step (S' := S) (ls' := lsL i) (st' := .int (xs (i + c)) :: st) (pc' := pc + 5) h4 ?_ k))))
  show xin (Int32.ofInt (i : Int) + Int32.ofInt (c : Int)) L (fun j => some (pc + 5, lsL i, .int (xs j) :: st, S)) = _
  rw [i_add, show (i : Int) + (c : Int) = ((i + c : Nat) : Int) by omega, xin_n hb (by omega)]
theorem ry_bool {v : Int32} (h0 : xAt kL_law pc = some (.ifCond .eq 7, 3, 0, 0, 0, [])) (h1 : xAt kL_law (pc + 3) = some (.iconst 1, 1, 0, 0, 0, [])) (h2 : xAt kL_law (pc + 4) = some (.goto 4, 3, 0, 0, 0, [])) (h3 : xAt kL_law (pc + 7) = some (.iconst 0, 1, 0, 0, 0, [])) (e1 : xTgt pc 7 = pc + 7) (e2 : xTgt (pc + 4) 4 = pc + 8) (k : Ry (xRoL L xs F) xNo (yKx T) z d mL_law (pc + 8) (lsL i) (.int (Int32.ofInt (if v = 0 then 0 else 1)) :: st) S r) : Ry (xRoL L xs F) xNo (yKx T) z d mL_law pc (lsL i) (.int v :: st) S r := by
  refine ry_step h0 rfl (ry_if (fun hv => ?_) (fun hv => ?_))
  · rw [if_pos hv] at k
    rw [e1]
    exact ry_step h3 rfl k
  · rw [if_neg hv] at k
    refine ry_step h1 rfl (ry_step h2 rfl ?_)
    rw [e2]
    exact k
theorem bz (x : Int32) : (if x = 0 then (0 : Int) else 1) = 0 ∨ (if x = 0 then (0 : Int) else 1) = 1 := by
  split
  · exact Or.inl rfl
  · exact Or.inr rfl
theorem bv (x : Int32) : Int32.ofInt (if x = 0 then (0 : Int) else 1) = Int32.ofInt 0 ∨ Int32.ofInt (if x = 0 then (0 : Int) else 1) = Int32.ofInt 1 := by
  split
  · exact Or.inl rfl
  · exact Or.inr rfl
theorem lg_self (x : Int64) : lg_cmp x x = 0 := by
  have h1 := x.le_toInt
  have h2 := x.toInt_lt
  have e : x = Int64.ofInt x.toInt := (Int64.ofInt_toInt x).symm
  have h := (lc_eq (a := x.toInt) (b := x.toInt) (by omega) (by omega) (by omega) (by omega)).mpr rfl
  rw [← e] at h
  exact h

set_option maxRecDepth 4000 in
theorem lv_bird (hb : i + 6 ≤ L) (hL : L ≤ 3072) (h : Rel T S) (hk : ∀ S2, Rel T S2 → ∃ r, G r ∧ Ry (xRoL L xs F) xNo (yKx T) z 690 mL_law 2010 (lsL i) [] S2 r) : ∃ r, G r ∧ Ry (xRoL L xs F) xNo (yKx T) z 690 mL_law 288 (lsL i) [] S r := by
  obtain ⟨q, S1, S2, e1, e2, e3⟩ := pm_bird h (xs (i + 1)) (xs (i + 2)) (xs (i + 3))
  obtain ⟨r, hr, kr⟩ := hk S2 e3
  refine ⟨r, hr, ?_⟩
  refine ry_step rfl rfl ?_
  refine ry_arg (c := 1) (by omega) hL rfl rfl rfl rfl rfl ?_
  refine ry_arg (c := 2) (by omega) hL rfl rfl rfl rfl rfl ?_
  refine ry_arg (c := 3) (by omega) hL rfl rfl rfl rfl rfl ?_
  refine ry_call rfl rfl rfl rfl rfl (yEv_le (by decide) (tX11_bird (d := 0) e1)) ?_
  refine ry_step rfl rfl ?_
  refine ry_arg (c := 1) (by omega) hL rfl rfl rfl rfl rfl ?_
  refine ry_arg (c := 2) (by omega) hL rfl rfl rfl rfl rfl ?_
  refine ry_arg (c := 3) (by omega) hL rfl rfl rfl rfl rfl ?_
  refine ry_call rfl rfl rfl rfl rfl (yEv_le (by decide) (tX12_bird (d := 0) e2)) ?_
  exact ry_step rfl rfl (ry_if (fun _ => kr) (fun hn => absurd rfl hn))
set_option maxRecDepth 4000 in
theorem lv_rhyme (hb : i + 6 ≤ L) (hL : L ≤ 3072) (h : Rel T S) (hk : ∀ S2, Rel T S2 → ∃ r, G r ∧ Ry (xRoL L xs F) xNo (yKx T) z 690 mL_law 2010 (lsL i) [] S2 r) : ∃ r, G r ∧ Ry (xRoL L xs F) xNo (yKx T) z 690 mL_law 331 (lsL i) [] S r := by
  obtain ⟨q, S1, S2, e1, e2, e3⟩ := pm_rhyme h (xs (i + 1)) (xs (i + 2))
  obtain ⟨r, hr, kr⟩ := hk S2 e3
  refine ⟨r, hr, ?_⟩
  refine ry_step rfl rfl ?_
  refine ry_arg (c := 1) (by omega) hL rfl rfl rfl rfl rfl ?_
  refine ry_arg (c := 2) (by omega) hL rfl rfl rfl rfl rfl ?_
  refine ry_call rfl rfl rfl rfl rfl (yEv_le (by decide) (tX11_rhyme (d := 0) e1)) ?_
  refine ry_step rfl rfl ?_
  refine ry_arg (c := 1) (by omega) hL rfl rfl rfl rfl rfl ?_
  refine ry_arg (c := 2) (by omega) hL rfl rfl rfl rfl rfl ?_
  refine ry_call rfl rfl rfl rfl rfl (yEv_le (by decide) (tX12_rhyme (d := 0) e2)) ?_
  exact ry_step rfl rfl (ry_if (fun _ => kr) (fun hn => absurd rfl hn))
set_option maxRecDepth 4000 in
theorem lv_feed (hb : i + 6 ≤ L) (hL : L ≤ 3072) (h : Rel T S) (hk : ∀ S2, Rel T S2 → ∃ r, G r ∧ Ry (xRoL L xs F) xNo (yKx T) z 690 mL_law 2010 (lsL i) [] S2 r) : ∃ r, G r ∧ Ry (xRoL L xs F) xNo (yKx T) z 690 mL_law 364 (lsL i) [] S r := by
  obtain ⟨q, S1, S2, e1, e2, e3⟩ := pm_feed h (N := 2000000) (Nat.le_refl _) (xs (i + 1)) (xs (i + 2)) (xs (i + 3)) (xs (i + 4)) (xs (i + 5))
  obtain ⟨r, hr, kr⟩ := hk S2 e3
  refine ⟨r, hr, ?_⟩
  refine ry_step rfl rfl ?_
  refine ry_arg (c := 1) (by omega) hL rfl rfl rfl rfl rfl ?_
  refine ry_arg (c := 2) (by omega) hL rfl rfl rfl rfl rfl ?_
  refine ry_arg (c := 3) (by omega) hL rfl rfl rfl rfl rfl ?_
  refine ry_arg (c := 4) (by omega) hL rfl rfl rfl rfl rfl ?_
  refine ry_arg (c := 5) (by omega) hL rfl rfl rfl rfl rfl ?_
  refine ry_call rfl rfl rfl rfl rfl (yEv_le (by decide) (tX11_feed (d := 0) e1)) ?_
  refine ry_step rfl rfl ?_
  refine ry_arg (c := 1) (by omega) hL rfl rfl rfl rfl rfl ?_
  refine ry_arg (c := 2) (by omega) hL rfl rfl rfl rfl rfl ?_
  refine ry_arg (c := 3) (by omega) hL rfl rfl rfl rfl rfl ?_
  refine ry_arg (c := 4) (by omega) hL rfl rfl rfl rfl rfl ?_
  refine ry_arg (c := 5) (by omega) hL rfl rfl rfl rfl rfl ?_
  refine ry_call rfl rfl rfl rfl rfl (yEv_le (by decide) (tX12_feed (d := 0) e2)) ?_
  exact ry_step rfl rfl (ry_if (fun _ => kr) (fun hn => absurd rfl hn))
set_option maxRecDepth 4000 in
theorem lv_end (hb : i + 6 ≤ L) (hL : L ≤ 3072) (h : Rel T S) (hk : ∀ S2, Rel T S2 → ∃ r, G r ∧ Ry (xRoL L xs F) xNo (yKx T) z 690 mL_law 2010 (lsL i) [] S2 r) : ∃ r, G r ∧ Ry (xRoL L xs F) xNo (yKx T) z 690 mL_law 427 (lsL i) [] S r := by
  obtain ⟨q, S1, S2, e1, e2, e3⟩ := pm_end h (xs (i + 1))
  obtain ⟨r, hr, kr⟩ := hk S2 e3
  refine ⟨r, hr, ?_⟩
  refine ry_step rfl rfl ?_
  refine ry_arg (c := 1) (by omega) hL rfl rfl rfl rfl rfl ?_
  refine ry_call rfl rfl rfl rfl rfl (yEv_le (by decide) (tX11_end (d := 0) e1)) ?_
  refine ry_step rfl rfl ?_
  refine ry_arg (c := 1) (by omega) hL rfl rfl rfl rfl rfl ?_
  refine ry_call rfl rfl rfl rfl rfl (yEv_le (by decide) (tX12_end (d := 0) e2)) ?_
  exact ry_step rfl rfl (ry_if (fun _ => kr) (fun hn => absurd rfl hn))
set_option maxRecDepth 4000 in
theorem lv_fault (hb : i + 6 ≤ L) (hL : L ≤ 3072) (h : Rel T S) (hk : ∀ S2, Rel T S2 → ∃ r, G r ∧ Ry (xRoL L xs F) xNo (yKx T) z 690 mL_law 2010 (lsL i) [] S2 r) : ∃ r, G r ∧ Ry (xRoL L xs F) xNo (yKx T) z 690 mL_law 463 (lsL i) [] S r := by
  obtain ⟨q, e1, e2⟩ := pm_fault h (xs (i + 1))
  obtain ⟨r, hr, kr⟩ := hk S h
  refine ⟨r, hr, ?_⟩
  refine ry_step rfl rfl ?_
  refine ry_arg (c := 1) (by omega) hL rfl rfl rfl rfl rfl ?_
  refine ry_call rfl rfl rfl rfl rfl (yEv_le (by decide) (tX11_fault (d := 0) e1)) ?_
  refine ry_step rfl rfl ?_
  refine ry_arg (c := 1) (by omega) hL rfl rfl rfl rfl rfl ?_
  refine ry_call rfl rfl rfl rfl rfl (yEv_le (by decide) (tX12_fault (d := 0) e2)) ?_
  exact ry_step rfl rfl (ry_if (fun _ => kr) (fun hn => absurd rfl hn))
set_option maxRecDepth 4000 in
theorem lv_by (hb : i + 6 ≤ L) (hL : L ≤ 3072) (h : Rel T S) (hk : ∀ S2, Rel T S2 → ∃ r, G r ∧ Ry (xRoL L xs F) xNo (yKx T) z 690 mL_law 2010 (lsL i) [] S2 r) : ∃ r, G r ∧ Ry (xRoL L xs F) xNo (yKx T) z 690 mL_law 486 (lsL i) [] S r := by
  obtain ⟨q, S1, S2, e1, e2, e3⟩ := pm_by h (xs (i + 1))
  obtain ⟨r, hr, kr⟩ := hk S2 e3
  refine ⟨r, hr, ?_⟩
  refine ry_step rfl rfl ?_
  refine ry_arg (c := 1) (by omega) hL rfl rfl rfl rfl rfl ?_
  refine ry_call rfl rfl rfl rfl rfl (yEv_le (by decide) (tX11_by (d := 0) e1)) ?_
  refine ry_step rfl rfl ?_
  refine ry_arg (c := 1) (by omega) hL rfl rfl rfl rfl rfl ?_
  refine ry_call rfl rfl rfl rfl rfl (yEv_le (by decide) (tX12_by (d := 0) e2)) ?_
  exact ry_step rfl rfl (ry_if (fun _ => kr) (fun hn => absurd rfl hn))
set_option maxRecDepth 4000 in
theorem lv_thin (hb : i + 6 ≤ L) (hL : L ≤ 3072) (h : Rel T S) (hk : ∀ S2, Rel T S2 → ∃ r, G r ∧ Ry (xRoL L xs F) xNo (yKx T) z 690 mL_law 2010 (lsL i) [] S2 r) : ∃ r, G r ∧ Ry (xRoL L xs F) xNo (yKx T) z 690 mL_law 509 (lsL i) [] S r := by
  obtain ⟨q, S1, S2, e1, e2, e3⟩ := pm_thin h (N := 2000000) (Nat.le_refl _) (xs (i + 1))
  obtain ⟨r, hr, kr⟩ := hk S2 e3
  refine ⟨r, hr, ?_⟩
  refine ry_step rfl rfl ?_
  refine ry_arg (c := 1) (by omega) hL rfl rfl rfl rfl rfl ?_
  refine ry_call rfl rfl rfl rfl rfl (yEv_le (by decide) (tX11_thin (d := 0) e1)) ?_
  refine ry_step rfl rfl ?_
  refine ry_arg (c := 1) (by omega) hL rfl rfl rfl rfl rfl ?_
  refine ry_call rfl rfl rfl rfl rfl (yEv_le (by decide) (tX12_thin (d := 0) e2)) ?_
  exact ry_step rfl rfl (ry_if (fun _ => kr) (fun hn => absurd rfl hn))
set_option maxRecDepth 4000 in
theorem lv_call (hb : i + 6 ≤ L) (hL : L ≤ 3072) (h : Rel T S) (hk : ∀ S2, Rel T S2 → ∃ r, G r ∧ Ry (xRoL L xs F) xNo (yKx T) z 690 mL_law 2010 (lsL i) [] S2 r) : ∃ r, G r ∧ Ry (xRoL L xs F) xNo (yKx T) z 690 mL_law 532 (lsL i) [] S r := by
  obtain ⟨q, S1, S2, e1, e2, e3⟩ := pm_call h (N := 2000000) (Nat.le_refl _) (xs (i + 1))
  obtain ⟨r, hr, kr⟩ := hk S2 e3
  refine ⟨r, hr, ?_⟩
  refine ry_step rfl rfl ?_
  refine ry_arg (c := 1) (by omega) hL rfl rfl rfl rfl rfl ?_
  refine ry_call rfl rfl rfl rfl rfl (yEv_le (by decide) (tX11_call (d := 0) e1)) ?_
  refine ry_step rfl rfl ?_
  refine ry_arg (c := 1) (by omega) hL rfl rfl rfl rfl rfl ?_
  refine ry_call rfl rfl rfl rfl rfl (yEv_le (by decide) (tX12_call (d := 0) e2)) ?_
  exact ry_step rfl rfl (ry_if (fun _ => kr) (fun hn => absurd rfl hn))
set_option maxRecDepth 4000 in
theorem lv_grant (hb : i + 6 ≤ L) (hL : L ≤ 3072) (h : Rel T S) (hk : ∀ S2, Rel T S2 → ∃ r, G r ∧ Ry (xRoL L xs F) xNo (yKx T) z 690 mL_law 2010 (lsL i) [] S2 r) : ∃ r, G r ∧ Ry (xRoL L xs F) xNo (yKx T) z 690 mL_law 555 (lsL i) [] S r := by
  obtain ⟨q, S1, S2, e1, e2, e3⟩ := pm_grant h (N := 2000000) (Nat.le_refl _) (xs (i + 1))
  obtain ⟨r, hr, kr⟩ := hk S2 e3
  refine ⟨r, hr, ?_⟩
  refine ry_step rfl rfl ?_
  refine ry_arg (c := 1) (by omega) hL rfl rfl rfl rfl rfl ?_
  refine ry_call rfl rfl rfl rfl rfl (yEv_le (by decide) (tX11_grant (d := 0) e1)) ?_
  refine ry_step rfl rfl ?_
  refine ry_arg (c := 1) (by omega) hL rfl rfl rfl rfl rfl ?_
  refine ry_call rfl rfl rfl rfl rfl (yEv_le (by decide) (tX12_grant (d := 0) e2)) ?_
  exact ry_step rfl rfl (ry_if (fun _ => kr) (fun hn => absurd rfl hn))
set_option maxRecDepth 4000 in
theorem lv_day (hb : i + 6 ≤ L) (hL : L ≤ 3072) (h : Rel T S) (hk : ∀ S2, Rel T S2 → ∃ r, G r ∧ Ry (xRoL L xs F) xNo (yKx T) z 690 mL_law 2010 (lsL i) [] S2 r) : ∃ r, G r ∧ Ry (xRoL L xs F) xNo (yKx T) z 690 mL_law 578 (lsL i) [] S r := by
  obtain ⟨q, S1, S2, e1, e2, e3⟩ := pm_day h (N := 2000000) (Nat.le_refl _) (xs (i + 1))
  obtain ⟨r, hr, kr⟩ := hk S2 e3
  refine ⟨r, hr, ?_⟩
  refine ry_step rfl rfl ?_
  refine ry_arg (c := 1) (by omega) hL rfl rfl rfl rfl rfl ?_
  refine ry_call rfl rfl rfl rfl rfl (yEv_le (by decide) (tX11_day (d := 0) e1)) ?_
  refine ry_step rfl rfl ?_
  refine ry_arg (c := 1) (by omega) hL rfl rfl rfl rfl rfl ?_
  refine ry_call rfl rfl rfl rfl rfl (yEv_le (by decide) (tX12_day (d := 0) e2)) ?_
  exact ry_step rfl rfl (ry_if (fun _ => kr) (fun hn => absurd rfl hn))
set_option maxRecDepth 4000 in
theorem lv_played (hb : i + 6 ≤ L) (hL : L ≤ 3072) (h : Rel T S) (hk : ∀ S2, Rel T S2 → ∃ r, G r ∧ Ry (xRoL L xs F) xNo (yKx T) z 690 mL_law 2010 (lsL i) [] S2 r) : ∃ r, G r ∧ Ry (xRoL L xs F) xNo (yKx T) z 690 mL_law 601 (lsL i) [] S r := by
  obtain ⟨q, S1, S2, e1, e2, e3⟩ := pm_played h (N := 2000000) (Nat.le_refl _) (xs (i + 1))
  obtain ⟨r, hr, kr⟩ := hk S2 e3
  refine ⟨r, hr, ?_⟩
  refine ry_step rfl rfl ?_
  refine ry_arg (c := 1) (by omega) hL rfl rfl rfl rfl rfl ?_
  refine ry_call rfl rfl rfl rfl rfl (yEv_le (by decide) (tX11_played (d := 0) e1)) ?_
  refine ry_step rfl rfl ?_
  refine ry_arg (c := 1) (by omega) hL rfl rfl rfl rfl rfl ?_
  refine ry_call rfl rfl rfl rfl rfl (yEv_le (by decide) (tX12_played (d := 0) e2)) ?_
  exact ry_step rfl rfl (ry_if (fun _ => kr) (fun hn => absurd rfl hn))
set_option maxRecDepth 4000 in
theorem lv_years (hb : i + 6 ≤ L) (hL : L ≤ 3072) (h : Rel T S) (hk : ∀ S2, Rel T S2 → ∃ r, G r ∧ Ry (xRoL L xs F) xNo (yKx T) z 690 mL_law 2010 (lsL i) [] S2 r) : ∃ r, G r ∧ Ry (xRoL L xs F) xNo (yKx T) z 690 mL_law 624 (lsL i) [] S r := by
  obtain ⟨q, S1, S2, e1, e2, e3⟩ := pm_years h (N := 2000000) (Nat.le_refl _) (xs (i + 1)) (xs (i + 2))
  obtain ⟨r, hr, kr⟩ := hk S2 e3
  refine ⟨r, hr, ?_⟩
  refine ry_step rfl rfl ?_
  refine ry_arg (c := 1) (by omega) hL rfl rfl rfl rfl rfl ?_
  refine ry_arg (c := 2) (by omega) hL rfl rfl rfl rfl rfl ?_
  refine ry_call rfl rfl rfl rfl rfl (yEv_le (by decide) (tX11_years (d := 0) e1)) ?_
  refine ry_step rfl rfl ?_
  refine ry_arg (c := 1) (by omega) hL rfl rfl rfl rfl rfl ?_
  refine ry_arg (c := 2) (by omega) hL rfl rfl rfl rfl rfl ?_
  refine ry_call rfl rfl rfl rfl rfl (yEv_le (by decide) (tX12_years (d := 0) e2)) ?_
  exact ry_step rfl rfl (ry_if (fun _ => kr) (fun hn => absurd rfl hn))
set_option maxRecDepth 4000 in
theorem lv_undo (hb : i + 6 ≤ L) (hL : L ≤ 3072) (h : Rel T S) (hk : ∀ S2, Rel T S2 → ∃ r, G r ∧ Ry (xRoL L xs F) xNo (yKx T) z 690 mL_law 2010 (lsL i) [] S2 r) : ∃ r, G r ∧ Ry (xRoL L xs F) xNo (yKx T) z 690 mL_law 657 (lsL i) [] S r := by
  obtain ⟨q, S1, S2, e1, e2, e3⟩ := pm_undo h (N := 2000000) (Nat.le_refl _)
  obtain ⟨r, hr, kr⟩ := hk S2 e3
  refine ⟨r, hr, ?_⟩
  refine ry_step rfl rfl ?_
  refine ry_call rfl rfl rfl rfl rfl (yEv_le (by decide) (tX11_undo (d := 0) e1)) ?_
  refine ry_step rfl rfl ?_
  refine ry_call rfl rfl rfl rfl rfl (yEv_le (by decide) (tX12_undo (d := 0) e2)) ?_
  exact ry_step rfl rfl (ry_if (fun _ => kr) (fun hn => absurd rfl hn))
set_option maxRecDepth 4000 in
theorem lv_of (hb : i + 6 ≤ L) (hL : L ≤ 3072) (h : Rel T S) (hk : ∀ S2, Rel T S2 → ∃ r, G r ∧ Ry (xRoL L xs F) xNo (yKx T) z 690 mL_law 2010 (lsL i) [] S2 r) : ∃ r, G r ∧ Ry (xRoL L xs F) xNo (yKx T) z 690 mL_law 670 (lsL i) [] S r := by
  obtain ⟨q, S1, S2, e1, e2, e3⟩ := pm_of h (N := 2000000) (Nat.le_refl _) (xs (i + 1)) (xs (i + 2))
  obtain ⟨r, hr, kr⟩ := hk S2 e3
  refine ⟨r, hr, ?_⟩
  refine ry_step rfl rfl ?_
  refine ry_arg (c := 1) (by omega) hL rfl rfl rfl rfl rfl ?_
  refine ry_arg (c := 2) (by omega) hL rfl rfl rfl rfl rfl ?_
  refine ry_call rfl rfl rfl rfl rfl (yEv_le (by decide) (tX11_of (d := 0) e1)) ?_
  refine ry_step rfl rfl ?_
  refine ry_arg (c := 1) (by omega) hL rfl rfl rfl rfl rfl ?_
  refine ry_arg (c := 2) (by omega) hL rfl rfl rfl rfl rfl ?_
  refine ry_call rfl rfl rfl rfl rfl (yEv_le (by decide) (tX12_of (d := 0) e2)) ?_
  exact ry_step rfl rfl (ry_if (fun _ => kr) (fun hn => absurd rfl hn))
set_option maxRecDepth 4000 in
theorem lv_is (hb : i + 6 ≤ L) (hL : L ≤ 3072) (h : Rel T S) (hk : ∀ S2, Rel T S2 → ∃ r, G r ∧ Ry (xRoL L xs F) xNo (yKx T) z 690 mL_law 2010 (lsL i) [] S2 r) : ∃ r, G r ∧ Ry (xRoL L xs F) xNo (yKx T) z 690 mL_law 703 (lsL i) [] S r := by
  obtain ⟨q, e1, e2⟩ := pm_is h (xs (i + 1))
  obtain ⟨r, hr, kr⟩ := hk S h
  refine ⟨r, hr, ?_⟩
  refine ry_step rfl rfl ?_
  refine ry_arg (c := 1) (by omega) hL rfl rfl rfl rfl rfl ?_
  refine ry_call rfl rfl rfl rfl rfl (yEv_le (by decide) (tX11_is (d := 0) e1)) ?_
  refine ry_step rfl rfl ?_
  refine ry_arg (c := 1) (by omega) hL rfl rfl rfl rfl rfl ?_
  refine ry_call rfl rfl rfl rfl rfl (yEv_le (by decide) (tX12_is (d := 0) e2)) ?_
  exact ry_step rfl rfl (ry_if (fun _ => kr) (fun hn => absurd rfl hn))
set_option maxRecDepth 4000 in
theorem lv_things (hb : i + 6 ≤ L) (hL : L ≤ 3072) (h : Rel T S) (hk : ∀ S2, Rel T S2 → ∃ r, G r ∧ Ry (xRoL L xs F) xNo (yKx T) z 690 mL_law 2010 (lsL i) [] S2 r) : ∃ r, G r ∧ Ry (xRoL L xs F) xNo (yKx T) z 690 mL_law 726 (lsL i) [] S r := by
  obtain ⟨q, e1, e2⟩ := pm_things h (xs (i + 1))
  obtain ⟨r, hr, kr⟩ := hk S h
  refine ⟨r, hr, ?_⟩
  refine ry_step rfl rfl ?_
  refine ry_arg (c := 1) (by omega) hL rfl rfl rfl rfl rfl ?_
  refine ry_call rfl rfl rfl rfl rfl (yEv_le (by decide) (tX11_things (d := 0) e1)) ?_
  refine ry_step rfl rfl ?_
  refine ry_arg (c := 1) (by omega) hL rfl rfl rfl rfl rfl ?_
  refine ry_call rfl rfl rfl rfl rfl (yEv_le (by decide) (tX12_things (d := 0) e2)) ?_
  exact ry_step rfl rfl (ry_if (fun _ => kr) (fun hn => absurd rfl hn))
set_option maxRecDepth 4000 in
theorem lv_brings (hb : i + 6 ≤ L) (hL : L ≤ 3072) (h : Rel T S) (hk : ∀ S2, Rel T S2 → ∃ r, G r ∧ Ry (xRoL L xs F) xNo (yKx T) z 690 mL_law 2010 (lsL i) [] S2 r) : ∃ r, G r ∧ Ry (xRoL L xs F) xNo (yKx T) z 690 mL_law 749 (lsL i) [] S r := by
  obtain ⟨q, S1, S2, e1, e2, e3⟩ := pm_brings h (N := 2000000) (Nat.le_refl _) (xs (i + 1))
  obtain ⟨r, hr, kr⟩ := hk S2 e3
  refine ⟨r, hr, ?_⟩
  refine ry_step rfl rfl ?_
  refine ry_arg (c := 1) (by omega) hL rfl rfl rfl rfl rfl ?_
  refine ry_call rfl rfl rfl rfl rfl (yEv_le (by decide) (tX11_brings (d := 0) e1)) ?_
  refine ry_step rfl rfl ?_
  refine ry_arg (c := 1) (by omega) hL rfl rfl rfl rfl rfl ?_
  refine ry_call rfl rfl rfl rfl rfl (yEv_le (by decide) (tX12_brings (d := 0) e2)) ?_
  exact ry_step rfl rfl (ry_if (fun _ => kr) (fun hn => absurd rfl hn))
set_option maxRecDepth 4000 in
theorem lv_book (hb : i + 6 ≤ L) (hL : L ≤ 3072) (h : Rel T S) (hk : ∀ S2, Rel T S2 → ∃ r, G r ∧ Ry (xRoL L xs F) xNo (yKx T) z 690 mL_law 2010 (lsL i) [] S2 r) : ∃ r, G r ∧ Ry (xRoL L xs F) xNo (yKx T) z 690 mL_law 772 (lsL i) [] S r := by
  obtain ⟨q, e1, e2⟩ := pm_book h (xs (i + 1)) (xs (i + 2))
  obtain ⟨r, hr, kr⟩ := hk S h
  refine ⟨r, hr, ?_⟩
  refine ry_step rfl rfl ?_
  refine ry_arg (c := 1) (by omega) hL rfl rfl rfl rfl rfl ?_
  refine ry_arg (c := 2) (by omega) hL rfl rfl rfl rfl rfl ?_
  refine ry_call rfl rfl rfl rfl rfl (yEv_le (by decide) (tX11_book (d := 0) e1)) ?_
  refine ry_step rfl rfl ?_
  refine ry_arg (c := 1) (by omega) hL rfl rfl rfl rfl rfl ?_
  refine ry_arg (c := 2) (by omega) hL rfl rfl rfl rfl rfl ?_
  refine ry_call rfl rfl rfl rfl rfl (yEv_le (by decide) (tX12_book (d := 0) e2)) ?_
  exact ry_step rfl rfl (ry_if (fun _ => kr) (fun hn => absurd rfl hn))
set_option maxRecDepth 4000 in
theorem lv_foretold (hb : i + 6 ≤ L) (hL : L ≤ 3072) (h : Rel T S) (hk : ∀ S2, Rel T S2 → ∃ r, G r ∧ Ry (xRoL L xs F) xNo (yKx T) z 690 mL_law 2010 (lsL i) [] S2 r) : ∃ r, G r ∧ Ry (xRoL L xs F) xNo (yKx T) z 690 mL_law 805 (lsL i) [] S r := by
  obtain ⟨q, S1, S2, e1, e2, e3⟩ := pm_foretold h (N := 2000000) (Nat.le_refl _) (xs (i + 1)) (xs (i + 2))
  obtain ⟨r, hr, kr⟩ := hk S2 e3
  refine ⟨r, hr, ?_⟩
  refine ry_step rfl rfl ?_
  refine ry_arg (c := 1) (by omega) hL rfl rfl rfl rfl rfl ?_
  refine ry_arg (c := 2) (by omega) hL rfl rfl rfl rfl rfl ?_
  refine ry_call rfl rfl rfl rfl rfl (yEv_le (by decide) (tX11_foretold (d := 0) e1)) ?_
  refine ry_step rfl rfl ?_
  refine ry_arg (c := 1) (by omega) hL rfl rfl rfl rfl rfl ?_
  refine ry_arg (c := 2) (by omega) hL rfl rfl rfl rfl rfl ?_
  refine ry_call rfl rfl rfl rfl rfl (yEv_le (by decide) (tX12_foretold (d := 0) e2)) ?_
  exact ry_step rfl rfl (ry_if (fun _ => kr) (fun hn => absurd rfl hn))
set_option maxRecDepth 4000 in
theorem lv_likely (hb : i + 6 ≤ L) (hL : L ≤ 3072) (h : Rel T S) (hk : ∀ S2, Rel T S2 → ∃ r, G r ∧ Ry (xRoL L xs F) xNo (yKx T) z 690 mL_law 2010 (lsL i) [] S2 r) : ∃ r, G r ∧ Ry (xRoL L xs F) xNo (yKx T) z 690 mL_law 838 (lsL i) [] S r := by
  obtain ⟨q, S1, S2, e1, e2, e3⟩ := pm_likely h (N := 2000000) (Nat.le_refl _) (xs (i + 1)) (z := if xs (i + 2) = 0 then 0 else 1) (bz (xs (i + 2)))
  obtain ⟨r, hr, kr⟩ := hk S2 e3
  refine ⟨r, hr, ?_⟩
  refine ry_step rfl rfl ?_
  refine ry_arg (c := 1) (by omega) hL rfl rfl rfl rfl rfl ?_
  refine ry_arg (c := 2) (by omega) hL rfl rfl rfl rfl rfl ?_
  refine ry_bool rfl rfl rfl rfl rfl rfl ?_
  refine ry_call rfl rfl rfl rfl rfl (yEv_le (by decide) (tX11_likely (d := 0) e1)) ?_
  refine ry_step rfl rfl ?_
  refine ry_arg (c := 1) (by omega) hL rfl rfl rfl rfl rfl ?_
  refine ry_arg (c := 2) (by omega) hL rfl rfl rfl rfl rfl ?_
  refine ry_bool rfl rfl rfl rfl rfl rfl ?_
  refine ry_call rfl rfl rfl rfl rfl (yEv_le (by decide) (tX12_likely (d := 0) e2)) ?_
  exact ry_step rfl rfl (ry_step rfl rfl (ry_if (fun _ => kr) (fun hn => absurd (lg_self q) hn)))
set_option maxRecDepth 4000 in
theorem lv_mean (hb : i + 6 ≤ L) (hL : L ≤ 3072) (h : Rel T S) (hk : ∀ S2, Rel T S2 → ∃ r, G r ∧ Ry (xRoL L xs F) xNo (yKx T) z 690 mL_law 2010 (lsL i) [] S2 r) : ∃ r, G r ∧ Ry (xRoL L xs F) xNo (yKx T) z 690 mL_law 888 (lsL i) [] S r := by
  obtain ⟨q, S1, S2, e1, e2, e3⟩ := pm_mean h (N := 2000000) (Nat.le_refl _) (z := if xs (i + 1) = 0 then 0 else 1) (bz (xs (i + 1)))
  obtain ⟨r, hr, kr⟩ := hk S2 e3
  refine ⟨r, hr, ?_⟩
  refine ry_step rfl rfl ?_
  refine ry_arg (c := 1) (by omega) hL rfl rfl rfl rfl rfl ?_
  refine ry_bool rfl rfl rfl rfl rfl rfl ?_
  refine ry_call rfl rfl rfl rfl rfl (yEv_le (by decide) (tX11_mean (d := 0) e1)) ?_
  refine ry_step rfl rfl ?_
  refine ry_arg (c := 1) (by omega) hL rfl rfl rfl rfl rfl ?_
  refine ry_bool rfl rfl rfl rfl rfl rfl ?_
  refine ry_call rfl rfl rfl rfl rfl (yEv_le (by decide) (tX12_mean (d := 0) e2)) ?_
  exact ry_step rfl rfl (ry_step rfl rfl (ry_if (fun _ => kr) (fun hn => absurd (lg_self q) hn)))
set_option maxRecDepth 4000 in
theorem lv_best (hb : i + 6 ≤ L) (hL : L ≤ 3072) (h : Rel T S) (hk : ∀ S2, Rel T S2 → ∃ r, G r ∧ Ry (xRoL L xs F) xNo (yKx T) z 690 mL_law 2010 (lsL i) [] S2 r) : ∃ r, G r ∧ Ry (xRoL L xs F) xNo (yKx T) z 690 mL_law 928 (lsL i) [] S r := by
  obtain ⟨q, S1, S2, e1, e2, e3⟩ := pm_best h (N := 2000000) (Nat.le_refl _) (xs (i + 1)) (z := if xs (i + 2) = 0 then 0 else 1) (bz (xs (i + 2)))
  obtain ⟨r, hr, kr⟩ := hk S2 e3
  refine ⟨r, hr, ?_⟩
  refine ry_step rfl rfl ?_
  refine ry_arg (c := 1) (by omega) hL rfl rfl rfl rfl rfl ?_
  refine ry_arg (c := 2) (by omega) hL rfl rfl rfl rfl rfl ?_
  refine ry_bool rfl rfl rfl rfl rfl rfl ?_
  refine ry_call rfl rfl rfl rfl rfl (yEv_le (by decide) (tX11_best (d := 0) e1)) ?_
  refine ry_step rfl rfl ?_
  refine ry_arg (c := 1) (by omega) hL rfl rfl rfl rfl rfl ?_
  refine ry_arg (c := 2) (by omega) hL rfl rfl rfl rfl rfl ?_
  refine ry_bool rfl rfl rfl rfl rfl rfl ?_
  refine ry_call rfl rfl rfl rfl rfl (yEv_le (by decide) (tX12_best (d := 0) e2)) ?_
  exact ry_step rfl rfl (ry_if (fun _ => kr) (fun hn => absurd rfl hn))
set_option maxRecDepth 4000 in
theorem lv_morning (hb : i + 6 ≤ L) (hL : L ≤ 3072) (h : Rel T S) (hk : ∀ S2, Rel T S2 → ∃ r, G r ∧ Ry (xRoL L xs F) xNo (yKx T) z 690 mL_law 2010 (lsL i) [] S2 r) : ∃ r, G r ∧ Ry (xRoL L xs F) xNo (yKx T) z 690 mL_law 977 (lsL i) [] S r := by
  obtain ⟨q, S1, S2, e1, e2, e3⟩ := pm_morning h (xs (i + 1)) (Int32.ofInt (if xs (i + 2) = 0 then 0 else 1)) (bv (xs (i + 2)))
  obtain ⟨r, hr, kr⟩ := hk S2 e3
  refine ⟨r, hr, ?_⟩
  refine ry_step rfl rfl ?_
  refine ry_arg (c := 1) (by omega) hL rfl rfl rfl rfl rfl ?_
  refine ry_arg (c := 2) (by omega) hL rfl rfl rfl rfl rfl ?_
  refine ry_bool rfl rfl rfl rfl rfl rfl ?_
  refine ry_call rfl rfl rfl rfl rfl (yEv_le (by decide) (tX11_morning (d := 0) e1)) ?_
  refine ry_step rfl rfl ?_
  refine ry_arg (c := 1) (by omega) hL rfl rfl rfl rfl rfl ?_
  refine ry_arg (c := 2) (by omega) hL rfl rfl rfl rfl rfl ?_
  refine ry_bool rfl rfl rfl rfl rfl rfl ?_
  refine ry_call rfl rfl rfl rfl rfl (yEv_le (by decide) (tX12_morning (d := 0) e2)) ?_
  exact ry_step rfl rfl (ry_if (fun _ => kr) (fun hn => absurd rfl hn))
set_option maxRecDepth 4000 in
theorem lv_habits (hb : i + 6 ≤ L) (hL : L ≤ 3072) (h : Rel T S) (hk : ∀ S2, Rel T S2 → ∃ r, G r ∧ Ry (xRoL L xs F) xNo (yKx T) z 690 mL_law 2010 (lsL i) [] S2 r) : ∃ r, G r ∧ Ry (xRoL L xs F) xNo (yKx T) z 690 mL_law 1026 (lsL i) [] S r := by
  obtain ⟨q, e1, e2⟩ := pm_habits h (N := 2000000) (Nat.le_refl _)
  obtain ⟨r, hr, kr⟩ := hk S h
  refine ⟨r, hr, ?_⟩
  refine ry_step rfl rfl ?_
  refine ry_call rfl rfl rfl rfl rfl (yEv_le (by decide) (tX11_habits (d := 0) e1)) ?_
  refine ry_step rfl rfl ?_
  refine ry_call rfl rfl rfl rfl rfl (yEv_le (by decide) (tX12_habits (d := 0) e2)) ?_
  exact ry_step rfl rfl (ry_if (fun _ => kr) (fun hn => absurd rfl hn))
set_option maxRecDepth 4000 in
theorem lv_habit (hb : i + 6 ≤ L) (hL : L ≤ 3072) (h : Rel T S) (hk : ∀ S2, Rel T S2 → ∃ r, G r ∧ Ry (xRoL L xs F) xNo (yKx T) z 690 mL_law 2010 (lsL i) [] S2 r) : ∃ r, G r ∧ Ry (xRoL L xs F) xNo (yKx T) z 690 mL_law 1039 (lsL i) [] S r := by
  obtain ⟨q, e1, e2⟩ := pm_habit h (N := 2000000) (Nat.le_refl _) (xs (i + 1))
  obtain ⟨r, hr, kr⟩ := hk S h
  refine ⟨r, hr, ?_⟩
  refine ry_step rfl rfl ?_
  refine ry_arg (c := 1) (by omega) hL rfl rfl rfl rfl rfl ?_
  refine ry_call rfl rfl rfl rfl rfl (yEv_le (by decide) (tX11_habit (d := 0) e1)) ?_
  refine ry_step rfl rfl ?_
  refine ry_arg (c := 1) (by omega) hL rfl rfl rfl rfl rfl ?_
  refine ry_call rfl rfl rfl rfl rfl (yEv_le (by decide) (tX12_habit (d := 0) e2)) ?_
  exact ry_step rfl rfl (ry_if (fun _ => kr) (fun hn => absurd rfl hn))
set_option maxRecDepth 4000 in
theorem lv_whom (hb : i + 6 ≤ L) (hL : L ≤ 3072) (h : Rel T S) (hk : ∀ S2, Rel T S2 → ∃ r, G r ∧ Ry (xRoL L xs F) xNo (yKx T) z 690 mL_law 2010 (lsL i) [] S2 r) : ∃ r, G r ∧ Ry (xRoL L xs F) xNo (yKx T) z 690 mL_law 1062 (lsL i) [] S r := by
  obtain ⟨q, e1, e2⟩ := pm_whom h (N := 2000000) (Nat.le_refl _)
  obtain ⟨r, hr, kr⟩ := hk S h
  refine ⟨r, hr, ?_⟩
  refine ry_step rfl rfl ?_
  refine ry_call rfl rfl rfl rfl rfl (yEv_le (by decide) (tX11_whom (d := 0) e1)) ?_
  refine ry_step rfl rfl ?_
  refine ry_call rfl rfl rfl rfl rfl (yEv_le (by decide) (tX12_whom (d := 0) e2)) ?_
  exact ry_step rfl rfl (ry_if (fun _ => kr) (fun hn => absurd rfl hn))
set_option maxRecDepth 4000 in
theorem lv_rota (hb : i + 6 ≤ L) (hL : L ≤ 3072) (h : Rel T S) (hk : ∀ S2, Rel T S2 → ∃ r, G r ∧ Ry (xRoL L xs F) xNo (yKx T) z 690 mL_law 2010 (lsL i) [] S2 r) : ∃ r, G r ∧ Ry (xRoL L xs F) xNo (yKx T) z 690 mL_law 1075 (lsL i) [] S r := by
  obtain ⟨q, e1, e2⟩ := pm_rota h (N := 2000000) (Nat.le_refl _) (xs (i + 1))
  obtain ⟨r, hr, kr⟩ := hk S h
  refine ⟨r, hr, ?_⟩
  refine ry_step rfl rfl ?_
  refine ry_arg (c := 1) (by omega) hL rfl rfl rfl rfl rfl ?_
  refine ry_call rfl rfl rfl rfl rfl (yEv_le (by decide) (tX11_rota (d := 0) e1)) ?_
  refine ry_step rfl rfl ?_
  refine ry_arg (c := 1) (by omega) hL rfl rfl rfl rfl rfl ?_
  refine ry_call rfl rfl rfl rfl rfl (yEv_le (by decide) (tX12_rota (d := 0) e2)) ?_
  exact ry_step rfl rfl (ry_if (fun _ => kr) (fun hn => absurd rfl hn))
set_option maxRecDepth 4000 in
theorem lv_gather (hb : i + 6 ≤ L) (hL : L ≤ 3072) (h : Rel T S) (hk : ∀ S2, Rel T S2 → ∃ r, G r ∧ Ry (xRoL L xs F) xNo (yKx T) z 690 mL_law 2010 (lsL i) [] S2 r) : ∃ r, G r ∧ Ry (xRoL L xs F) xNo (yKx T) z 690 mL_law 1098 (lsL i) [] S r := by
  obtain ⟨q, e1, e2⟩ := pm_gather h (N := 2000000) (Nat.le_refl _)
  obtain ⟨r, hr, kr⟩ := hk S h
  refine ⟨r, hr, ?_⟩
  refine ry_step rfl rfl ?_
  refine ry_call rfl rfl rfl rfl rfl (yEv_le (by decide) (tX11_gather (d := 0) e1)) ?_
  refine ry_step rfl rfl ?_
  refine ry_call rfl rfl rfl rfl rfl (yEv_le (by decide) (tX12_gather (d := 0) e2)) ?_
  exact ry_step rfl rfl (ry_if (fun _ => kr) (fun hn => absurd rfl hn))
set_option maxRecDepth 4000 in
theorem lv_comes (hb : i + 6 ≤ L) (hL : L ≤ 3072) (h : Rel T S) (hk : ∀ S2, Rel T S2 → ∃ r, G r ∧ Ry (xRoL L xs F) xNo (yKx T) z 690 mL_law 2010 (lsL i) [] S2 r) : ∃ r, G r ∧ Ry (xRoL L xs F) xNo (yKx T) z 690 mL_law 1111 (lsL i) [] S r := by
  obtain ⟨q, S1, S2, e1, e2, e3⟩ := pm_comes h (N := 2000000) (Nat.le_refl _) (xs (i + 1))
  obtain ⟨r, hr, kr⟩ := hk S2 e3
  refine ⟨r, hr, ?_⟩
  refine ry_step rfl rfl ?_
  refine ry_arg (c := 1) (by omega) hL rfl rfl rfl rfl rfl ?_
  refine ry_call rfl rfl rfl rfl rfl (yEv_le (by decide) (tX11_comes (d := 0) e1)) ?_
  refine ry_step rfl rfl ?_
  refine ry_arg (c := 1) (by omega) hL rfl rfl rfl rfl rfl ?_
  refine ry_call rfl rfl rfl rfl rfl (yEv_le (by decide) (tX12_comes (d := 0) e2)) ?_
  exact ry_step rfl rfl (ry_if (fun _ => kr) (fun hn => absurd rfl hn))
set_option maxRecDepth 4000 in
theorem lv_follows (hb : i + 6 ≤ L) (hL : L ≤ 3072) (h : Rel T S) (hk : ∀ S2, Rel T S2 → ∃ r, G r ∧ Ry (xRoL L xs F) xNo (yKx T) z 690 mL_law 2010 (lsL i) [] S2 r) : ∃ r, G r ∧ Ry (xRoL L xs F) xNo (yKx T) z 690 mL_law 1134 (lsL i) [] S r := by
  obtain ⟨q, S1, S2, e1, e2, e3⟩ := pm_follows h (xs (i + 1)) (xs (i + 2))
  obtain ⟨r, hr, kr⟩ := hk S2 e3
  refine ⟨r, hr, ?_⟩
  refine ry_step rfl rfl ?_
  refine ry_arg (c := 1) (by omega) hL rfl rfl rfl rfl rfl ?_
  refine ry_arg (c := 2) (by omega) hL rfl rfl rfl rfl rfl ?_
  refine ry_call rfl rfl rfl rfl rfl (yEv_le (by decide) (tX11_follows (d := 0) e1)) ?_
  refine ry_step rfl rfl ?_
  refine ry_arg (c := 1) (by omega) hL rfl rfl rfl rfl rfl ?_
  refine ry_arg (c := 2) (by omega) hL rfl rfl rfl rfl rfl ?_
  refine ry_call rfl rfl rfl rfl rfl (yEv_le (by decide) (tX12_follows (d := 0) e2)) ?_
  exact ry_step rfl rfl (ry_if (fun _ => kr) (fun hn => absurd rfl hn))
set_option maxRecDepth 4000 in
theorem lv_agree (hb : i + 6 ≤ L) (hL : L ≤ 3072) (h : Rel T S) (hk : ∀ S2, Rel T S2 → ∃ r, G r ∧ Ry (xRoL L xs F) xNo (yKx T) z 690 mL_law 2010 (lsL i) [] S2 r) : ∃ r, G r ∧ Ry (xRoL L xs F) xNo (yKx T) z 690 mL_law 1167 (lsL i) [] S r := by
  obtain ⟨q, e1, e2⟩ := pm_agree h (N := 2000000) (Nat.le_refl _)
  obtain ⟨r, hr, kr⟩ := hk S h
  refine ⟨r, hr, ?_⟩
  refine ry_step rfl rfl ?_
  refine ry_call rfl rfl rfl rfl rfl (yEv_le (by decide) (tX11_agree (d := 0) e1)) ?_
  refine ry_step rfl rfl ?_
  refine ry_call rfl rfl rfl rfl rfl (yEv_le (by decide) (tX12_agree (d := 0) e2)) ?_
  exact ry_step rfl rfl (ry_if (fun _ => kr) (fun hn => absurd rfl hn))
set_option maxRecDepth 4000 in
theorem lv_ring (hb : i + 6 ≤ L) (hL : L ≤ 3072) (h : Rel T S) (hk : ∀ S2, Rel T S2 → ∃ r, G r ∧ Ry (xRoL L xs F) xNo (yKx T) z 690 mL_law 2010 (lsL i) [] S2 r) : ∃ r, G r ∧ Ry (xRoL L xs F) xNo (yKx T) z 690 mL_law 1180 (lsL i) [] S r := by
  obtain ⟨q, e1, e2⟩ := pm_ring h (N := 2000000) (Nat.le_refl _) (Int32.ofInt (if xs (i + 1) = 0 then 0 else 1)) (bv (xs (i + 1)))
  obtain ⟨r, hr, kr⟩ := hk S h
  refine ⟨r, hr, ?_⟩
  refine ry_step rfl rfl ?_
  refine ry_arg (c := 1) (by omega) hL rfl rfl rfl rfl rfl ?_
  refine ry_bool rfl rfl rfl rfl rfl rfl ?_
  refine ry_call rfl rfl rfl rfl rfl (yEv_le (by decide) (tX11_ring (d := 0) e1)) ?_
  refine ry_step rfl rfl ?_
  refine ry_arg (c := 1) (by omega) hL rfl rfl rfl rfl rfl ?_
  refine ry_bool rfl rfl rfl rfl rfl rfl ?_
  refine ry_call rfl rfl rfl rfl rfl (yEv_le (by decide) (tX12_ring (d := 0) e2)) ?_
  exact ry_step rfl rfl (ry_if (fun _ => kr) (fun hn => absurd rfl hn))
set_option maxRecDepth 4000 in
theorem lv_till (hb : i + 6 ≤ L) (hL : L ≤ 3072) (h : Rel T S) (hk : ∀ S2, Rel T S2 → ∃ r, G r ∧ Ry (xRoL L xs F) xNo (yKx T) z 690 mL_law 2010 (lsL i) [] S2 r) : ∃ r, G r ∧ Ry (xRoL L xs F) xNo (yKx T) z 690 mL_law 1219 (lsL i) [] S r := by
  obtain ⟨q, e1, e2⟩ := pm_till h (N := 2000000) (Nat.le_refl _) (xs (i + 1))
  obtain ⟨r, hr, kr⟩ := hk S h
  refine ⟨r, hr, ?_⟩
  refine ry_step rfl rfl ?_
  refine ry_arg (c := 1) (by omega) hL rfl rfl rfl rfl rfl ?_
  refine ry_call rfl rfl rfl rfl rfl (yEv_le (by decide) (tX11_till (d := 0) e1)) ?_
  refine ry_step rfl rfl ?_
  refine ry_arg (c := 1) (by omega) hL rfl rfl rfl rfl rfl ?_
  refine ry_call rfl rfl rfl rfl rfl (yEv_le (by decide) (tX12_till (d := 0) e2)) ?_
  exact ry_step rfl rfl (ry_if (fun _ => kr) (fun hn => absurd rfl hn))
set_option maxRecDepth 4000 in
theorem lv_after (hb : i + 6 ≤ L) (hL : L ≤ 3072) (h : Rel T S) (hk : ∀ S2, Rel T S2 → ∃ r, G r ∧ Ry (xRoL L xs F) xNo (yKx T) z 690 mL_law 2010 (lsL i) [] S2 r) : ∃ r, G r ∧ Ry (xRoL L xs F) xNo (yKx T) z 690 mL_law 1242 (lsL i) [] S r := by
  obtain ⟨q, e1, e2⟩ := pm_after h (N := 2000000) (Nat.le_refl _) (xs (i + 1)) (xs (i + 2))
  obtain ⟨r, hr, kr⟩ := hk S h
  refine ⟨r, hr, ?_⟩
  refine ry_step rfl rfl ?_
  refine ry_arg (c := 1) (by omega) hL rfl rfl rfl rfl rfl ?_
  refine ry_arg (c := 2) (by omega) hL rfl rfl rfl rfl rfl ?_
  refine ry_call rfl rfl rfl rfl rfl (yEv_le (by decide) (tX11_after (d := 0) e1)) ?_
  refine ry_step rfl rfl ?_
  refine ry_arg (c := 1) (by omega) hL rfl rfl rfl rfl rfl ?_
  refine ry_arg (c := 2) (by omega) hL rfl rfl rfl rfl rfl ?_
  refine ry_call rfl rfl rfl rfl rfl (yEv_le (by decide) (tX12_after (d := 0) e2)) ?_
  exact ry_step rfl rfl (ry_if (fun _ => kr) (fun hn => absurd rfl hn))
set_option maxRecDepth 4000 in
theorem lv_test (hb : i + 6 ≤ L) (hL : L ≤ 3072) (h : Rel T S) (hk : ∀ S2, Rel T S2 → ∃ r, G r ∧ Ry (xRoL L xs F) xNo (yKx T) z 690 mL_law 2010 (lsL i) [] S2 r) : ∃ r, G r ∧ Ry (xRoL L xs F) xNo (yKx T) z 690 mL_law 1275 (lsL i) [] S r := by
  obtain ⟨q, S1, S2, e1, e2, e3⟩ := pm_test h (N := 2000000) (Nat.le_refl _) (xs (i + 1)) (xs (i + 2)) (xs (i + 3)) (Int32.ofInt (if xs (i + 4) = 0 then 0 else 1)) (bv (xs (i + 4)))
  obtain ⟨r, hr, kr⟩ := hk S2 e3
  refine ⟨r, hr, ?_⟩
  refine ry_step rfl rfl ?_
  refine ry_arg (c := 1) (by omega) hL rfl rfl rfl rfl rfl ?_
  refine ry_arg (c := 2) (by omega) hL rfl rfl rfl rfl rfl ?_
  refine ry_arg (c := 3) (by omega) hL rfl rfl rfl rfl rfl ?_
  refine ry_arg (c := 4) (by omega) hL rfl rfl rfl rfl rfl ?_
  refine ry_bool rfl rfl rfl rfl rfl rfl ?_
  refine ry_call rfl rfl rfl rfl rfl (yEv_le (by decide) (tX11_test (d := 0) e1)) ?_
  refine ry_step rfl rfl ?_
  refine ry_arg (c := 1) (by omega) hL rfl rfl rfl rfl rfl ?_
  refine ry_arg (c := 2) (by omega) hL rfl rfl rfl rfl rfl ?_
  refine ry_arg (c := 3) (by omega) hL rfl rfl rfl rfl rfl ?_
  refine ry_arg (c := 4) (by omega) hL rfl rfl rfl rfl rfl ?_
  refine ry_bool rfl rfl rfl rfl rfl rfl ?_
  refine ry_call rfl rfl rfl rfl rfl (yEv_le (by decide) (tX12_test (d := 0) e2)) ?_
  exact ry_step rfl rfl (ry_step rfl rfl (ry_if (fun _ => kr) (fun hn => absurd (lg_self q) hn)))
set_option maxRecDepth 4000 in
theorem lv_bound (hb : i + 6 ≤ L) (hL : L ≤ 3072) (h : Rel T S) (hk : ∀ S2, Rel T S2 → ∃ r, G r ∧ Ry (xRoL L xs F) xNo (yKx T) z 690 mL_law 2010 (lsL i) [] S2 r) : ∃ r, G r ∧ Ry (xRoL L xs F) xNo (yKx T) z 690 mL_law 1345 (lsL i) [] S r := by
  obtain ⟨q, S1, S2, e1, e2, e3⟩ := pm_bound h (N := 2000000) (Nat.le_refl _) (xs (i + 1)) (xs (i + 2))
  obtain ⟨r, hr, kr⟩ := hk S2 e3
  refine ⟨r, hr, ?_⟩
  refine ry_step rfl rfl ?_
  refine ry_arg (c := 1) (by omega) hL rfl rfl rfl rfl rfl ?_
  refine ry_arg (c := 2) (by omega) hL rfl rfl rfl rfl rfl ?_
  refine ry_call rfl rfl rfl rfl rfl (yEv_le (by decide) (tX11_bound (d := 0) e1)) ?_
  refine ry_step rfl rfl ?_
  refine ry_arg (c := 1) (by omega) hL rfl rfl rfl rfl rfl ?_
  refine ry_arg (c := 2) (by omega) hL rfl rfl rfl rfl rfl ?_
  refine ry_call rfl rfl rfl rfl rfl (yEv_le (by decide) (tX12_bound (d := 0) e2)) ?_
  exact ry_step rfl rfl (ry_if (fun _ => kr) (fun hn => absurd rfl hn))
set_option maxRecDepth 4000 in
theorem lv_sure (hb : i + 6 ≤ L) (hL : L ≤ 3072) (h : Rel T S) (hk : ∀ S2, Rel T S2 → ∃ r, G r ∧ Ry (xRoL L xs F) xNo (yKx T) z 690 mL_law 2010 (lsL i) [] S2 r) : ∃ r, G r ∧ Ry (xRoL L xs F) xNo (yKx T) z 690 mL_law 1378 (lsL i) [] S r := by
  obtain ⟨q, S1, S2, e1, e2, e3⟩ := pm_sure h (N := 2000000) (Nat.le_refl _) (xs (i + 1)) (xs (i + 2)) (xs (i + 3)) (Int32.ofInt (if xs (i + 4) = 0 then 0 else 1)) (bv (xs (i + 4)))
  obtain ⟨r, hr, kr⟩ := hk S2 e3
  refine ⟨r, hr, ?_⟩
  refine ry_step rfl rfl ?_
  refine ry_arg (c := 1) (by omega) hL rfl rfl rfl rfl rfl ?_
  refine ry_arg (c := 2) (by omega) hL rfl rfl rfl rfl rfl ?_
  refine ry_arg (c := 3) (by omega) hL rfl rfl rfl rfl rfl ?_
  refine ry_arg (c := 4) (by omega) hL rfl rfl rfl rfl rfl ?_
  refine ry_bool rfl rfl rfl rfl rfl rfl ?_
  refine ry_call rfl rfl rfl rfl rfl (yEv_le (by decide) (tX11_sure (d := 0) e1)) ?_
  refine ry_step rfl rfl ?_
  refine ry_arg (c := 1) (by omega) hL rfl rfl rfl rfl rfl ?_
  refine ry_arg (c := 2) (by omega) hL rfl rfl rfl rfl rfl ?_
  refine ry_arg (c := 3) (by omega) hL rfl rfl rfl rfl rfl ?_
  refine ry_arg (c := 4) (by omega) hL rfl rfl rfl rfl rfl ?_
  refine ry_bool rfl rfl rfl rfl rfl rfl ?_
  refine ry_call rfl rfl rfl rfl rfl (yEv_le (by decide) (tX12_sure (d := 0) e2)) ?_
  exact ry_step rfl rfl (ry_step rfl rfl (ry_if (fun _ => kr) (fun hn => absurd (lg_self q) hn)))
set_option maxRecDepth 4000 in
theorem lv_votes (hb : i + 6 ≤ L) (hL : L ≤ 3072) (h : Rel T S) (hk : ∀ S2, Rel T S2 → ∃ r, G r ∧ Ry (xRoL L xs F) xNo (yKx T) z 690 mL_law 2010 (lsL i) [] S2 r) : ∃ r, G r ∧ Ry (xRoL L xs F) xNo (yKx T) z 690 mL_law 1448 (lsL i) [] S r := by
  obtain ⟨q, S1, S2, e1, e2, e3⟩ := pm_votes h (xs (i + 1)) (xs (i + 2))
  obtain ⟨r, hr, kr⟩ := hk S2 e3
  refine ⟨r, hr, ?_⟩
  refine ry_step rfl rfl ?_
  refine ry_arg (c := 1) (by omega) hL rfl rfl rfl rfl rfl ?_
  refine ry_arg (c := 2) (by omega) hL rfl rfl rfl rfl rfl ?_
  refine ry_call rfl rfl rfl rfl rfl (yEv_le (by decide) (tX11_votes (d := 0) e1)) ?_
  refine ry_step rfl rfl ?_
  refine ry_arg (c := 1) (by omega) hL rfl rfl rfl rfl rfl ?_
  refine ry_arg (c := 2) (by omega) hL rfl rfl rfl rfl rfl ?_
  refine ry_call rfl rfl rfl rfl rfl (yEv_le (by decide) (tX12_votes (d := 0) e2)) ?_
  exact ry_step rfl rfl (ry_if (fun _ => kr) (fun hn => absurd rfl hn))
set_option maxRecDepth 4000 in
theorem lv_seats (hb : i + 6 ≤ L) (hL : L ≤ 3072) (h : Rel T S) (hk : ∀ S2, Rel T S2 → ∃ r, G r ∧ Ry (xRoL L xs F) xNo (yKx T) z 690 mL_law 2010 (lsL i) [] S2 r) : ∃ r, G r ∧ Ry (xRoL L xs F) xNo (yKx T) z 690 mL_law 1481 (lsL i) [] S r := by
  obtain ⟨q, S1, S2, e1, e2, e3⟩ := pm_seats h (N := 2000000) (Nat.le_refl _) (xs (i + 1)) (xs (i + 2)) (Int32.ofInt (if xs (i + 3) = 0 then 0 else 1)) (bv (xs (i + 3)))
  obtain ⟨r, hr, kr⟩ := hk S2 e3
  refine ⟨r, hr, ?_⟩
  refine ry_step rfl rfl ?_
  refine ry_arg (c := 1) (by omega) hL rfl rfl rfl rfl rfl ?_
  refine ry_arg (c := 2) (by omega) hL rfl rfl rfl rfl rfl ?_
  refine ry_arg (c := 3) (by omega) hL rfl rfl rfl rfl rfl ?_
  refine ry_bool rfl rfl rfl rfl rfl rfl ?_
  refine ry_call rfl rfl rfl rfl rfl (yEv_le (by decide) (tX11_seats (d := 0) e1)) ?_
  refine ry_step rfl rfl ?_
  refine ry_arg (c := 1) (by omega) hL rfl rfl rfl rfl rfl ?_
  refine ry_arg (c := 2) (by omega) hL rfl rfl rfl rfl rfl ?_
  refine ry_arg (c := 3) (by omega) hL rfl rfl rfl rfl rfl ?_
  refine ry_bool rfl rfl rfl rfl rfl rfl ?_
  refine ry_call rfl rfl rfl rfl rfl (yEv_le (by decide) (tX12_seats (d := 0) e2)) ?_
  exact ry_step rfl rfl (ry_if (fun _ => kr) (fun hn => absurd rfl hn))
set_option maxRecDepth 4000 in
theorem lv_unlike (hb : i + 6 ≤ L) (hL : L ≤ 3072) (h : Rel T S) (hk : ∀ S2, Rel T S2 → ∃ r, G r ∧ Ry (xRoL L xs F) xNo (yKx T) z 690 mL_law 2010 (lsL i) [] S2 r) : ∃ r, G r ∧ Ry (xRoL L xs F) xNo (yKx T) z 690 mL_law 1540 (lsL i) [] S r := by
  obtain ⟨q, S1, S2, e1, e2, e3⟩ := pm_unlike h (N := 2000000) (Nat.le_refl _) (xs (i + 1))
  obtain ⟨r, hr, kr⟩ := hk S2 e3
  refine ⟨r, hr, ?_⟩
  refine ry_step rfl rfl ?_
  refine ry_arg (c := 1) (by omega) hL rfl rfl rfl rfl rfl ?_
  refine ry_call rfl rfl rfl rfl rfl (yEv_le (by decide) (tX11_unlike (d := 0) e1)) ?_
  refine ry_step rfl rfl ?_
  refine ry_arg (c := 1) (by omega) hL rfl rfl rfl rfl rfl ?_
  refine ry_call rfl rfl rfl rfl rfl (yEv_le (by decide) (tX12_unlike (d := 0) e2)) ?_
  exact ry_step rfl rfl (ry_if (fun _ => kr) (fun hn => absurd rfl hn))
set_option maxRecDepth 4000 in
theorem lv_ranks (hb : i + 6 ≤ L) (hL : L ≤ 3072) (h : Rel T S) (hk : ∀ S2, Rel T S2 → ∃ r, G r ∧ Ry (xRoL L xs F) xNo (yKx T) z 690 mL_law 2010 (lsL i) [] S2 r) : ∃ r, G r ∧ Ry (xRoL L xs F) xNo (yKx T) z 690 mL_law 1563 (lsL i) [] S r := by
  obtain ⟨q, S1, S2, e1, e2, e3⟩ := pm_ranks h (xs (i + 1)) (xs (i + 2))
  obtain ⟨r, hr, kr⟩ := hk S2 e3
  refine ⟨r, hr, ?_⟩
  refine ry_step rfl rfl ?_
  refine ry_arg (c := 1) (by omega) hL rfl rfl rfl rfl rfl ?_
  refine ry_arg (c := 2) (by omega) hL rfl rfl rfl rfl rfl ?_
  refine ry_call rfl rfl rfl rfl rfl (yEv_le (by decide) (tX11_ranks (d := 0) e1)) ?_
  refine ry_step rfl rfl ?_
  refine ry_arg (c := 1) (by omega) hL rfl rfl rfl rfl rfl ?_
  refine ry_arg (c := 2) (by omega) hL rfl rfl rfl rfl rfl ?_
  refine ry_call rfl rfl rfl rfl rfl (yEv_le (by decide) (tX12_ranks (d := 0) e2)) ?_
  exact ry_step rfl rfl (ry_if (fun _ => kr) (fun hn => absurd rfl hn))
set_option maxRecDepth 4000 in
theorem lv_beats (hb : i + 6 ≤ L) (hL : L ≤ 3072) (h : Rel T S) (hk : ∀ S2, Rel T S2 → ∃ r, G r ∧ Ry (xRoL L xs F) xNo (yKx T) z 690 mL_law 2010 (lsL i) [] S2 r) : ∃ r, G r ∧ Ry (xRoL L xs F) xNo (yKx T) z 690 mL_law 1596 (lsL i) [] S r := by
  obtain ⟨q, e1, e2⟩ := pm_beats h (N := 2000000) (Nat.le_refl _) (xs (i + 1)) (xs (i + 2))
  obtain ⟨r, hr, kr⟩ := hk S h
  refine ⟨r, hr, ?_⟩
  refine ry_step rfl rfl ?_
  refine ry_arg (c := 1) (by omega) hL rfl rfl rfl rfl rfl ?_
  refine ry_arg (c := 2) (by omega) hL rfl rfl rfl rfl rfl ?_
  refine ry_call rfl rfl rfl rfl rfl (yEv_le (by decide) (tX11_beats (d := 0) e1)) ?_
  refine ry_step rfl rfl ?_
  refine ry_arg (c := 1) (by omega) hL rfl rfl rfl rfl rfl ?_
  refine ry_arg (c := 2) (by omega) hL rfl rfl rfl rfl rfl ?_
  refine ry_call rfl rfl rfl rfl rfl (yEv_le (by decide) (tX12_beats (d := 0) e2)) ?_
  exact ry_step rfl rfl (ry_if (fun _ => kr) (fun hn => absurd rfl hn))
set_option maxRecDepth 4000 in
theorem lv_winner (hb : i + 6 ≤ L) (hL : L ≤ 3072) (h : Rel T S) (hk : ∀ S2, Rel T S2 → ∃ r, G r ∧ Ry (xRoL L xs F) xNo (yKx T) z 690 mL_law 2010 (lsL i) [] S2 r) : ∃ r, G r ∧ Ry (xRoL L xs F) xNo (yKx T) z 690 mL_law 1629 (lsL i) [] S r := by
  obtain ⟨q, e1, e2⟩ := pm_winner h (N := 2000000) (Nat.le_refl _)
  obtain ⟨r, hr, kr⟩ := hk S h
  refine ⟨r, hr, ?_⟩
  refine ry_step rfl rfl ?_
  refine ry_call rfl rfl rfl rfl rfl (yEv_le (by decide) (tX11_winner (d := 0) e1)) ?_
  refine ry_step rfl rfl ?_
  refine ry_call rfl rfl rfl rfl rfl (yEv_le (by decide) (tX12_winner (d := 0) e2)) ?_
  exact ry_step rfl rfl (ry_if (fun _ => kr) (fun hn => absurd rfl hn))
set_option maxRecDepth 4000 in
theorem lv_points (hb : i + 6 ≤ L) (hL : L ≤ 3072) (h : Rel T S) (hk : ∀ S2, Rel T S2 → ∃ r, G r ∧ Ry (xRoL L xs F) xNo (yKx T) z 690 mL_law 2010 (lsL i) [] S2 r) : ∃ r, G r ∧ Ry (xRoL L xs F) xNo (yKx T) z 690 mL_law 1642 (lsL i) [] S r := by
  obtain ⟨q, e1, e2⟩ := pm_points h (N := 2000000) (Nat.le_refl _) (xs (i + 1))
  obtain ⟨r, hr, kr⟩ := hk S h
  refine ⟨r, hr, ?_⟩
  refine ry_step rfl rfl ?_
  refine ry_arg (c := 1) (by omega) hL rfl rfl rfl rfl rfl ?_
  refine ry_call rfl rfl rfl rfl rfl (yEv_le (by decide) (tX11_points (d := 0) e1)) ?_
  refine ry_step rfl rfl ?_
  refine ry_arg (c := 1) (by omega) hL rfl rfl rfl rfl rfl ?_
  refine ry_call rfl rfl rfl rfl rfl (yEv_le (by decide) (tX12_points (d := 0) e2)) ?_
  exact ry_step rfl rfl (ry_if (fun _ => kr) (fun hn => absurd rfl hn))
set_option maxRecDepth 4000 in
theorem lv_runoff (hb : i + 6 ≤ L) (hL : L ≤ 3072) (h : Rel T S) (hk : ∀ S2, Rel T S2 → ∃ r, G r ∧ Ry (xRoL L xs F) xNo (yKx T) z 690 mL_law 2010 (lsL i) [] S2 r) : ∃ r, G r ∧ Ry (xRoL L xs F) xNo (yKx T) z 690 mL_law 1665 (lsL i) [] S r := by
  obtain ⟨q, e1, e2⟩ := pm_runoff h (N := 2000000) (Nat.le_refl _)
  obtain ⟨r, hr, kr⟩ := hk S h
  refine ⟨r, hr, ?_⟩
  refine ry_step rfl rfl ?_
  refine ry_call rfl rfl rfl rfl rfl (yEv_le (by decide) (tX11_runoff (d := 0) e1)) ?_
  refine ry_step rfl rfl ?_
  refine ry_call rfl rfl rfl rfl rfl (yEv_le (by decide) (tX12_runoff (d := 0) e2)) ?_
  exact ry_step rfl rfl (ry_if (fun _ => kr) (fun hn => absurd rfl hn))
set_option maxRecDepth 4000 in
theorem lv_digits (hb : i + 6 ≤ L) (hL : L ≤ 3072) (h : Rel T S) (hk : ∀ S2, Rel T S2 → ∃ r, G r ∧ Ry (xRoL L xs F) xNo (yKx T) z 690 mL_law 2010 (lsL i) [] S2 r) : ∃ r, G r ∧ Ry (xRoL L xs F) xNo (yKx T) z 690 mL_law 1678 (lsL i) [] S r := by
  obtain ⟨q, S1, S2, e1, e2, e3⟩ := pm_digits h (N := 2000000) (Nat.le_refl _) (xs (i + 1)) (xs (i + 2))
  obtain ⟨r, hr, kr⟩ := hk S2 e3
  refine ⟨r, hr, ?_⟩
  refine ry_step rfl rfl ?_
  refine ry_arg (c := 1) (by omega) hL rfl rfl rfl rfl rfl ?_
  refine ry_arg (c := 2) (by omega) hL rfl rfl rfl rfl rfl ?_
  refine ry_call rfl rfl rfl rfl rfl (yEv_le (by decide) (tX11_digits (d := 0) e1)) ?_
  refine ry_step rfl rfl ?_
  refine ry_arg (c := 1) (by omega) hL rfl rfl rfl rfl rfl ?_
  refine ry_arg (c := 2) (by omega) hL rfl rfl rfl rfl rfl ?_
  refine ry_call rfl rfl rfl rfl rfl (yEv_le (by decide) (tX12_digits (d := 0) e2)) ?_
  exact ry_step rfl rfl (ry_if (fun _ => kr) (fun hn => absurd rfl hn))
set_option maxRecDepth 4000 in
theorem lv_digit (hb : i + 6 ≤ L) (hL : L ≤ 3072) (h : Rel T S) (hk : ∀ S2, Rel T S2 → ∃ r, G r ∧ Ry (xRoL L xs F) xNo (yKx T) z 690 mL_law 2010 (lsL i) [] S2 r) : ∃ r, G r ∧ Ry (xRoL L xs F) xNo (yKx T) z 690 mL_law 1711 (lsL i) [] S r := by
  obtain ⟨q, S1, S2, e1, e2, e3⟩ := pm_digit h (N := 2000000) (Nat.le_refl _) (xs (i + 1)) (xs (i + 2)) (xs (i + 3))
  obtain ⟨r, hr, kr⟩ := hk S2 e3
  refine ⟨r, hr, ?_⟩
  refine ry_step rfl rfl ?_
  refine ry_arg (c := 1) (by omega) hL rfl rfl rfl rfl rfl ?_
  refine ry_arg (c := 2) (by omega) hL rfl rfl rfl rfl rfl ?_
  refine ry_arg (c := 3) (by omega) hL rfl rfl rfl rfl rfl ?_
  refine ry_call rfl rfl rfl rfl rfl (yEv_le (by decide) (tX11_digit (d := 0) e1)) ?_
  refine ry_step rfl rfl ?_
  refine ry_arg (c := 1) (by omega) hL rfl rfl rfl rfl rfl ?_
  refine ry_arg (c := 2) (by omega) hL rfl rfl rfl rfl rfl ?_
  refine ry_arg (c := 3) (by omega) hL rfl rfl rfl rfl rfl ?_
  refine ry_call rfl rfl rfl rfl rfl (yEv_le (by decide) (tX12_digit (d := 0) e2)) ?_
  exact ry_step rfl rfl (ry_if (fun _ => kr) (fun hn => absurd rfl hn))
set_option maxRecDepth 4000 in
theorem lv_depth (hb : i + 6 ≤ L) (hL : L ≤ 3072) (h : Rel T S) (hk : ∀ S2, Rel T S2 → ∃ r, G r ∧ Ry (xRoL L xs F) xNo (yKx T) z 690 mL_law 2010 (lsL i) [] S2 r) : ∃ r, G r ∧ Ry (xRoL L xs F) xNo (yKx T) z 690 mL_law 1754 (lsL i) [] S r := by
  obtain ⟨q, e1, e2⟩ := pm_depth (S := S) (N := 2000000) (Nat.le_refl _) (xs (i + 1)) (xs (i + 2))
  obtain ⟨r, hr, kr⟩ := hk S h
  refine ⟨r, hr, ?_⟩
  refine ry_step rfl rfl ?_
  refine ry_arg (c := 1) (by omega) hL rfl rfl rfl rfl rfl ?_
  refine ry_arg (c := 2) (by omega) hL rfl rfl rfl rfl rfl ?_
  refine ry_call rfl rfl rfl rfl rfl (yEv_le (by decide) (tX11_depth (d := 0) e1)) ?_
  refine ry_step rfl rfl ?_
  refine ry_arg (c := 1) (by omega) hL rfl rfl rfl rfl rfl ?_
  refine ry_arg (c := 2) (by omega) hL rfl rfl rfl rfl rfl ?_
  refine ry_call rfl rfl rfl rfl rfl (yEv_le (by decide) (tX12_depth (d := 0) e2)) ?_
  exact ry_step rfl rfl (ry_if (fun _ => kr) (fun hn => absurd rfl hn))
set_option maxRecDepth 4000 in
theorem lv_rests (hb : i + 6 ≤ L) (hL : L ≤ 3072) (h : Rel T S) (hk : ∀ S2, Rel T S2 → ∃ r, G r ∧ Ry (xRoL L xs F) xNo (yKx T) z 690 mL_law 2010 (lsL i) [] S2 r) : ∃ r, G r ∧ Ry (xRoL L xs F) xNo (yKx T) z 690 mL_law 1787 (lsL i) [] S r := by
  obtain ⟨q, e1, e2⟩ := pm_rests (S := S) (N := 2000000) (Nat.le_refl _) (xs (i + 1))
  obtain ⟨r, hr, kr⟩ := hk S h
  refine ⟨r, hr, ?_⟩
  refine ry_step rfl rfl ?_
  refine ry_arg (c := 1) (by omega) hL rfl rfl rfl rfl rfl ?_
  refine ry_call rfl rfl rfl rfl rfl (yEv_le (by decide) (tX11_rests (d := 0) e1)) ?_
  refine ry_step rfl rfl ?_
  refine ry_arg (c := 1) (by omega) hL rfl rfl rfl rfl rfl ?_
  refine ry_call rfl rfl rfl rfl rfl (yEv_le (by decide) (tX12_rests (d := 0) e2)) ?_
  exact ry_step rfl rfl (ry_if (fun _ => kr) (fun hn => absurd rfl hn))
set_option maxRecDepth 4000 in
theorem lv_game (hb : i + 6 ≤ L) (hL : L ≤ 3072) (h : Rel T S) (hk : ∀ S2, Rel T S2 → ∃ r, G r ∧ Ry (xRoL L xs F) xNo (yKx T) z 690 mL_law 2010 (lsL i) [] S2 r) : ∃ r, G r ∧ Ry (xRoL L xs F) xNo (yKx T) z 690 mL_law 1810 (lsL i) [] S r := by
  obtain ⟨q, S2, e1, e2, e3⟩ := pm_game h (N := 2000000) (Nat.le_refl _) (xs (i + 1))
  obtain ⟨r, hr, kr⟩ := hk S2 e3
  refine ⟨r, hr, ?_⟩
  refine ry_step rfl rfl ?_
  refine ry_arg (c := 1) (by omega) hL rfl rfl rfl rfl rfl ?_
  refine ry_call rfl rfl rfl rfl rfl (yEv_le (by decide) (tX11_game (d := 0) rfl e1)) ?_
  refine ry_step rfl rfl ?_
  refine ry_arg (c := 1) (by omega) hL rfl rfl rfl rfl rfl ?_
  refine ry_call rfl rfl rfl rfl rfl (yEv_le (by decide) (tX12_game (d := 0) e2)) ?_
  exact ry_step rfl rfl (ry_if (fun _ => kr) (fun hn => absurd rfl hn))
set_option maxRecDepth 4000 in
theorem lv_take (hb : i + 6 ≤ L) (hL : L ≤ 3072) (h : Rel T S) (hk : ∀ S2, Rel T S2 → ∃ r, G r ∧ Ry (xRoL L xs F) xNo (yKx T) z 690 mL_law 2010 (lsL i) [] S2 r) : ∃ r, G r ∧ Ry (xRoL L xs F) xNo (yKx T) z 690 mL_law 1833 (lsL i) [] S r := by
  obtain ⟨q, S2, e1, e2, e3⟩ := pm_take h (N := 2000000) (Nat.le_refl _) (xs (i + 1)) (xs (i + 2))
  obtain ⟨r, hr, kr⟩ := hk S2 e3
  refine ⟨r, hr, ?_⟩
  refine ry_step rfl rfl ?_
  refine ry_arg (c := 1) (by omega) hL rfl rfl rfl rfl rfl ?_
  refine ry_arg (c := 2) (by omega) hL rfl rfl rfl rfl rfl ?_
  refine ry_call rfl rfl rfl rfl rfl (yEv_le (by decide) (tX11_take (d := 0) rfl e1)) ?_
  refine ry_step rfl rfl ?_
  refine ry_arg (c := 1) (by omega) hL rfl rfl rfl rfl rfl ?_
  refine ry_arg (c := 2) (by omega) hL rfl rfl rfl rfl rfl ?_
  refine ry_call rfl rfl rfl rfl rfl (yEv_le (by decide) (tX12_take (d := 0) e2)) ?_
  exact ry_step rfl rfl (ry_if (fun _ => kr) (fun hn => absurd rfl hn))
set_option maxRecDepth 4000 in
theorem lv_told (hb : i + 6 ≤ L) (hL : L ≤ 3072) (h : Rel T S) (hk : ∀ S2, Rel T S2 → ∃ r, G r ∧ Ry (xRoL L xs F) xNo (yKx T) z 690 mL_law 2010 (lsL i) [] S2 r) : ∃ r, G r ∧ Ry (xRoL L xs F) xNo (yKx T) z 690 mL_law 1866 (lsL i) [] S r := by
  obtain ⟨q, S1, S2, e1, e2, e3⟩ := pm_told h (xs (i + 1)) (xs (i + 2))
  obtain ⟨r, hr, kr⟩ := hk S2 e3
  refine ⟨r, hr, ?_⟩
  refine ry_step rfl rfl ?_
  refine ry_arg (c := 1) (by omega) hL rfl rfl rfl rfl rfl ?_
  refine ry_arg (c := 2) (by omega) hL rfl rfl rfl rfl rfl ?_
  refine ry_call rfl rfl rfl rfl rfl (yEv_le (by decide) (tX11_told (d := 0) e1)) ?_
  refine ry_step rfl rfl ?_
  refine ry_arg (c := 1) (by omega) hL rfl rfl rfl rfl rfl ?_
  refine ry_arg (c := 2) (by omega) hL rfl rfl rfl rfl rfl ?_
  refine ry_call rfl rfl rfl rfl rfl (yEv_le (by decide) (tX12_told (d := 0) e2)) ?_
  exact ry_step rfl rfl (ry_if (fun _ => kr) (fun hn => absurd rfl hn))
set_option maxRecDepth 4000 in
theorem lv_whose (hb : i + 6 ≤ L) (hL : L ≤ 3072) (h : Rel T S) (hk : ∀ S2, Rel T S2 → ∃ r, G r ∧ Ry (xRoL L xs F) xNo (yKx T) z 690 mL_law 2010 (lsL i) [] S2 r) : ∃ r, G r ∧ Ry (xRoL L xs F) xNo (yKx T) z 690 mL_law 1899 (lsL i) [] S r := by
  obtain ⟨q, S1, S2, e1, e2, e3⟩ := pm_whose h (N := 2000000) (Nat.le_refl _)
  obtain ⟨r, hr, kr⟩ := hk S2 e3
  refine ⟨r, hr, ?_⟩
  refine ry_step rfl rfl ?_
  refine ry_call rfl rfl rfl rfl rfl (yEv_le (by decide) (tX11_whose (d := 0) e1)) ?_
  refine ry_step rfl rfl ?_
  refine ry_call rfl rfl rfl rfl rfl (yEv_le (by decide) (tX12_whose (d := 0) e2)) ?_
  exact ry_step rfl rfl (ry_if (fun _ => kr) (fun hn => absurd rfl hn))
set_option maxRecDepth 4000 in
theorem lv_eldest (hb : i + 6 ≤ L) (hL : L ≤ 3072) (h : Rel T S) (hk : ∀ S2, Rel T S2 → ∃ r, G r ∧ Ry (xRoL L xs F) xNo (yKx T) z 690 mL_law 2010 (lsL i) [] S2 r) : ∃ r, G r ∧ Ry (xRoL L xs F) xNo (yKx T) z 690 mL_law 1912 (lsL i) [] S r := by
  obtain ⟨q, e1, e2⟩ := pm_eldest h (N := 2000000) (Nat.le_refl _)
  obtain ⟨r, hr, kr⟩ := hk S h
  refine ⟨r, hr, ?_⟩
  refine ry_step rfl rfl ?_
  refine ry_call rfl rfl rfl rfl rfl (yEv_le (by decide) (tX11_eldest (d := 0) e1)) ?_
  refine ry_step rfl rfl ?_
  refine ry_call rfl rfl rfl rfl rfl (yEv_le (by decide) (tX12_eldest (d := 0) e2)) ?_
  exact ry_step rfl rfl (ry_if (fun _ => kr) (fun hn => absurd rfl hn))
set_option maxRecDepth 4000 in
theorem lv_due (hb : i + 6 ≤ L) (hL : L ≤ 3072) (h : Rel T S) (hk : ∀ S2, Rel T S2 → ∃ r, G r ∧ Ry (xRoL L xs F) xNo (yKx T) z 690 mL_law 2010 (lsL i) [] S2 r) : ∃ r, G r ∧ Ry (xRoL L xs F) xNo (yKx T) z 690 mL_law 1925 (lsL i) [] S r := by
  obtain ⟨q, e1, e2⟩ := pm_due h (N := 2000000) (Nat.le_refl _)
  obtain ⟨r, hr, kr⟩ := hk S h
  refine ⟨r, hr, ?_⟩
  refine ry_step rfl rfl ?_
  refine ry_call rfl rfl rfl rfl rfl (yEv_le (by decide) (tX11_due (d := 0) e1)) ?_
  refine ry_step rfl rfl ?_
  refine ry_call rfl rfl rfl rfl rfl (yEv_le (by decide) (tX12_due (d := 0) e2)) ?_
  exact ry_step rfl rfl (ry_if (fun _ => kr) (fun hn => absurd rfl hn))
set_option maxRecDepth 4000 in
theorem lv_ledger (hb : i + 6 ≤ L) (hL : L ≤ 3072) (h : Rel T S) (hk : ∀ S2, Rel T S2 → ∃ r, G r ∧ Ry (xRoL L xs F) xNo (yKx T) z 690 mL_law 2010 (lsL i) [] S2 r) : ∃ r, G r ∧ Ry (xRoL L xs F) xNo (yKx T) z 690 mL_law 1938 (lsL i) [] S r := by
  obtain ⟨q, e1, e2⟩ := pm_ledger h (N := 2000000) (Nat.le_refl _) (xs (i + 1))
  obtain ⟨r, hr, kr⟩ := hk S h
  refine ⟨r, hr, ?_⟩
  refine ry_step rfl rfl ?_
  refine ry_arg (c := 1) (by omega) hL rfl rfl rfl rfl rfl ?_
  refine ry_call rfl rfl rfl rfl rfl (yEv_le (by decide) (tX11_ledger (d := 0) e1)) ?_
  refine ry_step rfl rfl ?_
  refine ry_arg (c := 1) (by omega) hL rfl rfl rfl rfl rfl ?_
  refine ry_call rfl rfl rfl rfl rfl (yEv_le (by decide) (tX12_ledger (d := 0) e2)) ?_
  exact ry_step rfl rfl (ry_if (fun _ => kr) (fun hn => absurd rfl hn))
set_option maxRecDepth 4000 in
theorem lv_image (hb : i + 6 ≤ L) (hL : L ≤ 3072) (h : Rel T S) (hk : ∀ S2, Rel T S2 → ∃ r, G r ∧ Ry (xRoL L xs F) xNo (yKx T) z 690 mL_law 2010 (lsL i) [] S2 r) : ∃ r, G r ∧ Ry (xRoL L xs F) xNo (yKx T) z 690 mL_law 1961 (lsL i) [] S r := by
  obtain ⟨q, S1, S2, e1, e2, e3⟩ := pm_image h (N := 2000000) (Nat.le_refl _)
  obtain ⟨r, hr, kr⟩ := hk S2 e3
  refine ⟨r, hr, ?_⟩
  refine ry_step rfl rfl ?_
  refine ry_call rfl rfl rfl rfl rfl (yEv_le (by decide) (tX11_image (d := 0) e1)) ?_
  refine ry_step rfl rfl ?_
  refine ry_call rfl rfl rfl rfl rfl (yEv_le (by decide) (tX12_image (d := 0) e2)) ?_
  exact ry_step rfl rfl (ry_if (fun _ => kr) (fun hn => absurd rfl hn))
set_option maxRecDepth 4000 in
theorem lv_back (hb : i + 6 ≤ L) (hL : L ≤ 3072) (h : Rel T S) (hk : ∀ S2, Rel T S2 → ∃ r, G r ∧ Ry (xRoL L xs F) xNo (yKx T) z 690 mL_law 2010 (lsL i) [] S2 r) : ∃ r, G r ∧ Ry (xRoL L xs F) xNo (yKx T) z 690 mL_law 1974 (lsL i) [] S r := by
  obtain ⟨q, S1, S2, e1, e2, e3⟩ := pm_back h (N := 2000000) (Nat.le_refl _)
  obtain ⟨r, hr, kr⟩ := hk S2 e3
  refine ⟨r, hr, ?_⟩
  refine ry_step rfl rfl ?_
  refine ry_call rfl rfl rfl rfl rfl (yEv_le (by decide) (tX11_back (d := 0) e1)) ?_
  refine ry_step rfl rfl ?_
  refine ry_call rfl rfl rfl rfl rfl (yEv_le (by decide) (tX12_back (d := 0) e2)) ?_
  exact ry_step rfl rfl (ry_if (fun _ => kr) (fun hn => absurd rfl hn))
set_option maxRecDepth 4000 in
theorem lv_about (hb : i + 6 ≤ L) (hL : L ≤ 3072) (h : Rel T S) (hk : ∀ S2, Rel T S2 → ∃ r, G r ∧ Ry (xRoL L xs F) xNo (yKx T) z 690 mL_law 2010 (lsL i) [] S2 r) : ∃ r, G r ∧ Ry (xRoL L xs F) xNo (yKx T) z 690 mL_law 1987 (lsL i) [] S r := by
  obtain ⟨q, e1, e2⟩ := pm_about h (xs (i + 1))
  obtain ⟨r, hr, kr⟩ := hk S h
  refine ⟨r, hr, ?_⟩
  refine ry_step rfl rfl ?_
  refine ry_arg (c := 1) (by omega) hL rfl rfl rfl rfl rfl ?_
  refine ry_call rfl rfl rfl rfl rfl (yEv_le (by decide) (tX11_about (d := 0) e1)) ?_
  refine ry_step rfl rfl ?_
  refine ry_arg (c := 1) (by omega) hL rfl rfl rfl rfl rfl ?_
  refine ry_call rfl rfl rfl rfl rfl (yEv_le (by decide) (tX12_about (d := 0) e2)) ?_
  exact ry_step rfl rfl (ry_if (fun _ => kr) (fun hn => absurd rfl hn))
theorem lv_text (hL : L ≤ 3072) (h : Rel T S) (hz : 281 ≤ z.1) (hT : ∀ j, z.1 ≤ j → T j = none) (hk : ∀ (T2 : yK) (z2 : Nat × Nat) (S2 : yS), Rel T2 S2 → 281 ≤ z2.1 → (∀ j, z2.1 ≤ j → T2 j = none) → z2.1 ≤ z.1 + 6 → z2.2 ≤ z.2 + 681 → ∃ r, G r ∧ Ry (xRoL L xs F) xNo (yKx T2) z2 690 mL_law 2010 (lsL i) [] S2 r) : ∃ r, G r ∧ Ry (xRoL L xs F) xNo (yKx T) z 690 mL_law 450 (lsL i) [] S r := by
  rcases pm_text (N := 2000000) (Nat.le_refl _) h with ⟨a1, S2, e2, e3⟩ | ⟨a1, S1, b1, b2, S2, e2, e3⟩ | ⟨a1, S1, sz, cl, b1, b2, b3, b4, b5, b6, b7, b8, b9⟩
  · obtain ⟨r, hr, kr⟩ := hk T z S2 e3 hz hT (by omega) (by omega)
    refine ⟨r, hr, ?_⟩
    refine ry_step rfl rfl ?_
    refine ry_call rfl rfl rfl rfl rfl (yEv_le (by decide) (tX11_text0 (d := 0) a1)) ?_
    refine ry_step rfl rfl ?_
    refine ry_call rfl rfl rfl rfl rfl (yEv_le (by decide) (tX12_text (d := 0) e2)) ?_
    exact ry_step rfl rfl (ry_if (fun _ => kr) (fun hn => absurd rfl hn))
  · obtain ⟨r, hr, kr⟩ := hk T z S2 e3 hz hT (by omega) (by omega)
    refine ⟨r, hr, ?_⟩
    refine ry_step rfl rfl ?_
    refine ry_call rfl rfl rfl rfl rfl (yEv_le (by decide) (tX11_textN (d := 0) a1 b1 b2)) ?_
    refine ry_step rfl rfl ?_
    refine ry_call rfl rfl rfl rfl rfl (yEv_le (by decide) (tX12_text (d := 0) e2)) ?_
    exact ry_step rfl rfl (ry_if (fun _ => kr) (fun hn => absurd rfl hn))
  · obtain ⟨g1, g2, g3, g4, g5, c1, c2, c3, c4, c5, c6⟩ := tX11_textT (ro := xRoL L xs F) (T := T) (z := z) (d := 0) a1 b1 b2 hz hT b3 b4 b5 b6 b7 b8
    obtain ⟨S2, e2, e3⟩ := b9 z.1 g1 g2 g3 g4 g5 hz hT c1 c2 c3 c4 c5
    obtain ⟨r, hr, kr⟩ := hk (tT T z.1 sz cl) (tZ z sz cl) S2 e3 (by show 281 ≤ z.1 + 6; omega) (fun j hj => by
      have hj : z.1 + 6 ≤ j := hj
      unfold tT
      rw [if_neg (by omega), if_neg (by omega), if_neg (by omega)]
      exact hT j (by omega)) (by show z.1 + 6 ≤ z.1 + 6; omega) (by show z.2 + 9 + (sz + (sz + (cl + (cl + (cl + 0))))) ≤ z.2 + 681; omega)
    refine ⟨r, hr, ?_⟩
    refine ry_step rfl rfl ?_
    refine ry_callx rfl rfl rfl rfl rfl (xEv_le (by decide) c6) ?_
    refine ry_step rfl rfl ?_
    refine ry_call rfl rfl rfl rfl rfl (yEv_le (by decide) (tX12_text (d := 0) e2)) ?_
    exact ry_step rfl rfl (ry_if (fun _ => kr) (fun hn => absurd rfl hn))
end CAS
