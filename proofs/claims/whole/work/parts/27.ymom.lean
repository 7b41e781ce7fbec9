/-! ===== moments, whichever: the ring of steps ===== -/
def yMo (q : Nat) : Bool := Nat.beq q 19 || Nat.beq q 134 || Nat.beq q 247 || (Nat.ble 24 q && Nat.blt q 114 && Nat.beq ((q - 24) % 3) 0) || (Nat.ble 139 q && Nat.blt q 229 && Nat.beq ((q - 139) % 3) 0)
def yIsO (e : Option ((Nat × List Nat) ⊕ (Nat × Nat))) (c : Nat) (l : List Nat) : Bool := match e with
  | some (.inl (c', l')) => Nat.beq c' c && decide (l' = l)
  | _ => false
def yIsA (e : Option ((Nat × List Nat) ⊕ (Nat × Nat))) (t n : Nat) : Bool := match e with
  | some (.inr (t', n')) => Nat.beq t' t && Nat.beq n' n
  | _ => false
theorem yIsO_eq {e : Option ((Nat × List Nat) ⊕ (Nat × Nat))} {c : Nat} {l : List Nat} (h : yIsO e c l = true) : e = some (.inl (c, l)) := by
  unfold yIsO at h
  split at h
  · simp only [Bool.and_eq_true, decide_eq_true_eq] at h
    rw [xbeq h.1, h.2]
  · cases h
theorem yIsA_eq {e : Option ((Nat × List Nat) ⊕ (Nat × Nat))} {t n : Nat} (h : yIsA e t n = true) : e = some (.inr (t, n)) := by
  unfold yIsA at h
  split at h
  · simp only [Bool.and_eq_true] at h
    rw [xbeq h.1, xbeq h.2]
  · cases h
theorem yMo_chk : (List.range 279).all (fun q => !yMo q || (yIsO (yK0 q) 2 [0, 0, 0, 0, 0, 0, q + 1 + 2, q + 2 + 2, 0] && yIsA (yK0 (q + 1)) 0 8 && yIsA (yK0 (q + 2)) 0 25)) = true := by decide +kernel
theorem yMo_all (q : Nat) (hq : q < 279) (hm : yMo q = true) : yK0 q = some (.inl (2, [0, 0, 0, 0, 0, 0, q + 1 + 2, q + 2 + 2, 0])) ∧ yK0 (q + 1) = some (.inr (0, 8)) ∧ yK0 (q + 2) = some (.inr (0, 25)) := by
  have h := List.all_eq_true.mp yMo_chk q (List.mem_range.mpr hq)
  rw [hm] at h
  simp only [Bool.not_true, Bool.false_or, Bool.and_eq_true] at h
  exact ⟨yIsO_eq h.1.1, yIsA_eq h.1.2, yIsA_eq h.2⟩
theorem yarq_of {α : Type} {K : yK} {a t n : Nat} {k : Nat → Nat → Option α} (ht : t = 3 ∨ t = 4) (h : K a = some (.inr (t, n))) : yarq K a k = k t n := by
  unfold yarq; rw [h]; rcases ht with rfl | rfl <;> rfl
theorem yMo_lt {q : Nat} (h : yMo q = true) : q < 279 := by
  unfold yMo at h
  simp only [Bool.or_eq_true, Bool.and_eq_true] at h
  rcases h with (((h | h) | h) | h) | h
  · have := xbeq h; omega
  · have := xbeq h; omega
  · have := xbeq h; omega
  · have : q < 114 := Nat.le_of_ble_eq_true h.1.2; omega
  · have : q < 229 := Nat.le_of_ble_eq_true h.1.2; omega
theorem yKx_lt {T : yK} {q : Nat} (h : q < 281) : yKx T q = yK0 q := by
  unfold yKx
  rw [show Nat.blt q 281 = true from Nat.ble_eq_true_of_le h]
  rfl
theorem yMo_K {T : yK} {q : Nat} (h : yMo q = true) : yKx T q = some (.inl (2, [0, 0, 0, 0, 0, 0, q + 1 + 2, q + 2 + 2, 0])) ∧ yKx T (q + 1) = some (.inr (0, 8)) ∧ yKx T (q + 2) = some (.inr (0, 25)) := by
  have hl := yMo_lt h
  rw [yKx_lt (show q < 281 by omega), yKx_lt (show q + 1 < 281 by omega), yKx_lt (show q + 2 < 281 by omega)]
  exact yMo_all q hl h
theorem yob_of {α : Type} {K : yK} {a ci : Nat} {ks : List Nat} {k : List Nat → Option α} (h : K a = some (.inl (ci, ks))) : yob K a ci k = k ks := by
  unfold yob; rw [h]; show (bif Nat.beq ci ci then k ks else none) = k ks; rw [Nat.beq_refl]; rfl
section YM
variable {ro : xRo} {B : Nat → List Value → xH → xR → Prop} {K T : yK} {z : Nat × Nat} {d : Nat} {M : xMeth} {pc : Nat} {ls : xL} {st : List Value} {S : yS} {r : xR} {α : Type} {w : α} {len A0 B0 idx ci k a : Nat} {k0 : Int} {ps : List Nat} {ks : List Nat}
theorem ry_gi (h1 : xAt M.2.2.2.2 pc = some (.getfield idx, len, ci, k, 0, ps)) (hk : K a = some (.inl (ci, ks))) (hks : ks[k]? = some 0) (kk : Ry ro B K z d M (pc + 3) ls (.int (S.1 a k) :: st) S r) : Ry ro B K z d M pc ls (.ref a :: st) S r := by
  refine ry_step h1 ?_ kk
  show yob K a ci _ = _
  rw [yob_of hk, hks]
theorem ry_gr {n : Nat} (h1 : xAt M.2.2.2.2 pc = some (.getfield idx, len, ci, k, 0, ps)) (hk : K a = some (.inl (ci, ks))) (hks : ks[k]? = some (n + 2)) (kk : Ry ro B K z d M (pc + 3) ls (.ref n :: st) S r) : Ry ro B K z d M pc ls (.ref a :: st) S r := by
  refine ry_step h1 ?_ kk
  show yob K a ci _ = _
  rw [yob_of hk, hks]
theorem ry_pi {v : Int32} (h1 : xAt M.2.2.2.2 pc = some (.putfield idx, len, ci, k, 0, ps)) (hk : K a = some (.inl (ci, ks))) (hks : ks[k]? = some 0) (kk : Ry ro B K z d M (pc + 3) ls st (ySi S a k v) r) : Ry ro B K z d M pc ls (.int v :: .ref a :: st) S r := by
  refine ry_step h1 ?_ kk
  show yob K a ci _ = _
  rw [yob_of hk, hks]
  rfl
theorem ry_cp {a0 n0 n1 : Nat} {sp dp n : Int32} (h1 : xAt M.2.2.2.2 pc = some (.invokestatic idx, len, A0, B0, 9, ps)) (hk0 : K a0 = some (.inr (0, n0))) (hk1 : K a = some (.inr (0, n1))) (hc : ¬ (sp < 0 ∨ dp < 0 ∨ n < 0 ∨ n0 < sp.toNatClampNeg + n.toNatClampNeg ∨ n1 < dp.toNatClampNeg + n.toNatClampNeg ∨ 8 < (st.map fun v => v.category).sum)) (kk : Ry ro B K z d M (pc + 3) ls st (ySa S a (va_cpy (S.2.2.1 a0) (S.2.2.1 a) sp.toNatClampNeg dp.toNatClampNeg n.toNatClampNeg)) r) : Ry ro B K z d M pc ls (.int n :: .int dp :: .ref a :: .int sp :: .ref a0 :: st) S r := by
  refine ry_step h1 ?_ kk
  show yar K a0 0 _ = _
  rw [yar_of hk0, yar_of hk1, if_neg hc]
def mCopy (S : yS) (q p : Nat) : yS := pSt (ySi S q 0 (S.1 p 0)) fun S1 => pSt (ySi S1 q 1 (S1.1 p 1)) fun S2 => pSt (ySi S2 q 2 (S2.1 p 2)) fun S3 => pSt (ySi S3 q 3 (S3.1 p 3)) fun S4 => pSt (ySi S4 q 4 (S4.1 p 4)) fun S5 => pSt (ySi S5 q 5 (S5.1 p 5)) fun S6 => pSt (ySa S6 (q + 1) (va_cpy (S6.2.2.1 (p + 1)) (S6.2.2.1 (q + 1)) 0 0 8)) fun S7 => pSt (ySa S7 (q + 2) (va_cpy (S7.2.2.1 (p + 2)) (S7.2.2.1 (q + 2)) 0 0 25)) fun S8 => ySi S8 q 8 (S8.1 p 8)
theorem tMomCopy {q p : Nat} (hq : yMo q = true) (hp : yMo p = true) : yEv ro xNo (yKx T) (d + 1) jX2_copy [.ref q, .ref p] S none (mCopy S q p) := by
  obtain ⟨q0, q1, q2⟩ := yMo_K (T := T) hq
  obtain ⟨p0, p1, p2⟩ := yMo_K (T := T) hp
  refine ry_meth pX2_copy rfl (fun z => ?_)
  iterate 2 (refine ry_step rfl rfl ?_)
  refine ry_gi rfl p0 rfl ?_
  refine ry_pi rfl q0 rfl ?_
  iterate 2 (refine ry_step rfl rfl ?_)
  refine ry_gi rfl p0 rfl ?_
  refine ry_pi rfl q0 rfl ?_
  iterate 2 (refine ry_step rfl rfl ?_)
  refine ry_gi rfl p0 rfl ?_
  refine ry_pi rfl q0 rfl ?_
  iterate 2 (refine ry_step rfl rfl ?_)
  refine ry_gi rfl p0 rfl ?_
  refine ry_pi rfl q0 rfl ?_
  iterate 2 (refine ry_step rfl rfl ?_)
  refine ry_gi rfl p0 rfl ?_
  refine ry_pi rfl q0 rfl ?_
  iterate 2 (refine ry_step rfl rfl ?_)
  refine ry_gi rfl p0 rfl ?_
  refine ry_pi rfl q0 rfl ?_
  refine ry_step rfl rfl ?_
  refine ry_gr rfl p0 rfl ?_
  iterate 2 (refine ry_step rfl rfl ?_)
  refine ry_gr rfl q0 rfl ?_
  iterate 2 (refine ry_step rfl rfl ?_)
  refine ry_cp rfl p1 q1 (by decide) ?_
  refine ry_step rfl rfl ?_
  refine ry_gr rfl p0 rfl ?_
  iterate 2 (refine ry_step rfl rfl ?_)
  refine ry_gr rfl q0 rfl ?_
  iterate 2 (refine ry_step rfl rfl ?_)
  refine ry_cp rfl p2 q2 (by decide) ?_
  iterate 2 (refine ry_step rfl rfl ?_)
  refine ry_gi rfl p0 rfl ?_
  refine ry_pi rfl q0 rfl ?_
  exact ry_ret rfl rfl
theorem ry_aaM {i : Int32} {E : Nat → Option α} (hf : (ain 30 i).bind (fun j => (S.2.2.2.2 a j).bind fun o => if yMo o = true then E o else none) = some w) (h1 : xAt M.2.2.2.2 pc = some (.aaload, len, A0, B0, k0, ps)) (hk : K a = some (.inr (3, 30))) (kk : ∀ o, yMo o = true → E o = some w → Ry ro B K z d M (pc + 1) ls (.ref o :: st) S r) : Ry ro B K z d M pc ls (.int i :: .ref a :: st) S r := by
  obtain ⟨hin, hE⟩ := ain_inv hf
  obtain ⟨o, ho, hE⟩ := Option.bind_eq_some_iff.mp hE
  split at hE
  · rename_i hm
    refine ry_step h1 ?_ (kk o hm hE)
    show yarq K a _ = _
    rw [yarq_of (Or.inl rfl) hk, xin_of hin, ho]
    rfl
  · cases hE
theorem ry_mcp {q p : Nat} {E : yS → Option α} (hf : pSt (mCopy S q p) E = some w) (h1 : xAt M.2.2.2.2 pc = some (.invokevirtual idx, len, 26, 2, 0, ps)) (h5 : ps.getD 5 0 = 2) (hq : yMo q = true) (hp : yMo p = true) (hs : Nat.ble (st.map fun v => v.category).sum 8 = true) (kk : ∀ S1, E S1 = some w → Ry ro xNo (yKx T) z (d + 1) M (pc + 3) ls st S1 r) : Ry ro xNo (yKx T) z (d + 1) M pc ls (.ref p :: .ref q :: st) S r := by
  refine ry_call (v := none) h1 rfl rfl hs ?_ (tMomCopy hq hp) (kk _ hf)
  show (match yE (yKx T) S q with
      | some (.inr (c, _)) => Nat.beq c (ps.getD 5 0)
      | _ => Nat.ble 2 q && Nat.ble q 4 && Nat.beq (ps.getD 5 0) 99) = true
  rw [yE_o (yMo_K (T := T) hq).1, h5]
  rfl
end YM
