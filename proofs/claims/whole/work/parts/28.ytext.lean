/-! ===== texts that were read: an object and its five rows behind it ===== -/
def tLn (T : yK) (i : Nat) : Nat := match T i with
  | some (.inr (_, n)) => n
  | _ => 0
def yTx (T : yK) (o : Nat) : Bool := Nat.ble 281 o && yIsO (T o) 10 [o + 1 + 2, o + 2 + 2, 0, 0, 0, 0, o + 3 + 2, o + 4 + 2, o + 5 + 2] && yIsA (T (o + 1)) 0 (tLn T (o + 1)) && yIsA (T (o + 2)) 0 (tLn T (o + 2)) && yIsA (T (o + 3)) 0 (tLn T (o + 3)) && yIsA (T (o + 4)) 0 (tLn T (o + 4)) && yIsA (T (o + 5)) 0 (tLn T (o + 5))
def optC {α β : Type} (x : Option α) (a : β) (b : α → β) : β := match x with
  | none => a
  | some o => b o
theorem yKx_ge {T : yK} {q : Nat} (h : 281 ≤ q) : yKx T q = T q := by
  unfold yKx
  cases hb : Nat.blt q 281 with
  | true => exact absurd (Nat.le_of_ble_eq_true hb) (Nat.not_le.mpr (Nat.lt_succ_of_le h))
  | false => rfl
theorem yTx_K {T : yK} {o : Nat} (h : yTx T o = true) : yKx T o = some (.inl (10, [o + 1 + 2, o + 2 + 2, 0, 0, 0, 0, o + 3 + 2, o + 4 + 2, o + 5 + 2])) ∧ yKx T (o + 1) = some (.inr (0, tLn T (o + 1))) ∧ yKx T (o + 2) = some (.inr (0, tLn T (o + 2))) ∧ yKx T (o + 3) = some (.inr (0, tLn T (o + 3))) ∧ yKx T (o + 4) = some (.inr (0, tLn T (o + 4))) ∧ yKx T (o + 5) = some (.inr (0, tLn T (o + 5))) ∧ 281 ≤ o := by
  unfold yTx at h
  simp only [Bool.and_eq_true] at h
  obtain ⟨⟨⟨⟨⟨⟨h0, h1⟩, h2⟩, h3⟩, h4⟩, h5⟩, h6⟩ := h
  have hl : 281 ≤ o := Nat.le_of_ble_eq_true h0
  rw [yKx_ge hl, yKx_ge (show 281 ≤ o + 1 by omega), yKx_ge (show 281 ≤ o + 2 by omega), yKx_ge (show 281 ≤ o + 3 by omega), yKx_ge (show 281 ≤ o + 4 by omega), yKx_ge (show 281 ≤ o + 5 by omega)]
  exact ⟨yIsO_eq h1, yIsA_eq h2, yIsA_eq h3, yIsA_eq h4, yIsA_eq h5, yIsA_eq h6, hl⟩
theorem yTx_A {T : yK} {o : Nat} (h : yTx T o = true) : ∀ i, 1 ≤ i → i ≤ 5 → yKx T (o + i) = some (.inr (0, tLn T (o + i))) ∧ Nat.blt (o + i) 2 = false ∧ Nat.blt (o + i) 16 = false := by
  intro i h1 h5
  obtain ⟨-, k1, k2, k3, k4, k5, hl⟩ := yTx_K h
  have e2 : Nat.blt (o + i) 2 = false := by
    cases hb : Nat.blt (o + i) 2 with
    | true => have := Nat.le_of_ble_eq_true hb; omega
    | false => rfl
  have e16 : Nat.blt (o + i) 16 = false := by
    cases hb : Nat.blt (o + i) 16 with
    | true => have := Nat.le_of_ble_eq_true hb; omega
    | false => rfl
  refine ⟨?_, e2, e16⟩
  match i, h1, h5 with
  | 1, _, _ => exact k1
  | 2, _, _ => exact k2
  | 3, _, _ => exact k3
  | 4, _, _ => exact k4
  | 5, _, _ => exact k5
section YX
variable {ro : xRo} {B : Nat → List Value → xH → xR → Prop} {K T : yK} {z : Nat × Nat} {d : Nat} {M : xMeth} {pc : Nat} {ls : xL} {st : List Value} {S : yS} {r : xR} {α : Type} {w : α} {len A0 B0 : Nat} {k0 : Int} {ps : List Nat} {a n : Nat}
theorem ry_aaT {i : Int32} {E1 : Option α} {E2 : Nat → Option α} (hf : (ain n i).bind (fun j => optC (S.2.2.2.2 a j) E1 (fun o => if yTx T o = true then E2 o else none)) = some w) (h1 : xAt M.2.2.2.2 pc = some (.aaload, len, A0, B0, k0, ps)) (hk : K a = some (.inr (4, n))) (k1 : E1 = some w → Ry ro B K z d M (pc + 1) ls (.null :: st) S r) (k2 : ∀ o, yTx T o = true → E2 o = some w → Ry ro B K z d M (pc + 1) ls (.ref o :: st) S r) : Ry ro B K z d M pc ls (.int i :: .ref a :: st) S r := by
  obtain ⟨hin, hE⟩ := ain_inv hf
  have hst : yStep ro K (.aaload, len, A0, B0, k0, ps) pc ls (.int i :: .ref a :: st) S = some (pc + 1, ls, va_rf (S.2.2.2.2 a i.toNatClampNeg) :: st, S) := by
    show yarq K a _ = _
    rw [yarq_of (Or.inr rfl) hk, xin_of hin]
  cases ho : S.2.2.2.2 a i.toNatClampNeg with
  | none =>
    rw [ho] at hE hst
    exact ry_step h1 hst (k1 hE)
  | some o =>
    rw [ho] at hE hst
    have hE : (if yTx T o = true then E2 o else none) = some w := hE
    split at hE
    · rename_i ht
      exact ry_step h1 hst (k2 o ht hE)
    · cases hE
theorem ry_alen (h1 : xAt M.2.2.2.2 pc = some (.arraylength, len, A0, B0, k0, ps)) (hk : K a = some (.inr (0, n))) (ha : Nat.blt a 16 = false) (kk : Ry ro B K z d M (pc + 1) ls (.int (Int32.ofNat n) :: st) S r) : Ry ro B K z d M pc ls (.ref a :: st) S r := by
  refine ry_step h1 ?_ kk
  show (bif Nat.blt a 16 then _ else _) = _
  rw [ha]
  show (match K a with
        | some (.inr (t, n)) => bif Nat.blt t 5 then some (pc + 1, ls, Value.int (Int32.ofNat n) :: st, S) else none
        | _ => none) = _
  rw [hk]
  rfl
end YX
