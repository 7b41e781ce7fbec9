/-! ===== GAME_PARTS; texts put into rows of texts ===== -/
section YP
variable {ro : xRo} {B : Nat → List Value → xH → xR → Prop} {K T : yK} {z : Nat × Nat} {d : Nat} {M : xMeth} {pc : Nat} {ls : xL} {st : List Value} {S : yS} {r : xR} {α : Type} {q : α} {len A0 B0 : Nat} {k0 : Int} {ps : List Nat} {a n : Nat}
theorem ry_gp {i : Int32} {E : Nat → Option α} (hG : ro 1 = some (8, xGp)) (hf : (ain 8 i).bind E = some q) (h1 : xAt M.2.2.2.2 pc = some (.iaload, len, A0, B0, k0, ps)) (kk : ∀ j, E j = some q → Ry ro B K z d M (pc + 1) ls (.int (xGp j) :: st) S r) : Ry ro B K z d M pc ls (.int i :: .ref 1 :: st) S r := by
  obtain ⟨hin, hE⟩ := ain_inv hf
  refine ry_step h1 ?_ (kk _ hE)
  show (ro 1).bind _ = _
  rw [hG]
  show xin i 8 (fun j => some (pc + 1, ls, Value.int (xGp j) :: st, S)) = _
  rw [xin_of hin]
theorem ry_gpl (hG : ro 1 = some (8, xGp)) (h1 : xAt M.2.2.2.2 pc = some (.arraylength, len, A0, B0, k0, ps)) (kk : Ry ro B K z d M (pc + 1) ls (.int (Int32.ofNat 8) :: st) S r) : Ry ro B K z d M pc ls (.ref 1 :: st) S r := by
  refine ry_step h1 ?_ kk
  show (Option.map (fun q => q.1) (ro 1)).bind _ = _
  rw [hG]
  rfl
theorem ry_aasN {i : Int32} {E : Nat → yS → Option α} (hf : (ain n i).bind (fun j => pSt (ySq S a (va_up (S.2.2.2.2 a) j none)) (E j)) = some q) (h1 : xAt M.2.2.2.2 pc = some (.aastore, len, A0, B0, k0, ps)) (hk : K a = some (.inr (4, n))) (kk : ∀ j S1, E j S1 = some q → Ry ro B K z d M (pc + 1) ls st S1 r) : Ry ro B K z d M pc ls (.null :: .int i :: .ref a :: st) S r := by
  obtain ⟨hin, hE⟩ := ain_inv hf
  refine ry_step h1 ?_ (kk _ _ hE)
  show yarq K a _ = _
  rw [yarq_of (Or.inr rfl) hk, xin_of hin]
theorem ry_aasT {o : Nat} (ho : yTx T o = true) {i : Int32} {E : Nat → yS → Option α} (hf : (ain n i).bind (fun j => pSt (ySq S a (va_up (S.2.2.2.2 a) j (some o))) (E j)) = some q) (h1 : xAt M.2.2.2.2 pc = some (.aastore, len, A0, B0, k0, ps)) (hk : yKx T a = some (.inr (4, n))) (kk : ∀ j S1, E j S1 = some q → Ry ro B (yKx T) z d M (pc + 1) ls st S1 r) : Ry ro B (yKx T) z d M pc ls (.ref o :: .int i :: .ref a :: st) S r := by
  obtain ⟨hin, hE⟩ := ain_inv hf
  refine ry_step h1 ?_ (kk _ _ hE)
  show yarq (yKx T) a _ = _
  rw [yarq_of (Or.inr rfl) hk, xin_of hin]
  show yob (yKx T) o 10 _ = _
  rw [yob_of (yTx_K ho).1]
end YP
