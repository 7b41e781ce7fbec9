/-! ===== walking beside a function: the function's own parts, and the rules that go with them ===== -/
def ain (n : Nat) (i : Int32) : Option Nat := if i < 0 ∨ n ≤ i.toNatClampNeg then none else some i.toNatClampNeg
def pSt {α β : Type} (x : α) (k : α → β) : β := k x
theorem ain_inv {α : Type} {n : Nat} {i : Int32} {E : Nat → Option α} {q : α} (hf : (ain n i).bind E = some q) : vp_in i n ∧ E i.toNatClampNeg = some q := by
  unfold ain at hf
  split at hf
  · cases hf
  · exact ⟨by assumption, hf⟩
theorem yar_of {α : Type} {K : yK} {a t n : Nat} {k : Nat → Option α} (h : K a = some (.inr (t, n))) : yar K a t k = k n := by
  unfold yar; rw [h]; show (bif Nat.beq t t then k n else none) = k n; rw [Nat.beq_refl]; rfl
section YO
variable {ro : xRo} {B : Nat → List Value → xH → xR → Prop} {K : yK} {z : Nat × Nat} {d : Nat} {M : xMeth} {pc : Nat} {ls : xL} {st : List Value} {S : yS} {r : xR} {α : Type} {q : α} {len A0 B0 : Nat} {k0 : Int} {ps : List Nat} {a n : Nat}
theorem ry_iald {i : Int32} {E : Nat → Option α} (hf : (ain n i).bind E = some q) (h1 : xAt M.2.2.2.2 pc = some (.iaload, len, A0, B0, k0, ps)) (hk : K a = some (.inr (0, n))) (ha : Nat.blt a 2 = false) (kk : ∀ j, E j = some q → Ry ro B K z d M (pc + 1) ls (.int (S.2.2.1 a j) :: st) S r) : Ry ro B K z d M pc ls (.int i :: .ref a :: st) S r := by
  obtain ⟨hin, hE⟩ := ain_inv hf
  refine ry_step h1 ?_ (kk _ hE)
  show (bif Nat.blt a 2 then _ else _) = _
  rw [ha]
  show yar K a 0 _ = _
  rw [yar_of hk, xin_of hin]
theorem ry_zald {i : Int32} {E : Nat → Option α} (hf : (ain n i).bind E = some q) (h1 : xAt M.2.2.2.2 pc = some (.baload, len, A0, B0, k0, ps)) (hk : K a = some (.inr (2, n))) (ha : Nat.blt a 16 = false) (kk : ∀ j, E j = some q → Ry ro B K z d M (pc + 1) ls (.int (S.2.2.1 a j) :: st) S r) : Ry ro B K z d M pc ls (.int i :: .ref a :: st) S r := by
  obtain ⟨hin, hE⟩ := ain_inv hf
  refine ry_step h1 ?_ (kk _ hE)
  show (bif Nat.blt a 16 then _ else _) = _
  rw [ha]
  show yar K a 2 _ = _
  rw [yar_of hk, xin_of hin]
theorem ry_lald {i : Int32} {E : Nat → Option α} (hf : (ain n i).bind E = some q) (h1 : xAt M.2.2.2.2 pc = some (.laload, len, A0, B0, k0, ps)) (hk : K a = some (.inr (1, n))) (kk : ∀ j, E j = some q → Ry ro B K z d M (pc + 1) ls (.long (S.2.2.2.1 a j) :: st) S r) : Ry ro B K z d M pc ls (.int i :: .ref a :: st) S r := by
  obtain ⟨hin, hE⟩ := ain_inv hf
  refine ry_step h1 ?_ (kk _ hE)
  show yar K a 1 _ = _
  rw [yar_of hk, xin_of hin]
theorem ry_iast {i x : Int32} {E : Nat → yS → Option α} (hf : (ain n i).bind (fun j => pSt (ySa S a (upd (S.2.2.1 a) j x)) (E j)) = some q) (h1 : xAt M.2.2.2.2 pc = some (.iastore, len, A0, B0, k0, ps)) (hk : K a = some (.inr (0, n))) (kk : ∀ j S1, E j S1 = some q → Ry ro B K z d M (pc + 1) ls st S1 r) : Ry ro B K z d M pc ls (.int x :: .int i :: .ref a :: st) S r := by
  obtain ⟨hin, hE⟩ := ain_inv hf
  refine ry_step h1 ?_ (kk _ _ hE)
  show yar K a 0 _ = _
  rw [yar_of hk, xin_of hin]
theorem ry_zast {i x : Int32} {E : Nat → yS → Option α} (hf : (ain n i).bind (fun j => if x = 0 ∨ x = 1 then pSt (ySa S a (upd (S.2.2.1 a) j x)) (E j) else none) = some q) (h1 : xAt M.2.2.2.2 pc = some (.bastore, len, A0, B0, k0, ps)) (hk : K a = some (.inr (2, n))) (kk : ∀ j S1, E j S1 = some q → Ry ro B K z d M (pc + 1) ls st S1 r) : Ry ro B K z d M pc ls (.int x :: .int i :: .ref a :: st) S r := by
  obtain ⟨hin, hE⟩ := ain_inv hf
  split at hE
  · rename_i h01
    refine ry_step h1 ?_ (kk _ _ hE)
    show yar K a 2 _ = _
    rw [yar_of hk, xin_of hin, if_pos h01]
  · cases hE
theorem ry_last {i : Int32} {x : Int64} {E : Nat → yS → Option α} (hf : (ain n i).bind (fun j => pSt (ySl S a (vp_updL (S.2.2.2.1 a) j x)) (E j)) = some q) (h1 : xAt M.2.2.2.2 pc = some (.lastore, len, A0, B0, k0, ps)) (hk : K a = some (.inr (1, n))) (kk : ∀ j S1, E j S1 = some q → Ry ro B K z d M (pc + 1) ls st S1 r) : Ry ro B K z d M pc ls (.long x :: .int i :: .ref a :: st) S r := by
  obtain ⟨hin, hE⟩ := ain_inv hf
  refine ry_step h1 ?_ (kk _ _ hE)
  show yar K a 1 _ = _
  rw [yar_of hk, xin_of hin]
/-- a step that changes the heap, by name -/
theorem ry_stepS {i : xI} {pc' : Nat} {ls' : xL} {st' : List Value} {S' : yS} {E : yS → Option α} (hf : pSt S' E = some q) (h1 : xAt M.2.2.2.2 pc = some i) (h2 : yStep ro K i pc ls st S = some (pc', ls', st', S')) (kk : ∀ S1, E S1 = some q → Ry ro B K z d M pc' ls' st' S1 r) : Ry ro B K z d M pc ls st S r := ry_step h1 h2 (kk S' hf)
theorem ry_div {x y : Int32} {E : Option α} (hf : (if y = 0 then none else E) = some q) (h1 : xAt M.2.2.2.2 pc = some (.idiv, len, A0, B0, k0, ps)) (kk : E = some q → Ry ro B K z d M (pc + 1) ls (.int (x / y) :: st) S r) : Ry ro B K z d M pc ls (.int y :: .int x :: st) S r := by
  split at hf
  · cases hf
  · rename_i hy
    refine ry_step h1 ?_ (kk hf)
    show (if y = 0 then none else _) = _
    rw [if_neg hy]
theorem ry_rem {x y : Int32} {E : Option α} (hf : (if y = 0 then none else E) = some q) (h1 : xAt M.2.2.2.2 pc = some (.irem, len, A0, B0, k0, ps)) (kk : E = some q → Ry ro B K z d M (pc + 1) ls (.int (x - x / y * y) :: st) S r) : Ry ro B K z d M pc ls (.int y :: .int x :: st) S r := by
  split at hf
  · cases hf
  · rename_i hy
    refine ry_step h1 ?_ (kk hf)
    show (if y = 0 then none else _) = _
    rw [if_neg hy]
theorem ry_ldiv {x y : Int64} {E : Option α} (hf : (if y = 0 then none else E) = some q) (h1 : xAt M.2.2.2.2 pc = some (.ldiv, len, A0, B0, k0, ps)) (kk : E = some q → Ry ro B K z d M (pc + 1) ls (.long (x / y) :: st) S r) : Ry ro B K z d M pc ls (.long y :: .long x :: st) S r := by
  split at hf
  · cases hf
  · rename_i hy
    refine ry_step h1 ?_ (kk hf)
    show (if y = 0 then none else _) = _
    rw [if_neg hy]
theorem ry_lrem {x y : Int64} {E : Option α} (hf : (if y = 0 then none else E) = some q) (h1 : xAt M.2.2.2.2 pc = some (.lrem, len, A0, B0, k0, ps)) (kk : E = some q → Ry ro B K z d M (pc + 1) ls (.long (x - x / y * y) :: st) S r) : Ry ro B K z d M pc ls (.long y :: .long x :: st) S r := by
  split at hf
  · cases hf
  · rename_i hy
    refine ry_step h1 ?_ (kk hf)
    show (if y = 0 then none else _) = _
    rw [if_neg hy]
theorem ry_br {c : Prop} [Decidable c] {p1 p2 : Nat} {E1 E2 : Option α} (hf : (if c then E1 else E2) = some q) (k1 : c → E1 = some q → Ry ro B K z d M p1 ls st S r) (k2 : ¬ c → E2 = some q → Ry ro B K z d M p2 ls st S r) : Ry ro B K z d M (if c then p1 else p2) ls st S r := by
  by_cases hc : c
  · rw [if_pos hc] at hf ⊢; exact k1 hc hf
  · rw [if_neg hc] at hf ⊢; exact k2 hc hf
theorem ry_nmi {x : Int32} {E : Int32 → Option α} (hf : pSt x E = some q) (kk : ∀ y, E y = some q → Ry ro B K z d M pc ls (.int y :: st) S r) : Ry ro B K z d M pc ls (.int x :: st) S r := kk x hf
theorem ry_nml {x : Int64} {E : Int64 → Option α} (hf : pSt x E = some q) (kk : ∀ y, E y = some q → Ry ro B K z d M pc ls (.long y :: st) S r) : Ry ro B K z d M pc ls (.long x :: st) S r := kk x hf
/-- a switch: the value is one of its keys -/
theorem ry_sw {x c : Int32} {E1 E2 : Option α} (hf : (if x = c then E1 else E2) = some q) (k1 : E1 = some q → Ry ro B K z d M pc ls (.int c :: st) S r) (k2 : ¬ x = c → E2 = some q → Ry ro B K z d M pc ls (.int x :: st) S r) : Ry ro B K z d M pc ls (.int x :: st) S r := by
  by_cases hc : x = c
  · rw [if_pos hc] at hf; rw [hc]; exact k1 hf
  · rw [if_neg hc] at hf; exact k2 hc hf
theorem ry_tb {x : Int32} {dd lo hi : Int} {offs : Array Int} (h1 : xAt M.2.2.2.2 pc = some (.tableswitch dd lo hi offs, len, A0, B0, k0, ps)) (h : x.toInt < lo ∨ hi < x.toInt) (kk : Ry ro B K z d M (xTgt pc dd) ls st S r) : Ry ro B K z d M pc ls (.int x :: st) S r := by
  refine ry_step h1 ?_ kk
  show (if x.toInt < lo ∨ hi < x.toInt then _ else _) = _
  rw [if_pos h]
theorem ry_lk {x : Int32} {dd : Int} {prs : Array (Int × Int)} (h1 : xAt M.2.2.2.2 pc = some (.lookupswitch dd prs, len, A0, B0, k0, ps)) (h : Op.lookupswitch.offset prs.toList dd x.toInt = dd) (kk : Ry ro B K z d M (xTgt pc dd) ls st S r) : Ry ro B K z d M pc ls (.int x :: st) S r := by
  refine ry_step h1 ?_ kk
  show some (xTgt pc (Op.lookupswitch.offset prs.toList dd x.toInt), ls, st, S) = _
  rw [h]
theorem ry_retz {x : Int32} {i : xI} {S' : yS} {E : Option α} (hf : (if x = 0 ∨ x = 1 then E else none) = some q) (h1 : xAt M.2.2.2.2 pc = some i) (hi : i.1 = .ireturn) (hm : M.2.2.2.1 = some .boolean) (hr : E = some q → r = (some (.int x), yH K z S)) : Ry ro B K z d M pc ls [.int x] S r := by
  split at hf
  · rename_i h01
    rw [hr hf]
    exact ry_ret h1 (by rw [hi, hm]; exact xRetZ h01)
  · cases hf
end YO
theorem xne_toInt {x : Int32} {k : Int} (hk : (Int32.ofInt k).toInt = k) (h : ¬ x = Int32.ofInt k) : ¬ x.toInt = k := fun e => h (Int32.toInt_inj.mp (e.trans hk.symm))
