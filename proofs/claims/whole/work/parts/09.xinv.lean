/-! ===== inversions ===== -/
theorem xwd_in {i : xI} {k : Nat} {w : Jvm.Cond} (h : xwd i k w = true) : w ∈ xTb := by
  unfold xwd at h
  split at h
  · simp only [Bool.and_eq_true, decide_eq_true_eq] at h
    exact List.mem_filter.mpr ⟨List.mem_of_getElem? h.1, h.2⟩
  · cases h
theorem xTgt_eq {pc : Nat} {off : Int} (h : xNn pc off = true) : (pc : Int) + off = (xTgt pc off : Int) := by
  have h1 : 0 ≤ (pc : Int) + off := of_decide_eq_true h
  unfold xTgt
  omega
theorem xi_inv {α : Type} {st : List Value} {k : Int32 → List Value → Option α} {s : α} (h : xi st k = some s) : ∃ x r, st = .int x :: r ∧ k x r = some s := by
  unfold xi at h
  split at h
  · exact ⟨_, _, rfl, h⟩
  · cases h
theorem xii_inv {α : Type} {st : List Value} {k : Int32 → Int32 → List Value → Option α} {s : α} (h : xii st k = some s) : ∃ x y r, st = .int y :: .int x :: r ∧ k x y r = some s := by
  unfold xii at h
  split at h
  · exact ⟨_, _, _, rfl, h⟩
  · cases h
theorem xl_inv {α : Type} {st : List Value} {k : Int64 → List Value → Option α} {s : α} (h : xl st k = some s) : ∃ x r, st = .long x :: r ∧ k x r = some s := by
  unfold xl at h
  split at h
  · exact ⟨_, _, rfl, h⟩
  · cases h
theorem xll_inv {α : Type} {st : List Value} {k : Int64 → Int64 → List Value → Option α} {s : α} (h : xll st k = some s) : ∃ x y r, st = .long y :: .long x :: r ∧ k x y r = some s := by
  unfold xll at h
  split at h
  · exact ⟨_, _, _, rfl, h⟩
  · cases h
theorem xli_inv {α : Type} {st : List Value} {k : Int64 → Int32 → List Value → Option α} {s : α} (h : xli st k = some s) : ∃ x y r, st = .int y :: .long x :: r ∧ k x y r = some s := by
  unfold xli at h
  split at h
  · exact ⟨_, _, _, rfl, h⟩
  · cases h
theorem xa_inv {α : Type} {st : List Value} {k : Nat → List Value → Option α} {s : α} (h : xa st k = some s) : ∃ x r, st = .ref x :: r ∧ k x r = some s := by
  unfold xa at h
  split at h
  · exact ⟨_, _, rfl, h⟩
  · cases h
theorem xai_inv {α : Type} {st : List Value} {k : Nat → Int32 → List Value → Option α} {s : α} (h : xai st k = some s) : ∃ a i r, st = .int i :: .ref a :: r ∧ k a i r = some s := by
  unfold xai at h
  split at h
  · exact ⟨_, _, _, rfl, h⟩
  · cases h
theorem xq_inv {α : Type} {st : List Value} {k : Option Nat → List Value → Option α} {s : α} (h : xq st k = some s) : ∃ a r, st = va_rf a :: r ∧ k a r = some s := by
  unfold xq at h
  split at h
  · exact ⟨some _, _, rfl, h⟩
  · exact ⟨none, _, rfl, h⟩
  · cases h
theorem xbeq {a b : Nat} (h : Nat.beq a b = true) : a = b := Nat.eq_of_beq_eq_true h
theorem xob_inv {α : Type} {h : xH} {a ci : Nat} {k : List Value → Option α} {s : α} (hh : xob h a ci k = some s) : ∃ fs, h.2.2 a = some (.inr (ci, fs)) ∧ k fs = some s := by
  unfold xob at hh
  split at hh
  · rename_i c fs he
    cases hc : Nat.beq c ci with
    | true => rw [hc] at hh; exact ⟨fs, by rw [he, xbeq hc], hh⟩
    | false => rw [hc] at hh; cases hh
  · cases hh
theorem xar_inv {α : Type} {h : xH} {a t : Nat} {k : Nat → (Nat → Int32) → Option α} {s : α} (hh : xar h a t k = some s) : ∃ n f, h.2.2 a = some (.inl (t, n, .inl f)) ∧ k n f = some s := by
  unfold xar at hh
  split at hh
  · rename_i c n f he
    cases hc : Nat.beq c t with
    | true => rw [hc] at hh; exact ⟨n, f, by rw [he, xbeq hc], hh⟩
    | false => rw [hc] at hh; cases hh
  · cases hh
theorem xarl_inv {α : Type} {h : xH} {a : Nat} {k : Nat → (Nat → Int64) → Option α} {s : α} (hh : xarl h a k = some s) : ∃ n f, h.2.2 a = some (.inl (1, n, .inr (.inl f))) ∧ k n f = some s := by
  unfold xarl at hh
  split at hh
  · rename_i c n f he
    cases hc : Nat.beq c 1 with
    | true => rw [hc] at hh; exact ⟨n, f, by rw [he, xbeq hc], hh⟩
    | false => rw [hc] at hh; cases hh
  · cases hh
theorem xarq_inv {α : Type} {h : xH} {a : Nat} {k : Nat → Nat → (Nat → Option Nat) → Option α} {s : α} (hh : xarq h a k = some s) : ∃ t n f, (t = 3 ∨ t = 4) ∧ h.2.2 a = some (.inl (t, n, .inr (.inr (.inr (.inr f))))) ∧ k t n f = some s := by
  unfold xarq at hh
  split at hh
  · rename_i c n f he
    cases hc : (Nat.beq c 3 || Nat.beq c 4) with
    | true =>
      rw [hc] at hh
      refine ⟨c, n, f, ?_, he, hh⟩
      rcases Bool.or_eq_true_iff.mp hc with h1 | h1
      · exact Or.inl (xbeq h1)
      · exact Or.inr (xbeq h1)
    | false => rw [hc] at hh; cases hh
  · cases hh
theorem xin_inv {α : Type} {i : Int32} {n : Nat} {k : Nat → Option α} {s : α} (h : xin i n k = some s) : vp_in i n ∧ k i.toNatClampNeg = some s := by
  unfold xin at h
  split at h
  · cases h
  · exact ⟨by assumption, h⟩
