/-! ===== what the class's cells hold, by a row of whole numbers ===== -/
def rv (S : yS) (r k : Nat) : Int := (S.2.2.1 r k).toInt
theorem rv_eq (S : yS) (r k : Nat) : S.2.2.1 r k = Int32.ofInt (rv S r k) := (Int32.ofInt_toInt _).symm
theorem rv_ge (S : yS) (r k : Nat) : -2147483648 ≤ rv S r k := by have := (S.2.2.1 r k).le_toInt; unfold rv; omega
theorem rv_lt (S : yS) (r k : Nat) : rv S r k < 2147483648 := by have := (S.2.2.1 r k).toInt_lt; unfold rv; omega
/-- an array of the county: its cell, how long, where in the row, stride, least and greatest -/
def cTab : List (Nat × Nat × Nat × Nat × Int × Int) := [(114, 8, 21, 1, 0, 12), (115, 8, 29, 1, 0, 11), (116, 8, 37, 1, 0, 10), (117, 9, 45, 1, 0, 9), (120, 12, 54, 2, 0, 99), (121, 12, 55, 2, 0, 1), (123, 9, 78, 1, 0, 8), (125, 5, 87, 1, 0, 999), (126, 5, 108, 1, 0, 23), (130, 8, 92, 2, 0, 8), (131, 8, 93, 2, -99, 99)]
def cA (b : Nat) (A : Nat → Int) (S : yS) : Prop := ∀ e ∈ cTab, ∀ k, k < e.2.1 → S.2.2.1 (e.1 + b) k = Int32.ofInt (A (e.2.2.1 + e.2.2.2.1 * k))
def rA (A : Nat → Int) : Prop := ∀ e ∈ cTab, ∀ k, k < e.2.1 → e.2.2.2.2.1 ≤ A (e.2.2.1 + e.2.2.2.1 * k) ∧ A (e.2.2.1 + e.2.2.2.1 * k) ≤ e.2.2.2.2.2
/-- a page of the class by one of the row -/
def pgC (v : Int) : Int := v / 18000 * 65536 + v / 2000 % 9 * 4096 + v / 200 % 10 * 256 + (v % 200 - 1)
/-- a moment: 0 day, 1 x, 2 fund, 3 count, 4 thing, 5 pages, 6 gone, 7 .. came, 15 .. book -/
def mR (q : Nat) (f : Nat → Int) (S : yS) : Prop := (S.1 q 0 = Int32.ofInt (f 6) ∧ S.1 q 1 = Int32.ofInt (f 2) ∧ S.1 q 2 = Int32.ofInt (f 3) ∧ S.1 q 3 = Int32.ofInt (f 4) ∧ S.1 q 4 = Int32.ofInt (f 0) ∧ S.1 q 5 = Int32.ofInt (f 1) ∧ S.1 q 8 = Int32.ofInt (f 5)) ∧ (∀ k : Nat, k < 8 → S.2.2.1 (q + 1) k = Int32.ofInt (f (7 + k))) ∧ (∀ k : Nat, (k : Int) < f 5 → S.2.2.1 (q + 2) k = Int32.ofInt (pgC (f (15 + k))))
def mI (B : Int) (f : Nat → Int) : Prop := (0 ≤ f 0 ∧ f 0 ≤ 9999) ∧ (0 ≤ f 1 ∧ f 1 < 30949) ∧ (-9999 ≤ f 2 ∧ f 2 ≤ 9999) ∧ (0 ≤ f 3 ∧ f 3 ≤ 8) ∧ (0 ≤ f 4 ∧ f 4 ≤ 9) ∧ (0 ≤ f 5 ∧ f 5 ≤ 25) ∧ (0 ≤ f 6 ∧ f 6 < 2 ^ B.toNat) ∧ (∀ k : Nat, k < 8 → 0 ≤ f (7 + k) ∧ f (7 + k) ≤ 9999) ∧ (∀ k : Nat, (k : Int) < f 5 → 0 ≤ f (15 + k) ∧ f (15 + k) < 180000000 ∧ 1 ≤ f (15 + k) % 200)
def nowF (A : Nat → Int) (k : Nat) : Int := if k < 15 then A (6 + k) else A (1298 + k)
def stF (A : Nat → Int) (i k : Nat) : Int := A (113 + 40 * i + k)
def sR (b : Nat) (A : Nat → Int) (S : yS) : Prop := (∀ t, t < 30 → S.2.2.2.2 (23 + b) t = some (24 + b + 3 * t)) ∧ S.1 (22 + b) 2 = Int32.ofInt (A 3) ∧ ∃ fi : Nat, fi < 30 ∧ S.1 (22 + b) 1 = Int32.ofInt fi ∧ ∀ i : Nat, (i : Int) < A 3 → mR (24 + b + 3 * ((fi + i) % 30)) (stF A i) S
def cI (b : Nat) (A : Nat → Int) (S : yS) : Prop := S.1 (18 + b) 5 = Int32.ofInt (A 0) ∧ S.1 (18 + b) 8 = Int32.ofInt (A 1) ∧ S.1 (18 + b) 9 = Int32.ofInt (A 2) ∧ S.1 (18 + b) 15 = Int32.ofInt (A 5) ∧ S.1 (119 + b) 2 = Int32.ofInt (A 4)
def cR (b : Nat) (A : Nat → Int) (S : yS) : Prop := cI b A S ∧ cA b A S ∧ mR (19 + b) (nowF A) S ∧ sR b A S
def rI (A : Nat → Int) : Prop := ((0 ≤ A 0 ∧ A 0 ≤ 8) ∧ (0 ≤ A 1 ∧ A 1 ≤ 4) ∧ (-1 ≤ A 2 ∧ A 2 < A 1) ∧ (0 ≤ A 3 ∧ A 3 ≤ 30) ∧ (0 ≤ A 4 ∧ A 4 ≤ 12) ∧ (0 ≤ A 5 ∧ A 5 ≤ 8)) ∧ rA A ∧ (∀ k : Nat, (k : Int) < A 0 → 1 ≤ A (21 + k) ∧ A (29 + k) < A (21 + k)) ∧ mI (A 0) (nowF A) ∧ (∀ i : Nat, (i : Int) < A 3 → mI (A 0) (stF A i))
theorem cTab_id : ∀ e ∈ cTab, ∀ e' ∈ cTab, e.1 = e'.1 → e = e' := by decide
theorem cTab_off : ∀ e ∈ cTab, ∀ e' ∈ cTab, e.1 ≠ e'.1 → ∀ k, k < e.2.1 → ∀ k', k' < e'.2.1 → e.2.2.1 + e.2.2.2.1 * k ≠ e'.2.2.1 + e'.2.2.2.1 * k' := by decide +kernel
theorem cTab_rng : ∀ e ∈ cTab, 114 ≤ e.1 ∧ e.1 ≤ 131 ∧ e.1 ≠ 127 ∧ e.1 ≠ 128 ∧ e.1 ≠ 129 ∧ e.1 ≠ 118 ∧ (∀ k, k < e.2.1 → 21 ≤ e.2.2.1 + e.2.2.2.1 * k ∧ e.2.2.1 + e.2.2.2.1 * k ≤ 112) ∧ 1 ≤ e.2.2.2.1 := by decide +kernel
/-- what the row says stays, where it is the same -/
theorem mR_congr {q : Nat} {f g : Nat → Int} {S S' : yS} (h : mR q f S) (h1 : S'.1 q = S.1 q) (h2 : S'.2.2.1 (q + 1) = S.2.2.1 (q + 1)) (h3 : S'.2.2.1 (q + 2) = S.2.2.1 (q + 2)) (hf : ∀ k, k < 40 → g k = f k) (hp : f 5 ≤ 25) : mR q g S' := by
  obtain ⟨⟨a0, a1, a2, a3, a4, a5, a6⟩, hc, hb⟩ := h
  refine ⟨?_, fun k hk => ?_, fun k hk => ?_⟩
  · rw [h1, hf 6 (by omega), hf 2 (by omega), hf 3 (by omega), hf 4 (by omega), hf 0 (by omega), hf 1 (by omega), hf 5 (by omega)]
    exact ⟨a0, a1, a2, a3, a4, a5, a6⟩
  · rw [h2, hf _ (by omega)]; exact hc k hk
  · rw [hf 5 (by omega)] at hk
    rw [h3, hf _ (by omega)]; exact hb k hk
theorem mI_congr {B B' : Int} {f g : Nat → Int} (h : mI B f) (hB : B ≤ B') (hf : ∀ k, k < 40 → g k = f k) : mI B' g := by
  obtain ⟨h0, h1, h2, h3, h4, h5, h6, h7, h8⟩ := h
  unfold mI
  rw [hf 6 (by omega), hf 2 (by omega), hf 3 (by omega), hf 4 (by omega), hf 0 (by omega), hf 1 (by omega), hf 5 (by omega)]
  refine ⟨h0, h1, h2, h3, h4, h5, ⟨h6.1, ?_⟩, fun k hk => ?_, fun k hk => ?_⟩
  · have h9 : 2 ^ B.toNat ≤ 2 ^ B'.toNat := Nat.pow_le_pow_right (by omega) (by omega)
    have h10 : (2 : Int) ^ B.toNat ≤ 2 ^ B'.toNat := by exact_mod_cast h9
    exact Int.lt_of_lt_of_le h6.2 h10
  · rw [hf _ (by omega)]; exact h7 k hk
  · rw [hf _ (by omega)]; exact h8 k hk
theorem nowF_congr {A A' : Nat → Int} (h : ∀ k, 6 ≤ k → k < 21 → A' k = A k) (h2 : ∀ k, 1313 ≤ k → k < 1338 → A' k = A k) : ∀ k, k < 40 → nowF A' k = nowF A k := by
  intro k hk
  unfold nowF
  split
  · exact h _ (by omega) (by omega)
  · exact h2 _ (by omega) (by omega)
theorem stF_congr {A A' : Nat → Int} (h : ∀ k, 113 ≤ k → k < 1313 → A' k = A k) {i : Nat} (hi : i < 30) : ∀ k, k < 40 → stF A' i k = stF A i k := by
  intro k hk
  exact h _ (by omega) (by omega)
