/-! ===== ints by whole numbers ===== -/
theorem i_ex (x : Int32) : ∃ k : Int, -2147483648 ≤ k ∧ k < 2147483648 ∧ x = Int32.ofInt k := ⟨x.toInt, by have := x.le_toInt; omega, by have := x.toInt_lt; omega, (Int32.ofInt_toInt x).symm⟩
theorem i_toInt {k : Int} (h1 : -2147483648 ≤ k) (h2 : k < 2147483648) : (Int32.ofInt k).toInt = k := Int32.toInt_ofInt_of_le (by omega) (by omega)
theorem i_lt {a b : Int} (h1 : -2147483648 ≤ a) (h2 : a < 2147483648) (h3 : -2147483648 ≤ b) (h4 : b < 2147483648) : (Int32.ofInt a < Int32.ofInt b) = (a < b) := by
  rw [Int32.lt_iff_toInt_lt, i_toInt h1 h2, i_toInt h3 h4]
theorem i_le {a b : Int} (h1 : -2147483648 ≤ a) (h2 : a < 2147483648) (h3 : -2147483648 ≤ b) (h4 : b < 2147483648) : (Int32.ofInt a ≤ Int32.ofInt b) = (a ≤ b) := by
  rw [Int32.le_iff_toInt_le, i_toInt h1 h2, i_toInt h3 h4]
theorem i_eq {a b : Int} (h1 : -2147483648 ≤ a) (h2 : a < 2147483648) (h3 : -2147483648 ≤ b) (h4 : b < 2147483648) : (Int32.ofInt a = Int32.ofInt b) = (a = b) := by
  rw [← Int32.toInt_inj, i_toInt h1 h2, i_toInt h3 h4]
theorem i0 : (0 : Int32) = Int32.ofInt 0 := rfl
theorem i1 : (1 : Int32) = Int32.ofInt 1 := rfl
theorem i_ofNat (n : Nat) : Int32.ofNat n = Int32.ofInt n := Int32.ofInt_eq_ofNat.symm
theorem i_add (a b : Int) : Int32.ofInt a + Int32.ofInt b = Int32.ofInt (a + b) := (Int32.ofInt_add a b).symm
theorem i_sub (a b : Int) : Int32.ofInt a - Int32.ofInt b = Int32.ofInt (a - b) := (Int32.ofInt_sub a b).symm
theorem i_mul (a b : Int) : Int32.ofInt a * Int32.ofInt b = Int32.ofInt (a * b) := (Int32.ofInt_mul a b).symm
theorem i_neg (a : Int) : -Int32.ofInt a = Int32.ofInt (-a) := (Int32.ofInt_neg a).symm
theorem i_tdiv {a b : Int} (h1 : -2147483648 < a) (h2 : a < 2147483648) (h3 : -2147483648 ≤ b) (h4 : b < 2147483648) : Int32.ofInt a / Int32.ofInt b = Int32.ofInt (a.tdiv b) := by
  apply Int32.toInt_inj.mp
  have ha : Int32.ofInt a ≠ Int32.minValue := fun e => by
    have e2 := congrArg Int32.toInt e
    rw [i_toInt (by omega) h2] at e2
    have : Int32.minValue.toInt = -2147483648 := rfl
    omega
  rw [Int32.toInt_div_of_ne_left _ _ ha, i_toInt (by omega) h2, i_toInt h3 h4]
  have hb : -2147483648 ≤ a.tdiv b ∧ a.tdiv b < 2147483648 := by
    have h := Int.natAbs_tdiv_le_natAbs a b
    omega
  rw [i_toInt hb.1 hb.2]
theorem i_div {a b : Int} (h1 : 0 ≤ a) (h2 : a < 2147483648) (h3 : 0 < b) (h4 : b < 2147483648) : Int32.ofInt a / Int32.ofInt b = Int32.ofInt (a / b) := by
  rw [i_tdiv (by omega) h2 (by omega) h4, Int.tdiv_eq_ediv_of_nonneg h1]
theorem i_rem {a b : Int} (h1 : 0 ≤ a) (h2 : a < 2147483648) (h3 : 0 < b) (h4 : b < 2147483648) : Int32.ofInt a - Int32.ofInt a / Int32.ofInt b * Int32.ofInt b = Int32.ofInt (a % b) := by
  rw [i_div h1 h2 h3 h4, i_mul, i_sub, Int.emod_def, Int.mul_comm b]
theorem i_clamp {k : Int} (h1 : -2147483648 ≤ k) (h2 : k < 2147483648) : (Int32.ofInt k).toNatClampNeg = k.toNat := Int32.toNatClampNeg_ofInt_of_le (by omega) (by omega)
theorem ain_i {n : Nat} {k : Int} (h0 : 0 ≤ k) (h1 : k < n) (h2 : n < 2147483648) : ain n (Int32.ofInt k) = some k.toNat := by
  unfold ain
  rw [i_clamp (by omega) (by omega), if_neg]
  rintro (h | h)
  · rw [i0, i_lt (by omega) (by omega) (by omega) (by omega)] at h; omega
  · omega
theorem ain_n {n k : Nat} (h1 : k < n) (h2 : n < 2147483648) : ain n (Int32.ofInt (k : Int)) = some k := by
  rw [ain_i (by omega) (by omega) h2]; rfl
/-! longs -/
theorem l_ex (x : Int64) : ∃ k : Int, -9223372036854775808 ≤ k ∧ k < 9223372036854775808 ∧ x = Int64.ofInt k := ⟨x.toInt, by have := x.le_toInt; omega, by have := x.toInt_lt; omega, (Int64.ofInt_toInt x).symm⟩
theorem l_toInt {k : Int} (h1 : -9223372036854775808 ≤ k) (h2 : k < 9223372036854775808) : (Int64.ofInt k).toInt = k := Int64.toInt_ofInt_of_le (by omega) (by omega)
theorem l_lt {a b : Int} (h1 : -9223372036854775808 ≤ a) (h2 : a < 9223372036854775808) (h3 : -9223372036854775808 ≤ b) (h4 : b < 9223372036854775808) : (Int64.ofInt a < Int64.ofInt b) = (a < b) := by
  rw [Int64.lt_iff_toInt_lt, l_toInt h1 h2, l_toInt h3 h4]
theorem l_le {a b : Int} (h1 : -9223372036854775808 ≤ a) (h2 : a < 9223372036854775808) (h3 : -9223372036854775808 ≤ b) (h4 : b < 9223372036854775808) : (Int64.ofInt a ≤ Int64.ofInt b) = (a ≤ b) := by
  rw [Int64.le_iff_toInt_le, l_toInt h1 h2, l_toInt h3 h4]
theorem l_eq {a b : Int} (h1 : -9223372036854775808 ≤ a) (h2 : a < 9223372036854775808) (h3 : -9223372036854775808 ≤ b) (h4 : b < 9223372036854775808) : (Int64.ofInt a = Int64.ofInt b) = (a = b) := by
  rw [← Int64.toInt_inj, l_toInt h1 h2, l_toInt h3 h4]
theorem l0 : (0 : Int64) = Int64.ofInt 0 := rfl
theorem l_ofNat (n : Nat) : Int64.ofNat n = Int64.ofInt n := Int64.ofInt_eq_ofNat.symm
theorem l_add (a b : Int) : Int64.ofInt a + Int64.ofInt b = Int64.ofInt (a + b) := (Int64.ofInt_add a b).symm
theorem l_sub (a b : Int) : Int64.ofInt a - Int64.ofInt b = Int64.ofInt (a - b) := (Int64.ofInt_sub a b).symm
theorem l_mul (a b : Int) : Int64.ofInt a * Int64.ofInt b = Int64.ofInt (a * b) := (Int64.ofInt_mul a b).symm
theorem l_neg (a : Int) : -Int64.ofInt a = Int64.ofInt (-a) := (Int64.ofInt_neg a).symm
theorem l_tdiv {a b : Int} (h1 : -9223372036854775808 < a) (h2 : a < 9223372036854775808) (h3 : -9223372036854775808 ≤ b) (h4 : b < 9223372036854775808) : Int64.ofInt a / Int64.ofInt b = Int64.ofInt (a.tdiv b) := by
  apply Int64.toInt_inj.mp
  have ha : Int64.ofInt a ≠ Int64.minValue := fun e => by
    have e2 := congrArg Int64.toInt e
    rw [l_toInt (by omega) h2] at e2
    have : Int64.minValue.toInt = -9223372036854775808 := rfl
    omega
  rw [Int64.toInt_div_of_ne_left _ _ ha, l_toInt (by omega) h2, l_toInt h3 h4]
  have hb : -9223372036854775808 ≤ a.tdiv b ∧ a.tdiv b < 9223372036854775808 := by
    have h := Int.natAbs_tdiv_le_natAbs a b
    omega
  rw [l_toInt hb.1 hb.2]
theorem l_div {a b : Int} (h1 : 0 ≤ a) (h2 : a < 9223372036854775808) (h3 : 0 < b) (h4 : b < 9223372036854775808) : Int64.ofInt a / Int64.ofInt b = Int64.ofInt (a / b) := by
  rw [l_tdiv (by omega) h2 (by omega) h4, Int.tdiv_eq_ediv_of_nonneg h1]
theorem l_rem {a b : Int} (h1 : 0 ≤ a) (h2 : a < 9223372036854775808) (h3 : 0 < b) (h4 : b < 9223372036854775808) : Int64.ofInt a - Int64.ofInt a / Int64.ofInt b * Int64.ofInt b = Int64.ofInt (a % b) := by
  rw [l_div h1 h2 h3 h4, l_mul, l_sub, Int.emod_def, Int.mul_comm b]
theorem il {k : Int} (h1 : -2147483648 ≤ k) (h2 : k < 2147483648) : Int32.toInt64 (Int32.ofInt k) = Int64.ofInt k := Int32.toInt64_ofInt (by have : Int32.minValue.toInt = -2147483648 := rfl; omega) (by have : Int32.maxValue.toInt = 2147483647 := rfl; omega)
theorem li (k : Int) : Int64.toInt32 (Int64.ofInt k) = Int32.ofInt k := Int64.toInt32_ofInt
/-! comparisons that two ifs make of one -/
theorem w_in {a b c : Int} (h1 : -2147483648 ≤ a) (h2 : a < 2147483648) (h3 : -2147483648 ≤ b) (h4 : b < 2147483648) (h5 : -2147483648 ≤ c) (h6 : c < 2147483648) : fX11_within (Int32.ofInt a) (Int32.ofInt b) (Int32.ofInt c) = Int32.ofInt (if b ≤ a ∧ a ≤ c then 1 else 0) := by
  unfold fX11_within
  simp only [i_lt h1 h2 h3 h4, i_lt h5 h6 h1 h2]
  repeat' split
  all_goals first | rfl | omega
theorem w_in2 {a b c : Int} (h1 : -2147483648 ≤ a) (h2 : a < 2147483648) (h3 : -2147483648 ≤ b) (h4 : b < 2147483648) (h5 : -2147483648 ≤ c) (h6 : c < 2147483648) : fX12_isIn (Int32.ofInt a) (Int32.ofInt b) (Int32.ofInt c) = Int32.ofInt (if b ≤ a ∧ a ≤ c then 1 else 0) := by
  unfold fX12_isIn
  simp only [i_lt h1 h2 h3 h4, i_lt h5 h6 h1 h2]
  repeat' split
  all_goals first | rfl | omega
theorem w_cnt {a : Int} (h1 : -2147483648 ≤ a) (h2 : a < 2147483648) : fX11_isCount (Int32.ofInt a) = Int32.ofInt (if 0 ≤ a ∧ a ≤ 8 then 1 else 0) := by
  unfold fX11_isCount
  simp (disch := omega) only [i0, i_lt, i_le]
  repeat' split
  all_goals first | rfl | omega
theorem w_cnt2 {a : Int} (h1 : -2147483648 ≤ a) (h2 : a < 2147483648) : fX12_isCount (Int32.ofInt a) = Int32.ofInt (if 0 ≤ a ∧ a ≤ 8 then 1 else 0) := w_in2 h1 h2 (by omega) (by omega) (by omega) (by omega)
/-- an if that answers 1 or 0, asked for 0 -/
theorem z01 {c : Prop} [Decidable c] : (Int32.ofInt (if c then 1 else 0) = Int32.ofInt 0) = ¬ c := by
  by_cases h : c
  · rw [if_pos h]; simp only [h, not_true]; exact eq_false (by decide)
  · rw [if_neg h]; simp only [h, not_false_eq_true]
theorem z01' {c : Prop} [Decidable c] : (Int32.ofInt (if c then 1 else 0) = Int32.ofInt 0 ∨ Int32.ofInt (if c then 1 else 0) = Int32.ofInt 1) = True := by
  by_cases h : c
  · rw [if_pos h]; simp
  · rw [if_neg h]; simp
theorem hd_i {a b c : Int} (h1 : -2147483648 ≤ a) (h2 : a < 2147483648) (h3 : -2147483648 ≤ b) (h4 : b < 2147483648) (h5 : -2147483648 ≤ c) (h6 : c < 2147483648) (hbc : b ≤ c) : fX11_held (Int32.ofInt a) (Int32.ofInt b) (Int32.ofInt c) = Int32.ofInt (max b (min a c)) := by
  unfold fX11_held
  simp only [i_le h3 h4 h1 h2, i_le h1 h2 h5 h6]
  repeat' split
  all_goals (congr 1; omega)
theorem lc_ge {a b : Int} (h1 : -9223372036854775808 ≤ a) (h2 : a < 9223372036854775808) (h3 : -9223372036854775808 ≤ b) (h4 : b < 9223372036854775808) : (0 ≤ lg_cmp (Int64.ofInt a) (Int64.ofInt b)) = (b ≤ a) := by
  rw [lg_cmp_ge, l_le h3 h4 h1 h2]
theorem lc_le {a b : Int} (h1 : -9223372036854775808 ≤ a) (h2 : a < 9223372036854775808) (h3 : -9223372036854775808 ≤ b) (h4 : b < 9223372036854775808) : (lg_cmp (Int64.ofInt a) (Int64.ofInt b) ≤ 0) = (a ≤ b) := by
  rw [lg_cmp_le, l_le h1 h2 h3 h4]
theorem lc_gt {a b : Int} (h1 : -9223372036854775808 ≤ a) (h2 : a < 9223372036854775808) (h3 : -9223372036854775808 ≤ b) (h4 : b < 9223372036854775808) : (0 < lg_cmp (Int64.ofInt a) (Int64.ofInt b)) = (b < a) := by
  rw [lg_cmp_gt, l_lt h3 h4 h1 h2]
theorem lc_lt {a b : Int} (h1 : -9223372036854775808 ≤ a) (h2 : a < 9223372036854775808) (h3 : -9223372036854775808 ≤ b) (h4 : b < 9223372036854775808) : (lg_cmp (Int64.ofInt a) (Int64.ofInt b) < 0) = (a < b) := by
  rw [lg_cmp_lt, l_lt h1 h2 h3 h4]
theorem lc_eq {a b : Int} (h1 : -9223372036854775808 ≤ a) (h2 : a < 9223372036854775808) (h3 : -9223372036854775808 ≤ b) (h4 : b < 9223372036854775808) : (lg_cmp (Int64.ofInt a) (Int64.ofInt b) = 0) = (a = b) := by
  have e : (lg_cmp (Int64.ofInt a) (Int64.ofInt b) = 0) ↔ (0 ≤ lg_cmp (Int64.ofInt a) (Int64.ofInt b) ∧ lg_cmp (Int64.ofInt a) (Int64.ofInt b) ≤ 0) := by
    constructor
    · intro h; rw [h]; decide
    · intro h; exact Int32.le_antisymm h.2 h.1
  rw [e, lc_ge h1 h2 h3 h4, lc_le h1 h2 h3 h4]
  exact propext ⟨fun h => Int.le_antisymm h.2 h.1, fun h => by omega⟩
theorem hd_l {a b c : Int} (h1 : -9223372036854775808 ≤ a) (h2 : a < 9223372036854775808) (h3 : -2147483648 ≤ b) (h4 : b < 2147483648) (h5 : -2147483648 ≤ c) (h6 : c < 2147483648) (hbc : b ≤ c) : fX12_held (Int64.ofInt a) (Int32.ofInt b) (Int32.ofInt c) = Int32.ofInt (max b (min a c)) := by
  unfold fX12_held
  rw [il h3 h4, il h5 h6]
  simp (disch := omega) only [lc_ge, lc_le, li]
  repeat' split
  all_goals (congr 1; omega)
/-! walking a function by its head -/
theorem h_pos {α : Type} {c : Prop} [Decidable c] {t e X : α} (h : c) (k : t = X) : (if c then t else e) = X := (if_pos h).trans k
theorem h_neg {α : Type} {c : Prop} [Decidable c] {t e X : α} (h : ¬ c) (k : e = X) : (if c then t else e) = X := (if_neg h).trans k
theorem h_ain {α : Type} {n : Nat} {k : Int} {F : Nat → Option α} {X : Option α} (h0 : 0 ≤ k) (h1 : k < n) (h2 : n < 2147483648) (kk : F k.toNat = X) : (ain n (Int32.ofInt k)).bind F = X := by
  rw [ain_i h0 h1 h2]; exact kk
theorem h_ainN {α : Type} {n k : Nat} {F : Nat → Option α} {X : Option α} (h1 : k < n) (h2 : n < 2147483648) (kk : F k = X) : (ain n (Int32.ofInt (k : Int))).bind F = X := by
  rw [ain_n h1 h2]; exact kk
theorem h_bind {α β : Type} {o : Option β} {v : β} {F : β → Option α} {X : Option α} (h : o = some v) (kk : F v = X) : o.bind F = X := by
  rw [h]; exact kk
theorem h_pst {α β : Type} {x : α} {k : α → β} {X : β} (kk : k x = X) : pSt x k = X := kk
theorem h_cases {α : Type} {c : Prop} [Decidable c] {t e X : α} (h1 : c → t = X) (h2 : ¬ c → e = X) : (if c then t else e) = X := by
  by_cases h : c
  · exact h_pos h (h1 h)
  · exact h_neg h (h2 h)
