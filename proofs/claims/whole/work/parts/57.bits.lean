/-! ===== sets as bits ===== -/
def tb (x : Int32) (b : Nat) : Bool := x.toBitVec.getLsbD b
theorem sh_b : ∀ b : Nat, b < 32 → ((Int32.ofInt (b : Int) &&& 31).toBitVec.smod 32).toNat = b := by decide +kernel
theorem tb_sh (x : Int32) {b : Nat} (hb : b < 32) : (((x >>> (Int32.ofInt (b : Int) &&& 31)) &&& Int32.ofInt 1) = Int32.ofInt 1) = (tb x b = true) := by
  have e : ((x >>> (Int32.ofInt (b : Int) &&& 31)) &&& Int32.ofInt 1).toBitVec = (BitVec.ofBool (x.toBitVec.getLsbD b)).setWidth 32 := by
    have e0 : (Int32.ofInt 1).toBitVec = 1#32 := rfl
    rw [Int32.toBitVec_and, Int32.toBitVec_shiftRight, e0, BitVec.and_one_eq_setWidth_ofBool_getLsbD]
    congr 2
    rw [BitVec.sshiftRight', sh_b b hb, BitVec.getLsbD_sshiftRight]
    simp
    intro h
    omega
  apply propext
  constructor
  · intro h
    rw [h] at e
    unfold tb
    cases hx : x.toBitVec.getLsbD b with
    | true => rfl
    | false => rw [hx] at e; exact absurd e (by decide)
  · intro h
    unfold tb at h
    rw [h] at e
    exact Int32.toBitVec_inj.mp e
theorem has_tb (x : Int32) {b : Nat} (hb : b < 32) : fX12_has x (Int32.ofInt (b : Int)) = Int32.ofInt (if tb x b = true then 1 else 0) := by
  unfold fX12_has
  simp only [tb_sh x hb]
  cases tb x b <;> rfl
theorem in_tb (x : Int32) {b : Nat} (hb : b < 32) : fX11_isIn x (Int32.ofInt (b : Int)) = Int32.ofInt (if tb x b = true then 1 else 0) := has_tb x hb
theorem tb_or (x y : Int32) (b : Nat) : tb (x ||| y) b = (tb x b || tb y b) := by unfold tb; rw [Int32.toBitVec_or, BitVec.getLsbD_or]
theorem tb_and (x y : Int32) (b : Nat) : tb (x &&& y) b = (tb x b && tb y b) := by unfold tb; rw [Int32.toBitVec_and, BitVec.getLsbD_and]
theorem tb_xor (x y : Int32) (b : Nat) : tb (x ^^^ y) b = (tb x b ^^ tb y b) := by unfold tb; rw [Int32.toBitVec_xor, BitVec.getLsbD_xor]
theorem tb_m1 : ∀ b, b < 32 → tb (Int32.ofInt (-1)) b = true := by decide
theorem tb_0 (b : Nat) : tb (Int32.ofInt 0) b = false := by
  unfold tb
  show (0#32).getLsbD b = false
  simp
theorem tb_1sh : ∀ b : Nat, b < 16 → ∀ c, c < 32 → tb (Int32.ofInt 1 <<< (Int32.ofInt (b : Int) &&& 31)) c = decide (c = b) := by decide +kernel
theorem tb_ext {x y : Int32} (h : ∀ b, b < 32 → tb x b = tb y b) : x = y := by
  apply Int32.toBitVec_inj.mp
  apply BitVec.eq_of_getLsbD_eq
  intro i hi
  exact h i hi
/-- a set by what is asked of each from b on -/
def orB (p : Nat → Bool) : Nat → Nat → Int32 → Int32
  | _, 0, x => x
  | b, m + 1, x => orB p (b + 1) m (if p b then x ||| (Int32.ofInt 1 <<< (Int32.ofInt (b : Int) &&& 31)) else x)
theorem orB_congr {p q : Nat → Bool} : ∀ (m b : Nat) (x : Int32), (∀ k, b ≤ k → k < b + m → p k = q k) → orB p b m x = orB q b m x
  | 0, _, _, _ => rfl
  | m + 1, b, x, h => by
    unfold orB
    rw [h b (Nat.le_refl _) (by omega)]
    exact orB_congr m (b + 1) _ (fun k h1 h2 => h k (by omega) (by omega))
theorem tb_orB {p : Nat → Bool} : ∀ (m b : Nat) (x : Int32) (c : Nat), b + m ≤ 16 → c < 32 → tb (orB p b m x) c = (tb x c || (decide (b ≤ c ∧ c < b + m) && p c))
  | 0, b, x, c, _, _ => by
    unfold orB
    rw [show decide (b ≤ c ∧ c < b + 0) = false from decide_eq_false (by omega)]
    simp
  | m + 1, b, x, c, h, hc => by
    unfold orB
    rw [tb_orB m (b + 1) _ c (by omega) hc]
    have e : tb (if p b = true then x ||| (Int32.ofInt 1 <<< (Int32.ofInt (b : Int) &&& 31)) else x) c = (tb x c || (decide (c = b) && p b)) := by
      cases hp : p b with
      | true => rw [if_pos rfl, tb_or, tb_1sh b (by omega) c hc]; simp
      | false => simp
    rw [e]
    by_cases hcb : c = b
    · subst hcb
      rw [show decide (c = c) = true from decide_eq_true rfl, show decide (c + 1 ≤ c ∧ c < c + 1 + m) = false from decide_eq_false (by omega), show decide (c ≤ c ∧ c < c + (m + 1)) = true from decide_eq_true (by omega)]
      simp
    · rw [show decide (c = b) = false from decide_eq_false hcb]
      by_cases hr : b ≤ c ∧ c < b + (m + 1)
      · rw [show decide (b + 1 ≤ c ∧ c < b + 1 + m) = true from decide_eq_true (by omega), show decide (b ≤ c ∧ c < b + (m + 1)) = true from decide_eq_true hr]; simp
      · rw [show decide (b + 1 ≤ c ∧ c < b + 1 + m) = false from decide_eq_false (by omega), show decide (b ≤ c ∧ c < b + (m + 1)) = false from decide_eq_false hr]; simp
theorem tb_nat : ∀ g : Nat, g < 256 → ∀ b, b < 32 → tb (Int32.ofInt (g : Int)) b = g.testBit b := by decide +kernel
/-- how many bits -/
def pc8 (g : Nat) : Nat := (List.range 8).foldl (fun n b => if g.testBit b then n + 1 else n) 0
theorem pc8_a : ∀ g : Nat, g < 256 → fJ6_bitCount_0f7a4 (Int32.ofInt (g : Int)) = Int32.ofInt (pc8 g : Nat) := by decide +kernel
theorem pc8_le : ∀ g : Nat, g < 256 → pc8 g ≤ 8 := by decide +kernel
def pBits : Nat → Int32 → Int32 → Option Int32
  | 0, _, _ => none
  | n + 1, l1, l2 => if l2 = 0 then some l1 else pBits n (l1 + Int32.ofInt 1) (l2 &&& (l2 - Int32.ofInt 1))
theorem pBits_eq {N : Nat} {S : yS} : ∀ n l1 l2, lX12_bits N n l1 l2 S = pBits n l1 l2
  | 0, _, _ => rfl
  | n + 1, l1, l2 => by
    rw [lX12_bits, pBits]
    split
    · rfl
    · exact pBits_eq n _ _
theorem pBits_more : ∀ n m l1 l2 v, pBits n l1 l2 = some v → pBits (n + m) l1 l2 = some v
  | 0, m, l1, l2, v, h => by cases h
  | n + 1, m, l1, l2, v, h => by
    rw [show n + 1 + m = (n + m) + 1 by omega]
    unfold pBits at h ⊢
    split
    · rename_i hc; rw [if_pos hc] at h; exact h
    · rename_i hc; rw [if_neg hc] at h; exact pBits_more n m _ _ v h
theorem pc8_p : ∀ g : Nat, g < 256 → pBits 10 (Int32.ofInt 0) (Int32.ofInt (g : Int)) = some (Int32.ofInt (pc8 g : Nat)) := by decide +kernel
theorem pc8_b {N : Nat} {S : yS} (hN : 10 ≤ N) {g : Nat} (hg : g < 256) : fX12_bits N (Int32.ofInt (g : Int)) S = some (Int32.ofInt (pc8 g : Nat)) := by
  unfold fX12_bits
  rw [pBits_eq, show N = 10 + (N - 10) by omega]
  exact pBits_more 10 _ _ _ _ (pc8_p g hg)
