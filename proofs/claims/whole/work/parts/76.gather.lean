/-! ===== the gathering ===== -/
theorem cg_iff {m x y : Nat} (hm : 0 < m) : x % m = y % m ↔ (m : Int) ∣ (x : Int) - (y : Int) := by
  constructor
  · intro h
    have h1 : ((x : Int) % (m : Int)) = ((y : Int) % (m : Int)) := by
      have : ((x % m : Nat) : Int) = ((y % m : Nat) : Int) := by rw [h]
      simpa using this
    exact Int.dvd_of_emod_eq_zero (Int.emod_eq_emod_iff_emod_sub_eq_zero.mp h1)
  · intro h
    have h1 : ((x : Int) % (m : Int)) = ((y : Int) % (m : Int)) := Int.emod_eq_emod_iff_emod_sub_eq_zero.mpr (Int.emod_eq_zero_of_dvd h)
    have h2 : ((x % m : Nat) : Int) = ((y % m : Nat) : Int) := by simpa using h1
    exact Int.ofNat.inj h2
theorem cg_lcm {m n : Nat} {z : Int} (h1 : (m : Int) ∣ z) (h2 : (n : Int) ∣ z) : ((Nat.lcm m n : Nat) : Int) ∣ z := by
  have a := Int.natAbs_dvd_natAbs.mpr h1
  have b := Int.natAbs_dvd_natAbs.mpr h2
  simp only [Int.natAbs_natCast] at a b
  exact Int.natAbs_dvd_natAbs.mp (by simpa using Nat.lcm_dvd a b)
theorem lcm_ok {L p : Nat} (hL : L ∣ 27720) (hp : 1 ≤ p ∧ p ≤ 12) : Nat.lcm L p ∣ 27720 := by
  refine Nat.lcm_dvd hL ?_
  have : ∀ p, p ≤ 12 → 1 ≤ p → p ∣ 27720 := by decide
  exact this p hp.2 hp.1
/-- all that aren't gone among the first b are due on a day -/
def satG (P F : Nat → Nat) (G : Nat → Bool) (b x : Nat) : Prop := ∀ k, k < b → G k = false → x % P k = F k
def jG (P F : Nat → Nat) (G : Nat → Bool) (D b d L : Nat) : Prop := D ≤ d ∧ 1 ≤ L ∧ L ∣ 27720 ∧ (∀ x, satG P F G b x ↔ x % L = d % L) ∧ d < D + L
theorem jG_least {P F : Nat → Nat} {G : Nat → Bool} {D b d L x : Nat} (h : jG P F G D b d L) (hx : D ≤ x) (hs : satG P F G b x) : ∃ t, x = d + t * L := by
  obtain ⟨h1, h2, h3, h4, h5⟩ := h
  have he := (cg_iff (by omega)).mp ((h4 x).mp hs)
  obtain ⟨c, hc⟩ := he
  have hc0 : 0 ≤ c := by
    by_cases hneg : c ≤ -1
    · have : (L : Int) * c ≤ (L : Int) * (-1) := Int.mul_le_mul_of_nonneg_left hneg (by omega)
      omega
    · omega
  obtain ⟨t, rfl⟩ := Int.eq_ofNat_of_zero_le hc0
  refine ⟨t, ?_⟩
  have e : ((L : Int) * (t : Int)) = ((t * L : Nat) : Int) := by simp [Int.mul_comm]
  omega
theorem jG_skip {P F : Nat → Nat} {G : Nat → Bool} {D b d L : Nat} (h : jG P F G D b d L) (hg : G b = true) : jG P F G D (b + 1) d L := by
  obtain ⟨h1, h2, h3, h4, h5⟩ := h
  refine ⟨h1, h2, h3, fun x => ?_, h5⟩
  rw [← h4 x]
  constructor
  · intro hs k hk hk2; exact hs k (by omega) hk2
  · intro hs k hk hk2
    by_cases e : k = b
    · subst e; rw [hg] at hk2; cases hk2
    · exact hs k (by omega) hk2
theorem jG_step {P F : Nat → Nat} {G : Nat → Bool} {D b d L : Nat} (h : jG P F G D b d L) (hg : G b = false) (hp : 1 ≤ P b ∧ P b ≤ 12) {i : Nat} (hi : (d + i * L) % P b = F b) (hl : ∀ j, j < i → (d + j * L) % P b ≠ F b) : jG P F G D (b + 1) (d + i * L) (Nat.lcm L (P b)) := by
  have hj := h
  obtain ⟨h1, h2, h3, h4, h5⟩ := h
  have hlp : 0 < Nat.lcm L (P b) := Nat.lcm_pos (by omega) (by omega)
  have hsat : ∀ x, satG P F G (b + 1) x ↔ satG P F G b x ∧ x % P b = F b := by
    intro x
    constructor
    · intro hs
      exact ⟨fun k hk hk2 => hs k (by omega) hk2, hs b (by omega) hg⟩
    · intro hs k hk hk2
      by_cases e : k = b
      · subst e; exact hs.2
      · exact hs.1 k (by omega) hk2
  have hL : ((L : Nat) : Int) ∣ ((d + i * L : Nat) : Int) - (d : Int) := ⟨i, by simp [Int.mul_comm]; omega⟩
  have hiff : ∀ x, satG P F G (b + 1) x ↔ x % Nat.lcm L (P b) = (d + i * L) % Nat.lcm L (P b) := by
    intro x
    rw [hsat, h4 x, cg_iff (by omega), cg_iff hlp, ← hi, cg_iff (by omega)]
    constructor
    · rintro ⟨a, c⟩
      refine cg_lcm ?_ c
      have e : (x : Int) - ((d + i * L : Nat) : Int) = ((x : Int) - (d : Int)) - (((d + i * L : Nat) : Int) - (d : Int)) := by omega
      rw [e]
      exact Int.dvd_sub a hL
    · intro a
      have q1 : ((L : Nat) : Int) ∣ ((Nat.lcm L (P b) : Nat) : Int) := Int.natCast_dvd_natCast.mpr (Nat.dvd_lcm_left _ _)
      have q2 : ((P b : Nat) : Int) ∣ ((Nat.lcm L (P b) : Nat) : Int) := Int.natCast_dvd_natCast.mpr (Nat.dvd_lcm_right _ _)
      refine ⟨?_, Int.dvd_trans q2 a⟩
      have e : (x : Int) - (d : Int) = ((x : Int) - ((d + i * L : Nat) : Int)) + (((d + i * L : Nat) : Int) - (d : Int)) := by omega
      rw [e]
      exact Int.dvd_add (Int.dvd_trans q1 a) hL
  refine ⟨by omega, hlp, lcm_ok h3 hp, hiff, ?_⟩
  by_cases hc : d + i * L < D + Nat.lcm L (P b)
  · exact hc
  · exfalso
    have hx : satG P F G (b + 1) (d + i * L - Nat.lcm L (P b)) := by
      rw [hiff, cg_iff hlp]
      exact ⟨-1, by omega⟩
    obtain ⟨t, ht⟩ := jG_least hj (by omega) ((hsat _).mp hx).1
    have hti : t < i := by
      by_cases q : t < i
      · exact q
      · have : i * L ≤ t * L := Nat.mul_le_mul_right _ (by omega)
        omega
    apply hl t hti
    rw [← ht]
    exact ((hsat _).mp hx).2
theorem jG_none {P F : Nat → Nat} {G : Nat → Bool} {D b d L : Nat} (h : jG P F G D b d L) (hg : G b = false) (hp : 1 ≤ P b) (hl : ∀ j, j < P b → (d + j * L) % P b ≠ F b) {m : Nat} (hm : b < m) : ∀ x, D ≤ x → ¬ satG P F G m x := by
  intro x hx hs
  have hsb : satG P F G b x := fun k hk hk2 => hs k (by omega) hk2
  obtain ⟨t, ht⟩ := jG_least h hx hsb
  have hxb := hs b hm hg
  apply hl (t % P b) (Nat.mod_lt _ (by omega))
  rw [← hxb, ht, cg_iff (by omega)]
  have e := Nat.mod_add_div t (P b)
  refine ⟨-((t / P b : Nat) * L : Int), ?_⟩
  have e2 : (t : Int) = ((t % P b : Nat) : Int) + ((P b : Nat) : Int) * ((t / P b : Nat) : Int) := by
    have : ((t % P b + P b * (t / P b) : Nat) : Int) = (t : Int) := by rw [e]
    simpa using this.symm
  have e3 : ((t * L : Nat) : Int) = ((t % P b : Nat) : Int) * (L : Int) + ((P b : Nat) : Int) * ((t / P b : Nat) : Int) * (L : Int) := by
    rw [Int.natCast_mul, e2, Int.add_mul]
  have e4 : ((t % P b * L : Nat) : Int) = ((t % P b : Nat) : Int) * (L : Int) := by simp
  rw [Int.mul_neg, ← Int.mul_assoc]
  push_cast at *
  omega
section PMS
variable {T : yK} {S : yS}
def pG (A : Nat → Int) (k : Nat) : Nat := (A (21 + k)).toNat
def fG (A : Nat → Int) (k : Nat) : Nat := (A (29 + k)).toNat
def gG (A : Nat → Int) (k : Nat) : Bool := tb (Int32.ofInt (A 12)) k
theorem g_bird (h : Rel T S) {k : Nat} (hk : (k : Int) < rv S 266 0) : (1 ≤ pG (rv S 266) k ∧ pG (rv S 266) k ≤ 12) ∧ fG (rv S 266) k < pG (rv S 266) k ∧ rv S 266 (21 + k) = (pG (rv S 266) k : Nat) ∧ rv S 266 (29 + k) = (fG (rv S 266) k : Nat) := by
  have h8 := R_i0 h
  have := R_bird h hk
  have := R_per h (show k < 8 by omega)
  have := R_pha h (show k < 8 by omega)
  unfold pG fG
  omega
theorem c_foF {N : Nat} {p f d L : Nat} (hp : 1 ≤ p ∧ p ≤ 12) (hf : f < p) (hd : d ≤ 40000) (hL : L ≤ 27720) {iz : Nat} (h1 : iz < p) (h2 : (d + iz * L) % p = f) (h3 : ∀ i : Nat, i < iz → (d + i * L) % p ≠ f) : ∀ (k n i : Nat), i + k = iz → k < n → lX11_firstOfHabit N n (Int32.ofInt (d : Int)) (Int32.ofInt (L : Int)) (Int32.ofInt (p : Int)) (Int32.ofInt (f : Int)) (Int32.ofInt (i : Int)) S = some (Int32.ofInt ((d + iz * L : Nat) : Int))
  | 0, n + 1, i, hk, _ => by
    have : i = iz := by omega
    subst this
    have hm : i * L ≤ 12 * 27720 := Nat.mul_le_mul (by omega) hL
    have e0 : (d : Int) + (i : Int) * (L : Int) = ((d + i * L : Nat) : Int) := by simp
    rw [lX11_firstOfHabit, i_mul, i_add, e0, i_rem (by omega) (by omega) (by omega) (by omega), show ((d + i * L : Nat) : Int) % (p : Int) = (((d + i * L) % p : Nat) : Int) by omega, h2]
    exact h_neg (by first | omega | ((simp (disch := omega) only [i0, i1, i_lt, i_le, i_eq, i_add, i_sub, i_mul, i_neg, i_ofNat, i_rem, i_div, w_in, w_in2, w_cnt, w_cnt2, z01, z01', il, li, lc_ge, lc_le, lc_gt, lc_lt, lc_eq, l_ofNat, l0, l_eq, l_lt, l_le]) <;> omega)) (h_neg (by first | omega | ((simp (disch := omega) only [i0, i1, i_lt, i_le, i_eq, i_add, i_sub, i_mul, i_neg, i_ofNat, i_rem, i_div, w_in, w_in2, w_cnt, w_cnt2, z01, z01', il, li, lc_ge, lc_le, lc_gt, lc_lt, lc_eq, l_ofNat, l0, l_eq, l_lt, l_le]) <;> omega)) (h_neg (by first | omega | ((simp (disch := omega) only [i0, i1, i_lt, i_le, i_eq, i_add, i_sub, i_mul, i_neg, i_ofNat, i_rem, i_div, w_in, w_in2, w_cnt, w_cnt2, z01, z01', il, li, lc_ge, lc_le, lc_gt, lc_lt, lc_eq, l_ofNat, l0, l_eq, l_lt, l_le]) <;> omega)) (h_neg (fun q => q rfl) rfl)))
  | k + 1, n + 1, i, hk, hn => by
    have hq := h3 i (by omega)
    have hm : i * L ≤ 12 * 27720 := Nat.mul_le_mul (by omega) hL
    have e0 : (d : Int) + (i : Int) * (L : Int) = ((d + i * L : Nat) : Int) := by simp
    have hmd := Nat.mod_lt (d + i * L) (show 0 < p by omega)
    rw [lX11_firstOfHabit, i_mul, i_add, e0, i_rem (by omega) (by omega) (by omega) (by omega), show ((d + i * L : Nat) : Int) % (p : Int) = (((d + i * L) % p : Nat) : Int) by omega, i_add, show (i : Int) + 1 = ((i + 1 : Nat) : Int) by omega]
    exact h_neg (by first | omega | ((simp (disch := omega) only [i0, i1, i_lt, i_le, i_eq, i_add, i_sub, i_mul, i_neg, i_ofNat, i_rem, i_div, w_in, w_in2, w_cnt, w_cnt2, z01, z01', il, li, lc_ge, lc_le, lc_gt, lc_lt, lc_eq, l_ofNat, l0, l_eq, l_lt, l_le]) <;> omega)) (h_neg (by first | omega | ((simp (disch := omega) only [i0, i1, i_lt, i_le, i_eq, i_add, i_sub, i_mul, i_neg, i_ofNat, i_rem, i_div, w_in, w_in2, w_cnt, w_cnt2, z01, z01', il, li, lc_ge, lc_le, lc_gt, lc_lt, lc_eq, l_ofNat, l0, l_eq, l_lt, l_le]) <;> omega)) (h_neg (by first | omega | ((simp (disch := omega) only [i0, i1, i_lt, i_le, i_eq, i_add, i_sub, i_mul, i_neg, i_ofNat, i_rem, i_div, w_in, w_in2, w_cnt, w_cnt2, z01, z01', il, li, lc_ge, lc_le, lc_gt, lc_lt, lc_eq, l_ofNat, l0, l_eq, l_lt, l_le]) <;> omega)) (h_pos (by first | omega | ((simp (disch := omega) only [i0, i1, i_lt, i_le, i_eq, i_add, i_sub, i_mul, i_neg, i_ofNat, i_rem, i_div, w_in, w_in2, w_cnt, w_cnt2, z01, z01', il, li, lc_ge, lc_le, lc_gt, lc_lt, lc_eq, l_ofNat, l0, l_eq, l_lt, l_le]) <;> omega)) (c_foF hp hf hd hL h1 h2 h3 k n (i + 1) (by omega) (by omega)))))
theorem c_foN {N : Nat} {p f d L : Nat} (hp : 1 ≤ p ∧ p ≤ 12) (hf : f < p) (hd : d ≤ 40000) (hL : L ≤ 27720) (h3 : ∀ i : Nat, i < p → (d + i * L) % p ≠ f) : ∀ (k n i : Nat), i + k = p → k < n → lX11_firstOfHabit N n (Int32.ofInt (d : Int)) (Int32.ofInt (L : Int)) (Int32.ofInt (p : Int)) (Int32.ofInt (f : Int)) (Int32.ofInt (i : Int)) S = some (Int32.ofInt (-1))
  | 0, n + 1, i, hk, _ => by
    rw [lX11_firstOfHabit]
    exact h_neg (by first | omega | ((simp (disch := omega) only [i0, i1, i_lt, i_le, i_eq, i_add, i_sub, i_mul, i_neg, i_ofNat, i_rem, i_div, w_in, w_in2, w_cnt, w_cnt2, z01, z01', il, li, lc_ge, lc_le, lc_gt, lc_lt, lc_eq, l_ofNat, l0, l_eq, l_lt, l_le]) <;> omega)) (h_pos (by first | omega | ((simp (disch := omega) only [i0, i1, i_lt, i_le, i_eq, i_add, i_sub, i_mul, i_neg, i_ofNat, i_rem, i_div, w_in, w_in2, w_cnt, w_cnt2, z01, z01', il, li, lc_ge, lc_le, lc_gt, lc_lt, lc_eq, l_ofNat, l0, l_eq, l_lt, l_le]) <;> omega)) rfl)
  | k + 1, n + 1, i, hk, hn => by
    have hq := h3 i (by omega)
    have hm : i * L ≤ 12 * 27720 := Nat.mul_le_mul (by omega) hL
    have e0 : (d : Int) + (i : Int) * (L : Int) = ((d + i * L : Nat) : Int) := by simp
    have hmd := Nat.mod_lt (d + i * L) (show 0 < p by omega)
    rw [lX11_firstOfHabit, i_mul, i_add, e0, i_rem (by omega) (by omega) (by omega) (by omega), show ((d + i * L : Nat) : Int) % (p : Int) = (((d + i * L) % p : Nat) : Int) by omega, i_add, show (i : Int) + 1 = ((i + 1 : Nat) : Int) by omega]
    exact h_neg (by first | omega | ((simp (disch := omega) only [i0, i1, i_lt, i_le, i_eq, i_add, i_sub, i_mul, i_neg, i_ofNat, i_rem, i_div, w_in, w_in2, w_cnt, w_cnt2, z01, z01', il, li, lc_ge, lc_le, lc_gt, lc_lt, lc_eq, l_ofNat, l0, l_eq, l_lt, l_le]) <;> omega)) (h_neg (by first | omega | ((simp (disch := omega) only [i0, i1, i_lt, i_le, i_eq, i_add, i_sub, i_mul, i_neg, i_ofNat, i_rem, i_div, w_in, w_in2, w_cnt, w_cnt2, z01, z01', il, li, lc_ge, lc_le, lc_gt, lc_lt, lc_eq, l_ofNat, l0, l_eq, l_lt, l_le]) <;> omega)) (h_neg (by first | omega | ((simp (disch := omega) only [i0, i1, i_lt, i_le, i_eq, i_add, i_sub, i_mul, i_neg, i_ofNat, i_rem, i_div, w_in, w_in2, w_cnt, w_cnt2, z01, z01', il, li, lc_ge, lc_le, lc_gt, lc_lt, lc_eq, l_ofNat, l0, l_eq, l_lt, l_le]) <;> omega)) (h_pos (by first | omega | ((simp (disch := omega) only [i0, i1, i_lt, i_le, i_eq, i_add, i_sub, i_mul, i_neg, i_ofNat, i_rem, i_div, w_in, w_in2, w_cnt, w_cnt2, z01, z01', il, li, lc_ge, lc_le, lc_gt, lc_lt, lc_eq, l_ofNat, l0, l_eq, l_lt, l_le]) <;> omega)) (c_foN hp hf hd hL h3 k n (i + 1) (by omega) (by omega)))))
theorem first_ex {p : Nat} {Q : Nat → Prop} [DecidablePred Q] : ∀ n, (∀ i, i < n → ¬ Q i) ∨ ∃ i, i < n ∧ Q i ∧ ∀ j, j < i → ¬ Q j
  | 0 => Or.inl (fun i hi => by omega)
  | n + 1 => by
    rcases first_ex (p := p) (Q := Q) n with hq | ⟨i, h1, h2, h3⟩
    · by_cases hn : Q n
      · exact Or.inr ⟨n, by omega, hn, hq⟩
      · exact Or.inl (fun i hi => by
          by_cases e : i = n
          · subst e; exact hn
          · exact hq i (by omega))
    · exact Or.inr ⟨i, by omega, h2, h3⟩
theorem c_lcm {N : Nat} (hN : 2000000 ≤ N) {L p : Nat} (hL : 1 ≤ L ∧ L ≤ 27720) (hp : 1 ≤ p ∧ p ≤ 12) : fX11_leastCommon N (Int32.ofInt (L : Int)) (Int32.ofInt (p : Int)) S = some (Int32.ofInt (Nat.lcm L p : Nat)) := by
  unfold fX11_leastCommon fX11_greatestCommon
  rw [il (by omega) (by omega), il (by omega) (by omega)]
  have hg0 : 0 < Nat.gcd L p := Nat.gcd_pos_of_pos_right _ (by omega)
  have hg1 : Nat.gcd L p ≤ p := Nat.gcd_le_right _ (by omega)
  have hgd : Nat.gcd L p ∣ L := Nat.gcd_dvd_left _ _
  refine h_bind (c_gcd 4 N L p 0 (by omega) (by omega) (by omega) (by omega) (by omega)) ?_
  have e : L / Nat.gcd L p * p = Nat.lcm L p := by
    unfold Nat.lcm
    rw [Nat.mul_comm L p, Nat.mul_div_assoc _ hgd, Nat.mul_comm]
  rw [← e]
  generalize Nat.gcd L p = g at *
  have hq : L / g ≤ L := Nat.div_le_self _ _
  refine h_pos (by first | omega | ((simp (disch := omega) only [i0, i1, i_lt, i_le, i_eq, i_add, i_sub, i_mul, i_neg, i_ofNat, i_rem, i_div, w_in, w_in2, w_cnt, w_cnt2, z01, z01', il, li, lc_ge', lc_le', lc_gt', lc_lt', lc_eq', l_ofNat, l0, l_eq, l_lt, l_le, l_add, l_mul]) <;> omega)) (h_neg (by first | omega | ((simp (disch := omega) only [i0, i1, i_lt, i_le, i_eq, i_add, i_sub, i_mul, i_neg, i_ofNat, i_rem, i_div, w_in, w_in2, w_cnt, w_cnt2, z01, z01', il, li, lc_ge', lc_le', lc_gt', lc_lt', lc_eq', l_ofNat, l0, l_eq, l_lt, l_le, l_add, l_mul]) <;> omega)) ?_)
  rw [l_div (by omega) (by omega) (by omega) (by omega), li, i_mul]
  congr 2
theorem c_gaL (h : Rel T S) {N : Nat} (hN : 2000000 ≤ N) {D : Nat} (hD : rv S 266 6 = (D : Nat)) : ∀ (m n b d L : Nat) (z : Int), (b : Int) + m = rv S 266 0 → m < n → jG (pG (rv S 266)) (fG (rv S 266)) (gG (rv S 266)) D b d L → ((z = 0 ∧ ∀ k, k < b → gG (rv S 266) k = true) ∨ (z = 1 ∧ ∃ k, k < b ∧ gG (rv S 266) k = false)) → ∃ v : Int, lX11_gather N n (Int32.ofInt (d : Int)) (Int32.ofInt (L : Int)) (Int32.ofInt z) (Int32.ofInt (b : Int)) S = some (Int32.ofInt v) ∧ ((v = -1 ∧ ((∀ k, k < b + m → gG (rv S 266) k = true) ∨ (∃ k, k < b + m ∧ gG (rv S 266) k = false) ∧ ∀ x, D ≤ x → ¬ satG (pG (rv S 266)) (fG (rv S 266)) (gG (rv S 266)) (b + m) x)) ∨ ∃ d' L' : Nat, v = d' ∧ (∃ k, k < b + m ∧ gG (rv S 266) k = false) ∧ jG (pG (rv S 266)) (fG (rv S 266)) (gG (rv S 266)) D (b + m) d' L')
  | 0, n + 1, b, d, L, z, hm, _, hj, hz => by
    have h8 := R_i0 h
    rw [lX11_gather, C_birds h]
    rcases hz with ⟨rfl, hz⟩ | ⟨rfl, hz⟩
    · exact ⟨-1, h_pos (by first | omega | ((simp (disch := omega) only [i0, i1, i_lt, i_le, i_eq, i_add, i_sub, i_mul, i_neg, i_ofNat, i_rem, i_div, w_in, w_in2, w_cnt, w_cnt2, z01, z01', il, li, lc_ge, lc_le, lc_gt, lc_lt, lc_eq, l_ofNat, l0, l_eq, l_lt, l_le]) <;> omega)) (h_pos rfl rfl), Or.inl ⟨rfl, Or.inl hz⟩⟩
    · exact ⟨d, h_pos (by first | omega | ((simp (disch := omega) only [i0, i1, i_lt, i_le, i_eq, i_add, i_sub, i_mul, i_neg, i_ofNat, i_rem, i_div, w_in, w_in2, w_cnt, w_cnt2, z01, z01', il, li, lc_ge, lc_le, lc_gt, lc_lt, lc_eq, l_ofNat, l0, l_eq, l_lt, l_le]) <;> omega)) (h_neg (by decide) rfl), Or.inr ⟨d, L, rfl, hz, hj⟩⟩
  | m + 1, n + 1, b, d, L, z, hm, hn, hj, hz => by
    have h8 := R_i0 h
    have h6 := R_day h
    obtain ⟨g1, g2, g3, g4⟩ := g_bird h (show (b : Int) < rv S 266 0 by omega)
    have hL := Nat.le_of_dvd (by omega) hj.2.2.1
    have hL1 := hj.2.1
    have hd := hj.2.2.2.2
    rw [lX11_gather, C_birds h, i_add, show (b : Int) + 1 = ((b + 1 : Nat) : Int) by omega]
    have hgo := c_gone h (show b < 32 by omega)
    cases hg : gG (rv S 266) b with
    | true =>
      have hg' : tb (Int32.ofInt (rv S 266 12)) b = true := hg
      rw [hg'] at hgo
      obtain ⟨v, e1, e2⟩ := c_gaL h hN hD m n (b + 1) d L z (by omega) (by omega) (jG_skip hj hg) (by
        rcases hz with ⟨a, c⟩ | ⟨a, k, c1, c2⟩
        · refine Or.inl ⟨a, fun k hk => ?_⟩
          by_cases e : k = b
          · subst e; exact hg
          · exact c k (by omega)
        · exact Or.inr ⟨a, k, by omega, c2⟩)
      rw [show b + 1 + m = b + (m + 1) by omega] at e2
      exact ⟨v, h_neg (by first | omega | ((simp (disch := omega) only [i0, i1, i_lt, i_le, i_eq, i_add, i_sub, i_mul, i_neg, i_ofNat, i_rem, i_div, w_in, w_in2, w_cnt, w_cnt2, z01, z01', il, li, lc_ge, lc_le, lc_gt, lc_lt, lc_eq, l_ofNat, l0, l_eq, l_lt, l_le]) <;> omega)) (h_bind hgo (h_neg (by decide) e1)), e2⟩
    | false =>
      have hg' : tb (Int32.ofInt (rv S 266 12)) b = false := hg
      rw [hg'] at hgo
      rcases first_ex (p := 0) (Q := fun i => (d + i * L) % pG (rv S 266) b = fG (rv S 266) b) (pG (rv S 266) b) with hno | ⟨i, i1, i2, i3⟩
      · have e := c_foN (S := S) (N := N) g1 g2 (show d ≤ 40000 by omega) hL hno (pG (rv S 266) b) N 0 (by omega) (by omega)
        refine ⟨-1, h_neg (by first | omega | ((simp (disch := omega) only [i0, i1, i_lt, i_le, i_eq, i_add, i_sub, i_mul, i_neg, i_ofNat, i_rem, i_div, w_in, w_in2, w_cnt, w_cnt2, z01, z01', il, li, lc_ge, lc_le, lc_gt, lc_lt, lc_eq, l_ofNat, l0, l_eq, l_lt, l_le]) <;> omega)) (h_bind hgo (h_pos (by decide) (h_ainN (by omega) (by omega) (h_ainN (by omega) (by omega) ?_)))), Or.inl ⟨rfl, Or.inr ⟨⟨b, by omega, hg⟩, jG_none hj hg g1.1 hno (by omega)⟩⟩⟩
        rw [C_per h (by omega), C_pha h (by omega), g3, g4]
        exact h_bind e (h_neg (by decide) rfl)
      · have e := c_foF (S := S) (N := N) g1 g2 (show d ≤ 40000 by omega) hL i1 i2 i3 i N 0 (by omega) (by omega)
        have hj' := jG_step hj hg g1 i2 i3
        have hL' := Nat.le_of_dvd (by omega) hj'.2.2.1
        obtain ⟨v, e1, e2⟩ := c_gaL h hN hD m n (b + 1) (d + i * L) (Nat.lcm L (pG (rv S 266) b)) 1 (by omega) (by omega) hj' (Or.inr ⟨rfl, b, by omega, hg⟩)
        rw [show b + 1 + m = b + (m + 1) by omega] at e2
        refine ⟨v, h_neg (by first | omega | ((simp (disch := omega) only [i0, i1, i_lt, i_le, i_eq, i_add, i_sub, i_mul, i_neg, i_ofNat, i_rem, i_div, w_in, w_in2, w_cnt, w_cnt2, z01, z01', il, li, lc_ge, lc_le, lc_gt, lc_lt, lc_eq, l_ofNat, l0, l_eq, l_lt, l_le]) <;> omega)) (h_bind hgo (h_pos (by decide) (h_ainN (by omega) (by omega) (h_ainN (by omega) (by omega) ?_)))), e2⟩
        rw [C_per h (by omega), C_pha h (by omega), g3, g4]
        have hm2 : i * L ≤ 12 * 27720 := Nat.mul_le_mul (by omega) hL
        refine h_bind e (h_pos (by first | omega | ((simp (disch := omega) only [i0, i1, i_lt, i_le, i_eq, i_add, i_sub, i_mul, i_neg, i_ofNat, i_rem, i_div, w_in, w_in2, w_cnt, w_cnt2, z01, z01', il, li, lc_ge, lc_le, lc_gt, lc_lt, lc_eq, l_ofNat, l0, l_eq, l_lt, l_le]) <;> omega)) (h_ainN (by omega) (by omega) ?_))
        rw [C_per h (by omega), g3]
        exact h_bind (c_lcm hN (by omega) g1) e1
theorem here_tb : ∀ m : Nat, m ≤ 8 → ∀ c, c < 32 → tb ((Int32.ofInt 1 <<< (Int32.ofInt (m : Int) &&& 31)) - Int32.ofInt 1) c = decide (c < m) := by decide +kernel
def hereS (A : Nat → Int) : Int32 := ((Int32.ofInt 1 <<< (Int32.ofInt (A 0) &&& 31)) - Int32.ofInt 1) &&& (Int32.ofInt (A 12) ^^^ Int32.ofInt (-1))
theorem here_c (h : Rel T S) {c : Nat} (hc : c < 32) : tb (hereS (rv S 266)) c = (decide ((c : Int) < rv S 266 0) && !(gG (rv S 266) c)) := by
  have h8 := R_i0 h
  unfold hereS gG
  rw [tb_and, tb_xor, tb_m1 c hc, show rv S 266 0 = ((rv S 266 0).toNat : Int) by omega, here_tb _ (by omega) c hc]
  congr 1
  · by_cases q : c < (rv S 266 0).toNat
    · rw [decide_eq_true q, decide_eq_true (by omega)]
    · rw [decide_eq_false q, decide_eq_false (by omega)]
  · simp
theorem due_here (h : Rel T S) (x : Nat) : (dueS (rv S 266) (x : Int) = hereS (rv S 266)) ↔ satG (pG (rv S 266)) (fG (rv S 266)) (gG (rv S 266)) (rv S 266 0).toNat x := by
  have h8 := R_i0 h
  have hd : ∀ c, c < 32 → tb (dueS (rv S 266) (x : Int)) c = (decide ((c : Int) < rv S 266 0) && dueB (rv S 266) (x : Int) c) := by
    intro c hc
    unfold dueS
    rw [tb_orB _ _ _ _ (by omega) hc, tb_0, Bool.false_or]
    congr 1
    by_cases q : (c : Int) < rv S 266 0
    · rw [decide_eq_true q, decide_eq_true (by omega)]
    · rw [decide_eq_false q, decide_eq_false (by omega)]
  constructor
  · intro e k hk hg
    have hkb : (k : Int) < rv S 266 0 := by omega
    obtain ⟨g1, g2, g3, g4⟩ := g_bird h hkb
    have a := hd k (by omega)
    have b := here_c h (show k < 32 by omega)
    rw [e, b, decide_eq_true hkb, hg] at a
    have a2 : dueB (rv S 266) (x : Int) k = true := by simpa using a.symm
    unfold dueB at a2
    rw [Bool.and_eq_true] at a2
    have a3 := of_decide_eq_true a2.2
    rw [g3, g4] at a3
    omega
  · intro hs
    apply tb_ext
    intro c hc
    rw [hd c hc, here_c h hc]
    by_cases hcb : (c : Int) < rv S 266 0
    · obtain ⟨g1, g2, g3, g4⟩ := g_bird h hcb
      rw [decide_eq_true hcb, Bool.true_and, Bool.true_and]
      unfold dueB
      show (!(gG (rv S 266) c) && _) = _
      cases hg : gG (rv S 266) c with
      | true => rfl
      | false =>
        have := hs c (by omega) hg
        rw [g3, g4, decide_eq_true (by omega)]
        rfl
    · rw [decide_eq_false hcb]; rfl
theorem here_0 (h : Rel T S) : hereS (rv S 266) = 0 ↔ ∀ k, k < (rv S 266 0).toNat → gG (rv S 266) k = true := by
  have h8 := R_i0 h
  constructor
  · intro e k hk
    have b := here_c h (show k < 32 by omega)
    rw [e, show tb (0 : Int32) k = false from tb_0 k, decide_eq_true (by omega)] at b
    cases hg : gG (rv S 266) k with
    | true => rfl
    | false => rw [hg] at b; cases b
  · intro hs
    apply tb_ext
    intro c hc
    rw [here_c h hc, show tb (0 : Int32) c = false from tb_0 c]
    by_cases hcb : (c : Int) < rv S 266 0
    · rw [hs c (by omega)]; simp
    · rw [decide_eq_false hcb]; rfl
theorem r_gaN (h : Rel T S) {N : Nat} (hN : 2000000 ≤ N) {D : Nat} (hD : rv S 266 6 = (D : Nat)) (h0 : ¬ hereS (rv S 266) = 0) (hno : ∀ x, D ≤ x → ¬ satG (pG (rv S 266)) (fG (rv S 266)) (gG (rv S 266)) (rv S 266 0).toNat x) : ∀ (m n k : Nat), k + m = 27720 → m < n → lX12_gather N n (hereS (rv S 266)) (Int32.ofInt (k : Int)) S = some (Int32.ofInt (-1))
  | 0, n + 1, k, hm, _ => by
    rw [lX12_gather]
    exact h_pos (by first | omega | ((simp (disch := omega) only [i0, i1, i_lt, i_le, i_eq, i_add, i_sub, i_mul, i_neg, i_ofNat, i_rem, i_div, w_in, w_in2, w_cnt, w_cnt2, z01, z01', il, li, lc_ge, lc_le, lc_gt, lc_lt, lc_eq, l_ofNat, l0, l_eq, l_lt, l_le]) <;> omega)) rfl
  | m + 1, n + 1, k, hm, hn => by
    rw [lX12_gather]
    refine h_neg (by first | omega | ((simp (disch := omega) only [i0, i1, i_lt, i_le, i_eq, i_add, i_sub, i_mul, i_neg, i_ofNat, i_rem, i_div, w_in, w_in2, w_cnt, w_cnt2, z01, z01', il, li, lc_ge, lc_le, lc_gt, lc_lt, lc_eq, l_ofNat, l0, l_eq, l_lt, l_le]) <;> omega)) (h_neg h0 (h_bind (r_dueS h hN (by omega)) (h_pos ?_ ?_)))
    · intro e
      rw [hD, show (D : Int) + (k : Int) = ((D + k : Nat) : Int) by omega, due_here h] at e
      exact hno _ (by omega) e
    · rw [i_add, show (k : Int) + 1 = ((k + 1 : Nat) : Int) by omega]
      exact r_gaN h hN hD h0 hno m n (k + 1) (by omega) (by omega)
theorem r_gaY (h : Rel T S) {N : Nat} (hN : 2000000 ≤ N) {D d L : Nat} (hD : rv S 266 6 = (D : Nat)) (h0 : ¬ hereS (rv S 266) = 0) (hj : jG (pG (rv S 266)) (fG (rv S 266)) (gG (rv S 266)) D (rv S 266 0).toNat d L) : ∀ (m n k : Nat), D + k + m = d → m < n → lX12_gather N n (hereS (rv S 266)) (Int32.ofInt (k : Int)) S = some (Int32.ofInt (d : Int))
  | 0, n + 1, k, hm, _ => by
    have hL := Nat.le_of_dvd (by omega) hj.2.2.1
    have hd := hj.2.2.2.2
    rw [lX12_gather]
    refine h_neg (by first | omega | ((simp (disch := omega) only [i0, i1, i_lt, i_le, i_eq, i_add, i_sub, i_mul, i_neg, i_ofNat, i_rem, i_div, w_in, w_in2, w_cnt, w_cnt2, z01, z01', il, li, lc_ge, lc_le, lc_gt, lc_lt, lc_eq, l_ofNat, l0, l_eq, l_lt, l_le]) <;> omega)) (h_neg h0 (h_bind (r_dueS h hN (by omega)) (h_neg (fun q => q ?_) ?_)))
    · rw [hD, show (D : Int) + (k : Int) = ((D + k : Nat) : Int) by omega, due_here h, hj.2.2.2.1, show D + k = d by omega]
    · rw [rv_eq S 266 6, hD, i_add]
      congr 2; omega
  | m + 1, n + 1, k, hm, hn => by
    have hL := Nat.le_of_dvd (by omega) hj.2.2.1
    have hd := hj.2.2.2.2
    rw [lX12_gather]
    refine h_neg (by first | omega | ((simp (disch := omega) only [i0, i1, i_lt, i_le, i_eq, i_add, i_sub, i_mul, i_neg, i_ofNat, i_rem, i_div, w_in, w_in2, w_cnt, w_cnt2, z01, z01', il, li, lc_ge, lc_le, lc_gt, lc_lt, lc_eq, l_ofNat, l0, l_eq, l_lt, l_le]) <;> omega)) (h_neg h0 (h_bind (r_dueS h hN (by omega)) (h_pos ?_ ?_)))
    · intro e
      rw [hD, show (D : Int) + (k : Int) = ((D + k : Nat) : Int) by omega, due_here h] at e
      obtain ⟨t, ht⟩ := jG_least hj (by omega) e
      omega
    · rw [i_add, show (k : Int) + 1 = ((k + 1 : Nat) : Int) by omega]
      exact r_gaY h hN hD h0 hj m n (k + 1) (by omega) (by omega)
theorem pm_gather (h : Rel T S) {N : Nat} (hN : 2000000 ≤ N) : PM0 S (fX11_gather N) (fX12_gather N) := by
  have h8 := R_i0 h
  have h6 := R_day h
  obtain ⟨D, hD⟩ := Int.eq_ofNat_of_zero_le h6.1
  have hj0 : jG (pG (rv S 266)) (fG (rv S 266)) (gG (rv S 266)) D 0 D 1 := ⟨Nat.le_refl _, Nat.le_refl _, Nat.one_dvd _, fun x => ⟨fun _ => by omega, fun _ k hk => by omega⟩, by omega⟩
  obtain ⟨v, e1, e2⟩ := c_gaL h hN hD (rv S 266 0).toNat N 0 D 1 0 (by omega) (by omega) hj0 (Or.inl ⟨rfl, fun k hk => by omega⟩)
  rw [Nat.zero_add] at e2
  have eH : ((Int32.ofInt 1 <<< (S.2.2.1 266 0 &&& 31)) - Int32.ofInt 1) &&& (S.2.2.1 266 12 ^^^ Int32.ofInt (-1)) = hereS (rv S 266) := by rw [rv_eq S 266 0, rv_eq S 266 12]; rfl
  refine ⟨Int32.ofInt v, ?_, ?_⟩
  · unfold fX11_gather
    rw [C_day h, hD]
    exact e1
  · unfold fX12_gather
    refine h_pst ?_
    rw [eH]
    rcases e2 with ⟨rfl, e3 | ⟨⟨k, k1, k2⟩, e4⟩⟩ | ⟨d', L', rfl, ⟨k, k1, k2⟩, hj⟩
    · have key : ∀ M, 1 ≤ M → lX12_gather N M (hereS (rv S 266)) (Int32.ofInt 0) S = some (Int32.ofInt (-1)) := by
        intro M hM
        obtain ⟨j, rfl⟩ : ∃ j, M = j + 1 := ⟨M - 1, by omega⟩
        rw [lX12_gather]
        exact h_neg (by decide) (h_pos ((here_0 h).mpr e3) rfl)
      exact key N (by omega)
    · have h0 : ¬ hereS (rv S 266) = 0 := fun e => by
        have := (here_0 h).mp e k k1
        rw [k2] at this
        cases this
      exact r_gaN h hN hD h0 e4 27720 N 0 (by omega) (by omega)
    · have h0 : ¬ hereS (rv S 266) = 0 := fun e => by
        have := (here_0 h).mp e k k1
        rw [k2] at this
        cases this
      have hL := Nat.le_of_dvd (by omega) hj.2.2.1
      have hd1 := hj.1
      have hd := hj.2.2.2.2
      exact r_gaY h hN hD h0 hj (d' - D) N 0 (by omega) (by omega)
end PMS
