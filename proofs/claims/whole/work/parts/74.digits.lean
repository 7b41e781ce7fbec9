/-! ===== numbers of any length ===== -/
def crD (c : Nat) : List Nat := if c = 0 then [] else if c < 10 then [c] else [c % 10, c / 10]
def mpD (a : Nat) : Nat → List Nat → List Nat
  | _, [] => []
  | c, d :: R => ((c + d * a) % 10) :: mpD a ((c + d * a) / 10) R
def mpC (a : Nat) : Nat → List Nat → Nat
  | c, [] => c
  | c, d :: R => mpC a ((c + d * a) / 10) R
def mulD (a : Nat) (R : List Nat) : List Nat := mpD a 0 R ++ crD (mpC a 0 R)
def vlD : List Nat → Nat
  | [] => 0
  | d :: R => d + 10 * vlD R
def dgD (R : List Nat) : Prop := ∀ d ∈ R, d ≤ 9
theorem vl_app : ∀ (L M : List Nat), vlD (L ++ M) = vlD L + 10 ^ L.length * vlD M
  | [], M => by simp [vlD]
  | d :: L, M => by
    show d + 10 * vlD (L ++ M) = d + 10 * vlD L + 10 ^ (L.length + 1) * vlD M
    rw [vl_app L M, Nat.pow_succ, Nat.mul_add, ← Nat.mul_assoc, Nat.mul_comm (10 ^ L.length) 10, Nat.add_assoc]
theorem mpD_len (a : Nat) : ∀ (R : List Nat) (c : Nat), (mpD a c R).length = R.length
  | [], _ => rfl
  | d :: R, c => by
    show (mpD a _ R).length + 1 = R.length + 1
    rw [mpD_len a R]
theorem mp_b {a : Nat} (ha : a ≤ 99) : ∀ (R : List Nat) (c : Nat), dgD R → c ≤ 98 → mpC a c R ≤ 98
  | [], c, _, hc => hc
  | d :: R, c, hd, hc => by
    have h9 := hd d (List.mem_cons_self)
    have : d * a ≤ 9 * 99 := Nat.mul_le_mul h9 ha
    exact mp_b ha R _ (fun x hx => hd x (List.mem_cons_of_mem _ hx)) (by omega)
theorem mp_val {a : Nat} : ∀ (R : List Nat) (c : Nat), vlD (mpD a c R) + 10 ^ R.length * mpC a c R = c + a * vlD R
  | [], c => by simp [mpD, mpC, vlD]
  | d :: R, c => by
    show ((c + d * a) % 10 + 10 * vlD (mpD a ((c + d * a) / 10) R)) + 10 ^ (R.length + 1) * mpC a ((c + d * a) / 10) R = c + a * (d + 10 * vlD R)
    have ih := mp_val (a := a) R ((c + d * a) / 10)
    have e1 : 10 ^ (R.length + 1) * mpC a ((c + d * a) / 10) R = 10 * (10 ^ R.length * mpC a ((c + d * a) / 10) R) := by
      rw [Nat.pow_succ, Nat.mul_comm (10 ^ R.length) 10, Nat.mul_assoc]
    have e2 : a * (d + 10 * vlD R) = d * a + 10 * (a * vlD R) := by
      rw [Nat.mul_add, Nat.mul_comm a d, ← Nat.mul_assoc, Nat.mul_comm a 10, Nat.mul_assoc]
    rw [e1, e2]
    generalize 10 ^ R.length * mpC a ((c + d * a) / 10) R = X at *
    generalize a * vlD R = Y at *
    generalize d * a = Z at *
    omega
theorem cr_val {c : Nat} (h : c ≤ 98) : vlD (crD c) = c := by
  unfold crD
  split
  · rename_i h0; rw [h0]; rfl
  · split
    · show c + 10 * 0 = c; omega
    · show c % 10 + 10 * (c / 10 + 10 * 0) = c; omega
theorem mul_val {a : Nat} (ha : a ≤ 99) {R : List Nat} (hd : dgD R) : vlD (mulD a R) = a * vlD R := by
  unfold mulD
  rw [vl_app, mpD_len, cr_val (mp_b ha R 0 hd (by omega))]
  have := mp_val (a := a) R 0
  omega
theorem cr_dg {c : Nat} (h : c ≤ 98) : dgD (crD c) := by
  intro d hd
  unfold crD at hd
  split at hd
  · cases hd
  · split at hd
    · simp at hd; omega
    · simp at hd; omega
theorem mpD_dg (a : Nat) : ∀ (R : List Nat) (c : Nat), dgD (mpD a c R)
  | [], c => fun d hd => by cases hd
  | d :: R, c => by
    intro x hx
    rcases List.mem_cons.mp hx with rfl | hx
    · omega
    · exact mpD_dg a R _ x hx
theorem mul_dg {a : Nat} (ha : a ≤ 99) {R : List Nat} (hd : dgD R) : dgD (mulD a R) := by
  intro d hx
  rcases List.mem_append.mp hx with hx | hx
  · exact mpD_dg a R 0 d hx
  · exact cr_dg (mp_b ha R 0 hd (by omega)) d hx
/-- its highest digit isn't 0 -/
def tzD (R : List Nat) : Prop := ∃ L d, R = L ++ [d] ∧ d ≠ 0
theorem tz_len {R : List Nat} (h : tzD R) : 10 ^ (R.length - 1) ≤ vlD R := by
  obtain ⟨L, d, rfl, hd⟩ := h
  rw [vl_app, List.length_append, List.length_singleton, Nat.add_sub_cancel]
  have : 10 ^ L.length * 1 ≤ 10 ^ L.length * vlD [d] := Nat.mul_le_mul_left _ (by show 1 ≤ d + 10 * 0; omega)
  omega
theorem mp_app (a : Nat) : ∀ (L : List Nat) (d c : Nat), mpD a c (L ++ [d]) = mpD a c L ++ [(mpC a c L + d * a) % 10] ∧ mpC a c (L ++ [d]) = (mpC a c L + d * a) / 10
  | [], d, c => ⟨rfl, rfl⟩
  | e :: L, d, c => by
    have ih := mp_app a L d ((c + e * a) / 10)
    refine ⟨?_, ih.2⟩
    show (c + e * a) % 10 :: mpD a _ (L ++ [d]) = (c + e * a) % 10 :: (mpD a _ L ++ _)
    rw [ih.1]
    rfl
theorem mul_tz {a : Nat} (ha : a ≤ 99) (ha1 : 1 ≤ a) {R : List Nat} (hd : dgD R) (h : tzD R) : tzD (mulD a R) := by
  obtain ⟨L, d, rfl, hd0⟩ := h
  have hb := mp_b ha (L ++ [d]) 0 hd (by omega)
  unfold mulD
  rw [(mp_app a L d 0).2] at hb
  rw [(mp_app a L d 0).1, (mp_app a L d 0).2]
  have hm : 1 ≤ d * a := Nat.mul_pos (by omega) ha1
  have hs : 1 ≤ mpC a 0 L + d * a := by omega
  generalize mpC a 0 L + d * a = s at *
  by_cases h0 : s / 10 = 0
  · refine ⟨mpD a 0 L, s % 10, ?_, ?_⟩
    · unfold crD; rw [if_pos h0, List.append_nil]
    · omega
  · by_cases h1 : s / 10 < 10
    · refine ⟨mpD a 0 L ++ [s % 10], s / 10, ?_, h0⟩
      unfold crD; rw [if_neg h0, if_pos h1]
    · refine ⟨mpD a 0 L ++ [s % 10] ++ [s / 10 % 10], s / 10 / 10, ?_, by omega⟩
      unfold crD; rw [if_neg h0, if_neg h1]
      simp
def pwD (a : Nat) : Nat → List Nat
  | 0 => [1]
  | k + 1 => mulD a (pwD a k)
theorem pw_dg {a : Nat} (ha : a ≤ 99) : ∀ k, dgD (pwD a k)
  | 0 => fun d hd => by simp [pwD] at hd; omega
  | k + 1 => mul_dg ha (pw_dg ha k)
theorem pw_val {a : Nat} (ha : a ≤ 99) : ∀ k, vlD (pwD a k) = a ^ k
  | 0 => rfl
  | k + 1 => by
    show vlD (mulD a (pwD a k)) = _
    rw [mul_val ha (pw_dg ha k), pw_val ha k, Nat.pow_succ, Nat.mul_comm]
theorem pw_tz {a : Nat} (ha : a ≤ 99) (ha1 : 1 ≤ a) : ∀ k, tzD (pwD a k)
  | 0 => ⟨[], 1, rfl, by omega⟩
  | k + 1 => mul_tz ha ha1 (pw_dg ha k) (pw_tz ha ha1 k)
theorem pw_0 : ∀ k, pwD 0 (k + 1) = [0]
  | 0 => rfl
  | k + 1 => by
    show mulD 0 (pwD 0 (k + 1)) = _
    rw [pw_0 k]; rfl
theorem pw_len {a : Nat} (ha : a ≤ 99) {k : Nat} (hk : k ≤ 50) : 1 ≤ (pwD a k).length ∧ (pwD a k).length ≤ 100 := by
  by_cases h0 : a = 0
  · subst h0
    match k with
    | 0 => exact ⟨Nat.le_refl _, by decide⟩
    | k + 1 => rw [pw_0]; exact ⟨Nat.le_refl _, by decide⟩
  · have h := pw_tz ha (show 1 ≤ a by omega) k
    have hl := tz_len h
    rw [pw_val ha] at hl
    constructor
    · obtain ⟨L, d, e, -⟩ := h
      rw [e]; simp
    · have h1 : a ^ k ≤ 99 ^ 50 := Nat.le_trans (Nat.pow_le_pow_left ha k) (Nat.pow_le_pow_right (by omega) hk)
      have h2 : (99 : Nat) ^ 50 < 10 ^ 100 := by decide
      by_cases hc : (pwD a k).length ≤ 100
      · exact hc
      · have h3 : 10 ^ 100 ≤ 10 ^ ((pwD a k).length - 1) := Nat.pow_le_pow_right (by omega) (by omega)
        exact absurd (Nat.lt_of_le_of_lt (Nat.le_trans h3 (Nat.le_trans hl h1)) h2) (Nat.lt_irrefl _)
/-- an array holds a list from i on -/
def hld (g : Nat → Int32) : Nat → List Nat → Prop
  | _, [] => True
  | i, d :: R => g i = Int32.ofInt (d : Int) ∧ hld g (i + 1) R
theorem hld_upd {g : Nat → Int32} {j : Nat} {x : Int32} : ∀ (R : List Nat) (i : Nat), hld g i R → j < i → hld (upd g j x) i R
  | [], _, _, _ => trivial
  | d :: R, i, h, hj => ⟨by rw [upd_ne (by omega)]; exact h.1, hld_upd R (i + 1) h.2 (by omega)⟩
theorem hld_congr {g g' : Nat → Int32} : ∀ (R : List Nat) (i : Nat), hld g i R → (∀ k, i ≤ k → k < i + R.length → g' k = g k) → hld g' i R
  | [], _, _, _ => trivial
  | d :: R, i, h, hg => ⟨by rw [hg i (Nat.le_refl _) (by simp)]; exact h.1, hld_congr R (i + 1) h.2 (fun k h1 h2 => hg k (by omega) (by simp; omega))⟩
theorem hld_app {g : Nat → Int32} : ∀ (L M : List Nat) (i : Nat), hld g i (L ++ M) ↔ hld g i L ∧ hld g (i + L.length) M
  | [], M, i => by simp [hld]
  | d :: L, M, i => by
    show (g i = _ ∧ hld g (i + 1) (L ++ M)) ↔ (g i = _ ∧ hld g (i + 1) L) ∧ _
    rw [hld_app L M (i + 1), List.length_cons, show i + 1 + L.length = i + (L.length + 1) by omega, and_assoc]
theorem hld_get {g : Nat → Int32} : ∀ (R : List Nat) (i k : Nat), hld g i R → k < R.length → g (i + k) = Int32.ofInt (R.getD k 0 : Nat)
  | [], _, _, _, hk => by simp at hk
  | d :: R, i, 0, h, _ => h.1
  | d :: R, i, k + 1, h, hk => by
    have := hld_get R (i + 1) k h.2 (by simpa using hk)
    rw [show i + (k + 1) = i + 1 + k by omega, this]
    rfl
