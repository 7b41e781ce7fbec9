/-! ===== tokens: the reference's ===== -/
theorem bL_of {n : Nat} (h : n < 9223372036854775808) : (Int64.ofInt (n : Int)).toBitVec.toNat = n := by
  rw [Int64.toBitVec_ofInt, BitVec.ofInt_natCast, BitVec.toNat_ofNat]
  omega
theorem bL_inj {x : Int64} {n : Nat} (h : n < 9223372036854775808) (hx : x.toBitVec.toNat = n) : x = Int64.ofInt (n : Int) := by
  apply Int64.toBitVec_inj.mp
  apply BitVec.eq_of_toNat_eq
  rw [hx, bL_of h]
theorem L_shr {n : Nat} (h : n < 9223372036854775808) : Int64.ofInt (n : Int) >>> (Int32.toInt64 (Int32.ofInt 48) &&& 63) = Int64.ofInt ((n / 2 ^ 48 : Nat) : Int) := by
  apply Int64.toInt_inj.mp
  have h1 : n / 2 ^ 48 ≤ n := Nat.div_le_self _ _
  have e : (Int64.ofInt (n : Int) >>> (Int32.toInt64 (Int32.ofInt 48) &&& 63)).toInt = (Int64.ofInt (n : Int)).toInt >>> 48 := by
    show (Int64.ofInt (n : Int) >>> (Int32.toInt64 (Int32.ofInt 48) &&& 63)).toBitVec.toInt = _
    rw [Int64.toBitVec_shiftRight, BitVec.sshiftRight', show ((Int32.toInt64 (Int32.ofInt 48) &&& 63).toBitVec.smod 64).toNat = 48 by decide +kernel, BitVec.toInt_sshiftRight]
    rfl
  rw [e, l_toInt (by omega) (by omega), Int.shiftRight_eq_div_pow, l_toInt (by omega) (by omega)]
  simp
theorem L_shl {n b : Nat} (h : n < 9000000000000000) (hb : b < 256) : (Int64.ofInt (n : Int) <<< (Int32.toInt64 (Int32.ofInt 8) &&& 63)) ||| Int64.ofInt (b : Int) = Int64.ofInt ((n * 256 + b : Nat) : Int) := by
  have e1 : Int64.ofInt (n : Int) <<< (Int32.toInt64 (Int32.ofInt 8) &&& 63) = Int64.ofInt ((n * 256 : Nat) : Int) := by
    refine bL_inj (by omega) ?_
    have e : (Int64.ofInt (n : Int) <<< (Int32.toInt64 (Int32.ofInt 8) &&& 63)).toBitVec = (Int64.ofInt (n : Int)).toBitVec <<< ((Int32.toInt64 (Int32.ofInt 8) &&& 63).toBitVec.smod 64) := Int64.toBitVec_shiftLeft ..
    have e2 : ((Int32.toInt64 (Int32.ofInt 8) &&& 63).toBitVec.smod 64).toNat = 8 := by decide +kernel
    rw [e, BitVec.shiftLeft_eq', BitVec.toNat_shiftLeft, e2, bL_of (by omega), Nat.shiftLeft_eq, show (2 : Nat) ^ 8 = 256 from rfl]
    exact Nat.mod_eq_of_lt (by have : (2 : Nat) ^ 64 = 18446744073709551616 := rfl; omega)
  rw [e1]
  refine bL_inj (by omega) ?_
  have e3 : n * 256 = n <<< 8 := by rw [Nat.shiftLeft_eq]
  rw [Int64.toBitVec_or, BitVec.toNat_or, bL_of (by omega), bL_of (by omega), e3, ← Nat.shiftLeft_add_eq_or_of_lt (show b < 2 ^ 8 from hb)]
/-! words as numbers -/
def wpk (f : Nat → Int) (a : Nat) : Nat → Int
  | 0 => 0
  | z + 1 => wpk f a z * 256 + f (a + z)
def ltW (w j : Nat) : Int := (xBy0.getD (w * 6 + j) 0).toInt
def wlW (w : Nat) : Nat := [3, 4, 4, 4, 6, 4, 6, 5, 5, 5, 4, 3, 3, 2, 2, 4, 4, 3, 6, 6, 4, 4, 4, 5, 2].getD w 0
def wcd (w : Nat) : Int := wpk (ltW w) 0 (wlW w)
theorem wlW_l : ∀ w : Nat, w < 25 → ∀ j : Nat, j < wlW w → 97 ≤ ltW w j ∧ ltW w j ≤ 122 := by decide +kernel
theorem wlW_e : ∀ w : Nat, w < 25 → 2 ≤ wlW w ∧ wlW w ≤ 6 ∧ (wlW w = 6 ∨ xBy0.getD (w * 6 + wlW w) 0 = Int32.ofInt 32) := by decide +kernel
theorem wcd_inj : ∀ w : Nat, w < 25 → ∀ v : Nat, v < 25 → wcd w = wcd v → w = v := by decide +kernel
theorem wcd_rng : ∀ w : Nat, w < 25 → 0 ≤ wcd w ∧ wcd w < 281474976710656 := by decide +kernel
theorem wpk_nn {f : Nat → Int} {a : Nat} : ∀ z, (∀ j, j < z → 1 ≤ f (a + j) ∧ f (a + j) ≤ 255) → 0 ≤ wpk f a z ∧ wpk f a z < 256 ^ z
  | 0, _ => by show (0 : Int) ≤ 0 ∧ (0 : Int) < 256 ^ 0; decide
  | z + 1, h => by
    have h1 := wpk_nn z (fun j hj => h j (by omega))
    have h2 := h z (by omega)
    show 0 ≤ wpk f a z * 256 + f (a + z) ∧ wpk f a z * 256 + f (a + z) < 256 ^ (z + 1)
    rw [Int.pow_succ]
    omega
theorem wpk_ge {f : Nat → Int} {a : Nat} {z : Nat} (h : ∀ j, j < z + 1 → 1 ≤ f (a + j) ∧ f (a + j) ≤ 255) : 1 ≤ wpk f a (z + 1) := by
  have h1 := wpk_nn (f := f) (a := a) z (fun j hj => h j (by omega))
  have h2 := h z (by omega)
  show 1 ≤ wpk f a z * 256 + f (a + z)
  omega
theorem wpk_inj {f g : Nat → Int} {a b : Nat} : ∀ z z', (∀ j, j < z → 1 ≤ f (a + j) ∧ f (a + j) ≤ 255) → (∀ j, j < z' → 1 ≤ g (b + j) ∧ g (b + j) ≤ 255) → wpk f a z = wpk g b z' → z = z' ∧ ∀ j, j < z → f (a + j) = g (b + j)
  | 0, 0, _, _, _ => ⟨rfl, fun j hj => absurd hj (by omega)⟩
  | 0, z' + 1, _, h2, e => by
    have := wpk_ge h2
    have e : 0 = wpk g b (z' + 1) := e
    omega
  | z + 1, 0, h1, _, e => by
    have := wpk_ge h1
    have e : wpk f a (z + 1) = 0 := e
    omega
  | z + 1, z' + 1, h1, h2, e => by
    have e : wpk f a z * 256 + f (a + z) = wpk g b z' * 256 + g (b + z') := e
    have a1 := h1 z (by omega)
    have a2 := h2 z' (by omega)
    obtain ⟨q1, q2⟩ := wpk_inj z z' (fun j hj => h1 j (by omega)) (fun j hj => h2 j (by omega)) (by omega)
    subst q1
    refine ⟨rfl, fun j hj => ?_⟩
    by_cases q : j = z
    · rw [q]; omega
    · exact q2 j (by omega)
theorem kw_wc {f : Nat → Int} {a z w : Nat} (hw : w < 25) (hl : ∀ j, j < z → lxL (f (a + j)) = true) (hz : z ≤ 6) : kwM f a z w = true ↔ wpk f a z = wcd w := by
  have hl2 : ∀ j, j < z → 65 ≤ f (a + j) ∧ f (a + j) ≤ 122 := fun j hj => by
    have := of_decide_eq_true (hl j hj)
    omega
  obtain ⟨e1, e2, e3⟩ := wlW_e w hw
  have e4 := wlW_l w hw
  have tI : ∀ j, j < z → (xBy0.getD (w * 6 + j) 0 = Int32.ofInt (f (a + j)) ↔ ltW w j = f (a + j)) := fun j hj => by
    have := hl2 j hj
    unfold ltW
    constructor
    · intro q; rw [q, i_toInt (by omega) (by omega)]
    · intro q; rw [← q, Int32.ofInt_toInt]
  have t32 : ∀ j, (xBy0.getD (w * 6 + j) 0 = Int32.ofInt 32 → ltW w j = 32) := fun j q => by unfold ltW; rw [q]; rfl
  constructor
  · intro k
    obtain ⟨k1, k2, k3⟩ := kwM_t.mp k
    have ez : z = wlW w := by
      by_cases c1 : z < wlW w
      · rcases k3 with k3 | k3
        · omega
        · have := t32 z k3
          have := e4 z c1
          omega
      · by_cases c2 : wlW w < z
        · have m := (tI (wlW w) c2).mp (k2 _ c2)
          have := hl2 (wlW w) c2
          rcases e3 with e3 | e3
          · omega
          · have := t32 _ e3
            omega
        · omega
    subst ez
    have gen : ∀ y, y ≤ wlW w → wpk f a y = wpk (ltW w) 0 y := by
      intro y
      induction y with
      | zero => intro _; rfl
      | succ y ih =>
        intro hy
        show wpk f a y * 256 + f (a + y) = wpk (ltW w) 0 y * 256 + ltW w (0 + y)
        rw [ih (by omega), Nat.zero_add, (tI y (by omega)).mp (k2 y (by omega))]
    exact gen _ (Nat.le_refl _)
  · intro k
    obtain ⟨q1, q2⟩ := wpk_inj z (wlW w) (fun j hj => by have := hl2 j hj; omega) (fun j hj => by rw [Nat.zero_add]; have := e4 j hj; omega) k
    refine kwM_t.mpr ⟨hz, fun j hj => (tI j hj).mpr ?_, ?_⟩
    · rw [q2 j hj, Nat.zero_add]
    · rw [q1]; exact e3
/-- the reference's word behind z letters -/
def wrD (f : Nat → Int) (a z : Nat) : Int := if z ≤ 7 then wpk f a z else 1152921504606846976
theorem wrD_kw {f : Nat → Int} {a z : Nat} (hl : ∀ j, j < z → lxL (f (a + j)) = true) : ∀ r w, w + r = 25 → (kwF f a z r w < 25 → ∃ v : Nat, kwF f a z r w = v ∧ v < 25 ∧ wrD f a z = wcd v) ∧ (kwF f a z r w = 39 → ∀ v, w ≤ v → v < 25 → wrD f a z ≠ wcd v)
  | 0, w, hw => ⟨fun q => by have q : (39 : Int) < 25 := q; omega, fun _ v h1 h2 => by omega⟩
  | r + 1, w, hw => by
    have key : kwM f a z w = true ↔ wrD f a z = wcd w := by
      have rg := wcd_rng w (by omega)
      by_cases z6 : z ≤ 6
      · rw [kw_wc (by omega) hl z6]
        unfold wrD
        rw [if_pos (by omega)]
      · constructor
        · intro k; exact absurd (kwM_t.mp k).1 z6
        · intro k
          exfalso
          unfold wrD at k
          by_cases z7 : z ≤ 7
          · rw [if_pos z7] at k
            have ez : z = 7 := by omega
            subst ez
            have n6 := wpk_nn (f := f) (a := a) 0 (fun j hj => by omega)
            have l0 := of_decide_eq_true (hl 0 (by omega))
            have l1 := of_decide_eq_true (hl 1 (by omega))
            have l2 := of_decide_eq_true (hl 2 (by omega))
            have l3 := of_decide_eq_true (hl 3 (by omega))
            have l4 := of_decide_eq_true (hl 4 (by omega))
            have l5 := of_decide_eq_true (hl 5 (by omega))
            have l6 := of_decide_eq_true (hl 6 (by omega))
            have e7 : wpk f a 7 = ((((((0 * 256 + f (a + 0)) * 256 + f (a + 1)) * 256 + f (a + 2)) * 256 + f (a + 3)) * 256 + f (a + 4)) * 256 + f (a + 5)) * 256 + f (a + 6) := rfl
            rw [e7] at k
            omega
          · rw [if_neg z7] at k
            omega
    obtain ⟨ih1, ih2⟩ := wrD_kw hl r (w + 1) (by omega)
    unfold kwF
    by_cases k : kwM f a z w = true
    · rw [if_pos k]
      exact ⟨fun _ => ⟨w, rfl, by omega, key.mp k⟩, fun q => by omega⟩
    · rw [if_neg k]
      refine ⟨ih1, fun q v h1 h2 => ?_⟩
      by_cases e : v = w
      · rw [e]; exact fun q2 => k (key.mpr q2)
      · exact ih2 q v (by omega) h2
/-! what the reference holds of a token -/
def sgc (kd : Int) : Int := if kd = 25 then 60 else if kd = 26 then 62 else if kd = 27 then 61 else if kd = 28 then 35 else if kd = 29 then 43 else if kd = 30 then 45 else if kd = 31 then 42 else if kd = 32 then 47 else if kd = 33 then 40 else if kd = 34 then 41 else if kd = 35 then 59 else if kd = 36 then 4 else 5
def tD (S : yS) (kd vl : Int) : Prop := (kd = 40 ∧ S.1 265 9 = Int32.ofInt 0) ∨ (kd = 38 ∧ S.1 265 9 = Int32.ofInt 1 ∧ ∃ v, S.1 265 10 = Int32.ofInt v ∧ 0 ≤ v ∧ v ≤ 999999 ∧ (vl ≤ 9999 ∧ v = vl ∨ vl = 10000 ∧ 10000 ≤ v)) ∨ ((∃ w : Nat, kd = w ∧ w < 25 ∧ S.1 265 9 = Int32.ofInt 2 ∧ S.2.1 265 11 = Int64.ofInt (wcd w))) ∨ ((25 ≤ kd ∧ kd ≤ 37) ∧ S.1 265 9 = Int32.ofInt (sgc kd)) ∨ (kd = 39 ∧ (S.1 265 9 = Int32.ofInt 3 ∨ S.1 265 9 = Int32.ofInt 58 ∨ (S.1 265 9 = Int32.ofInt 2 ∧ ∃ x, S.2.1 265 11 = Int64.ofInt x ∧ 0 ≤ x ∧ x < 4611686018427387904 ∧ ∀ v, v < 25 → x ≠ wcd v)))
/-- the tape of the reference -/
def rtG (S : yS) (f : Nat → Int) (n : Nat) : Prop := n ≤ 300 ∧ S.1 265 4 = Int32.ofInt (n : Int) ∧ (∀ k, k < n → S.2.2.1 269 k = Int32.ofInt (f k)) ∧ byG f n
def Fk (S S' : yS) : Prop := (∀ i, i ≠ 265 → S'.1 i = S.1 i) ∧ (∀ j, ¬ (7 ≤ j ∧ j ≤ 10) → S'.1 265 j = S.1 265 j) ∧ S'.2.2 = S.2.2
theorem Fk_refl (S : yS) : Fk S S := ⟨fun _ _ => rfl, fun _ _ => rfl, rfl⟩
theorem Fk_trans {S S1 S2 : yS} (h1 : Fk S S1) (h2 : Fk S1 S2) : Fk S S2 := ⟨fun i a => (h2.1 i a).trans (h1.1 i a), fun j a => (h2.2.1 j a).trans (h1.2.1 j a), h2.2.2.trans h1.2.2⟩
theorem Fk_i {S : yS} {j : Nat} {v : Int32} (h : 7 ≤ j ∧ j ≤ 10) : Fk S (ySi S 265 j v) := ⟨fun i a => fld_o a, fun k a => fld_ne (by omega), rfl⟩
theorem Fk_j {S : yS} {j : Nat} {v : Int64} : Fk S (ySj S 265 j v) := ⟨fun _ _ => rfl, fun _ _ => rfl, rfl⟩
theorem rtG_k {S S' : yS} {f : Nat → Int} {n : Nat} (h : rtG S f n) (k : Fk S S') : rtG S' f n := ⟨h.1, by rw [k.2.1 4 (by omega)]; exact h.2.1, fun j hj => by rw [k.2.2]; exact h.2.2.1 j hj, h.2.2.2⟩
section NXT
variable {S : yS} {f : Nat → Int} {n N : Nat}
theorem q_byte (h : rtG S f n) {a : Nat} (ha : a ≤ n) : fX12_byteAt (Int32.ofInt (a : Int)) S = some (Int32.ofInt (if a < n then f a else -1)) := by
  have h1 := h.1
  unfold fX12_byteAt
  rw [h.2.1]
  by_cases q : a < n
  · rw [if_pos q]
    refine h_neg (by first | omega | ((simp (disch := omega) only [i0, i1, i_lt, i_le, i_eq, i_add, i_sub, i_mul, i_neg, i_ofNat, i_rem, i_div, w_in, w_in2, w_cnt, w_cnt2, z01, z01', il, li, lc_ge, lc_le, lc_gt, lc_lt, lc_eq, l_ofNat, l0, l_eq, l_lt, l_le]) <;> omega)) (h_ainN (by omega) (by omega) ?_)
    rw [h.2.2.1 a q]
  · rw [if_neg q]
    exact h_pos (by first | omega | ((simp (disch := omega) only [i0, i1, i_lt, i_le, i_eq, i_add, i_sub, i_mul, i_neg, i_ofNat, i_rem, i_div, w_in, w_in2, w_cnt, w_cnt2, z01, z01', il, li, lc_ge, lc_le, lc_gt, lc_lt, lc_eq, l_ofNat, l0, l_eq, l_lt, l_le]) <;> omega)) rfl
theorem q_isL {c : Int} (h : -1 ≤ c ∧ c ≤ 255) : fX12_isLetterByte (Int32.ofInt c) = Int32.ofInt (if lxL c = true then 1 else 0) := by
  unfold fX12_isLetterByte lxL
  simp (disch := omega) only [i_lt, i_le]
  by_cases h1 : 97 ≤ c ∧ c ≤ 122
  · rw [decide_eq_true (Or.inl h1), if_neg (by omega), if_pos (by omega)]; rfl
  · by_cases h2 : 65 ≤ c ∧ c ≤ 90
    · rw [decide_eq_true (Or.inr h2), if_pos (by omega), if_neg (by omega), if_neg (by omega)]; rfl
    · rw [decide_eq_false (by omega)]
      show _ = Int32.ofInt 0
      repeat' split
      all_goals first | rfl | omega
theorem q_isD {c : Int} (h : -1 ≤ c ∧ c ≤ 255) : fX12_isFigure (Int32.ofInt c) = Int32.ofInt (if lxD c = true then 1 else 0) := by
  unfold fX12_isFigure lxD
  simp (disch := omega) only [i_lt, i_le]
  by_cases h1 : 48 ≤ c ∧ c ≤ 57
  · rw [decide_eq_true h1, if_neg (by omega), if_neg (by omega)]; rfl
  · rw [decide_eq_false h1]
    show _ = Int32.ofInt 0
    repeat' split
    all_goals first | rfl | omega
def isG (c : Int) : Bool := decide (0 ≤ sgI c ∨ c = 58)
theorem q_sgn : ∀ c : Nat, c < 256 → ∀ S : yS, fX12_isSign (Int32.ofInt (c : Int)) S = some (Int32.ofInt (if isG (c : Int) = true then 1 else 0)) := by
  intro c hc S
  have key : ∀ c : Nat, c < 256 → fX12_isSign (Int32.ofInt (c : Int)) (fun _ _ => 0, fun _ _ => 0, fun _ _ => 0, fun _ _ => 0, fun _ _ => none) = some (Int32.ofInt (if isG (c : Int) = true then 1 else 0)) := by decide +kernel
  exact key c hc
/-! figures -/
theorem q_numL (h : rtG S f n) : ∀ (r fu b : Nat) (S : yS) (v v' : Int), b + r = n → r < fu → rtG S f n → S.1 265 7 = Int32.ofInt (b : Int) → S.1 265 10 = Int32.ofInt v' → 0 ≤ v' ∧ v' ≤ 999999 → 0 ≤ v ∧ v ≤ 10000 → (v ≤ 9999 ∧ v' = v ∨ v = 10000 ∧ 10000 ≤ v') → ∃ S' w', lX12_nextToken N fu 1 S = some S' ∧ Fk S S' ∧ S'.1 265 7 = Int32.ofInt ((lxR lxD f r b : Nat) : Int) ∧ S'.1 265 8 = S.1 265 8 ∧ S'.1 265 9 = S.1 265 9 ∧ S'.1 265 10 = Int32.ofInt w' ∧ 0 ≤ w' ∧ w' ≤ 999999 ∧ (lxV f r b v ≤ 9999 ∧ w' = lxV f r b v ∨ lxV f r b v = 10000 ∧ 10000 ≤ w')
  | 0, fu + 1, b, S, v, v', hb, hf, hS, h7, h10, hv', hv, hr => by
    have h1 := hS.1
    have by0 := q_byte hS (a := b) (by omega)
    rw [if_neg (by omega)] at by0
    refine ⟨S, v', ?_, Fk_refl S, h7, rfl, rfl, h10, hv'.1, hv'.2, hr⟩
    rw [lX12_nextToken, h7]
    exact h_neg (by decide) (h_pos rfl (h_bind by0 (h_pos (by decide) rfl)))
  | r + 1, fu + 1, b, S, v, v', hb, hf, hS, h7, h10, hv', hv, hr => by
    have h1 := hS.1
    have hbb := hS.2.2.2 b (by omega)
    have by0 := q_byte hS (a := b) (by omega)
    rw [if_pos (by omega)] at by0
    have e := q_isD (c := f b) (by omega)
    unfold lxR lxV
    by_cases q : lxD (f b) = true
    · have hq := of_decide_eq_true q
      simp only [if_pos q] at e ⊢
      by_cases c9 : v' ≤ 99999
      · obtain ⟨S', w', g1, g2, g3, g4, g5, g6, g7, g8, g9⟩ := q_numL h r fu (b + 1) (ySi (ySi S 265 10 (Int32.ofInt (10 * v' + f b - 48))) 265 7 (Int32.ofInt ((b + 1 : Nat) : Int))) (min 10000 (v * 10 + f b - 48)) (10 * v' + f b - 48) (by omega) (by omega) (rtG_k hS (Fk_trans (Fk_i (by omega)) (Fk_i (by omega)))) fld_at (by rw [fld_ne (by omega), fld_at]) (by omega) (by omega) (by omega)
        refine ⟨S', w', ?_, Fk_trans (Fk_trans (Fk_i (by omega)) (Fk_i (by omega))) g2, g3, by rw [g4, fld_ne (by omega), fld_ne (by omega)], by rw [g5, fld_ne (by omega), fld_ne (by omega)], g6, g7, g8, g9⟩
        rw [lX12_nextToken, h7, h10]
        refine h_neg (by decide) (h_pos rfl (h_bind by0 ?_))
        rw [e]
        refine h_neg (by decide) (h_pos (by first | omega | ((simp (disch := omega) only [i0, i1, i_lt, i_le, i_eq, i_add, i_sub, i_mul, i_neg, i_ofNat, i_rem, i_div, w_in, w_in2, w_cnt, w_cnt2, z01, z01', il, li, lc_ge, lc_le, lc_gt, lc_lt, lc_eq, l_ofNat, l0, l_eq, l_lt, l_le]) <;> omega)) (h_bind by0 (h_pst (h_pst ?_))))
        rw [fld_ne (show 7 ≠ 10 by omega), h7, i_mul, i_add, i_sub, i_add, show (b : Int) + 1 = ((b + 1 : Nat) : Int) by omega]
        exact g1
      · obtain ⟨S', w', g1, g2, g3, g4, g5, g6, g7, g8, g9⟩ := q_numL h r fu (b + 1) (ySi (ySi S 265 10 (Int32.ofInt v')) 265 7 (Int32.ofInt ((b + 1 : Nat) : Int))) (min 10000 (v * 10 + f b - 48)) v' (by omega) (by omega) (rtG_k hS (Fk_trans (Fk_i (by omega)) (Fk_i (by omega)))) fld_at (by rw [fld_ne (by omega), fld_at]) (by omega) (by omega) (by omega)
        refine ⟨S', w', ?_, Fk_trans (Fk_trans (Fk_i (by omega)) (Fk_i (by omega))) g2, g3, by rw [g4, fld_ne (by omega), fld_ne (by omega)], by rw [g5, fld_ne (by omega), fld_ne (by omega)], g6, g7, g8, g9⟩
        rw [lX12_nextToken, h7, h10]
        refine h_neg (by decide) (h_pos rfl (h_bind by0 ?_))
        rw [e]
        refine h_neg (by decide) (h_neg (by first | omega | ((simp (disch := omega) only [i0, i1, i_lt, i_le, i_eq, i_add, i_sub, i_mul, i_neg, i_ofNat, i_rem, i_div, w_in, w_in2, w_cnt, w_cnt2, z01, z01', il, li, lc_ge, lc_le, lc_gt, lc_lt, lc_eq, l_ofNat, l0, l_eq, l_lt, l_le]) <;> omega)) (h_pst (h_pst ?_)))
        rw [fld_ne (show 7 ≠ 10 by omega), h7, i_add, show (b : Int) + 1 = ((b + 1 : Nat) : Int) by omega]
        exact g1
    · simp only [if_neg q] at e ⊢
      refine ⟨S, v', ?_, Fk_refl S, h7, rfl, rfl, h10, hv'.1, hv'.2, hr⟩
      rw [lX12_nextToken, h7]
      refine h_neg (by decide) (h_pos rfl (h_bind by0 ?_))
      rw [e]
      exact h_pos (by decide) rfl
/-! letters -/
theorem wrD_s {a z : Nat} (hl : ∀ j, j < z + 1 → lxL (f (a + j)) = true) : (z ≤ 6 → wrD f a (z + 1) = wrD f a z * 256 + f (a + z) ∧ 0 ≤ wrD f a z ∧ wrD f a z < 281474976710656) ∧ (¬ z ≤ 6 → 281474976710656 ≤ wrD f a z ∧ wrD f a z < 2305843009213693952 ∧ wrD f a (z + 1) = 1152921504606846976) := by
  have h1 : ∀ j, j < z → 1 ≤ f (a + j) ∧ f (a + j) ≤ 255 := fun j hj => by have := of_decide_eq_true (hl j (by omega)); omega
  constructor
  · intro h
    have n1 := wpk_nn (f := f) (a := a) z h1
    have p : (256 : Int) ^ z ≤ 281474976710656 := by
      have hz : z = 0 ∨ z = 1 ∨ z = 2 ∨ z = 3 ∨ z = 4 ∨ z = 5 ∨ z = 6 := by omega
      rcases hz with rfl | rfl | rfl | rfl | rfl | rfl | rfl <;> decide
    unfold wrD
    rw [if_pos (by omega), if_pos (by omega)]
    refine ⟨rfl, by omega, by omega⟩
  · intro h
    unfold wrD
    rw [if_neg (show ¬ z + 1 ≤ 7 by omega)]
    by_cases z7 : z ≤ 7
    · rw [if_pos z7]
      have ez : z = 7 := by omega
      subst ez
      have l0 := of_decide_eq_true (hl 0 (by omega))
      have l1 := of_decide_eq_true (hl 1 (by omega))
      have l2 := of_decide_eq_true (hl 2 (by omega))
      have l3 := of_decide_eq_true (hl 3 (by omega))
      have l4 := of_decide_eq_true (hl 4 (by omega))
      have l5 := of_decide_eq_true (hl 5 (by omega))
      have l6 := of_decide_eq_true (hl 6 (by omega))
      have e7 : wpk f a 7 = ((((((0 * 256 + f (a + 0)) * 256 + f (a + 1)) * 256 + f (a + 2)) * 256 + f (a + 3)) * 256 + f (a + 4)) * 256 + f (a + 5)) * 256 + f (a + 6) := rfl
      rw [e7]
      omega
    · rw [if_neg z7]
      omega
theorem q_wordL {a : Nat} : ∀ (r fu z : Nat) (S : yS), a + z + r = n → r < fu → rtG S f n → (∀ j, j < z → lxL (f (a + j)) = true) → S.1 265 7 = Int32.ofInt ((a + z : Nat) : Int) → S.2.1 265 11 = Int64.ofInt (wrD f a z) → ∃ S', lX12_nextToken N fu 2 S = some S' ∧ Fk S S' ∧ S'.1 265 7 = Int32.ofInt ((lxR lxL f r (a + z) : Nat) : Int) ∧ S'.1 265 8 = S.1 265 8 ∧ S'.1 265 9 = S.1 265 9 ∧ S'.2.1 265 11 = Int64.ofInt (wrD f a (lxR lxL f r (a + z) - a)) ∧ (∀ j, j < lxR lxL f r (a + z) - a → lxL (f (a + j)) = true)
  | 0, fu + 1, z, S, hb, hf, hS, hl, h7, h11 => by
    have h1 := hS.1
    have by0 := q_byte hS (a := a + z) (by omega)
    rw [if_neg (by omega)] at by0
    have e0 : lxR lxL f 0 (a + z) - a = z := by show a + z - a = z; omega
    refine ⟨S, ?_, Fk_refl S, h7, rfl, rfl, by rw [e0]; exact h11, fun j hj => hl j (by omega)⟩
    rw [lX12_nextToken, h7]
    exact h_neg (by decide) (h_neg (by decide) (h_bind by0 (h_pos (by decide) rfl)))
  | r + 1, fu + 1, z, S, hb, hf, hS, hl, h7, h11 => by
    have h1 := hS.1
    have hbb := hS.2.2.2 (a + z) (by omega)
    have by0 := q_byte hS (a := a + z) (by omega)
    rw [if_pos (by omega)] at by0
    have e := q_isL (c := f (a + z)) (by omega)
    by_cases q : lxL (f (a + z)) = true
    · have hq := of_decide_eq_true q
      have hl1 : ∀ j, j < z + 1 → lxL (f (a + j)) = true := fun j hj => by
        by_cases q2 : j = z
        · rw [q2]; exact q
        · exact hl j (by omega)
      have eR : lxR lxL f (r + 1) (a + z) = lxR lxL f r (a + (z + 1)) := by
        show (if lxL (f (a + z)) = true then lxR lxL f r (a + z + 1) else a + z) = _
        rw [if_pos q]; rfl
      rw [if_pos q] at e
      obtain ⟨s1, s2⟩ := wrD_s hl1
      by_cases z6 : z ≤ 6
      · obtain ⟨t1, t2, t3⟩ := s1 z6
        obtain ⟨S', g1, g2, g3, g4, g5, g6, g7⟩ := q_wordL r fu (z + 1) (ySi (ySj S 265 11 (Int64.ofInt (wrD f a (z + 1)))) 265 7 (Int32.ofInt ((a + (z + 1) : Nat) : Int))) (by omega) (by omega) (rtG_k hS (Fk_trans Fk_j (Fk_i (by omega)))) hl1 fld_at fldj_at
        rw [eR]
        refine ⟨S', ?_, Fk_trans (Fk_trans Fk_j (Fk_i (by omega))) g2, g3, by rw [g4, fld_ne (by omega)]; rfl, by rw [g5, fld_ne (by omega)]; rfl, g6, g7⟩
        have es : Int64.ofInt (wrD f a z) >>> (Int32.toInt64 (Int32.ofInt 48) &&& 63) = Int64.ofInt 0 := by
          have := L_shr (n := (wrD f a z).toNat) (by omega)
          rw [show (((wrD f a z).toNat : Nat) : Int) = wrD f a z by omega, show (wrD f a z).toNat / 2 ^ 48 = 0 by omega] at this
          exact this
        have el : (Int64.ofInt (wrD f a z) <<< (Int32.toInt64 (Int32.ofInt 8) &&& 63)) ||| Int64.ofInt (f (a + z)) = Int64.ofInt (wrD f a (z + 1)) := by
          have := L_shl (n := (wrD f a z).toNat) (b := (f (a + z)).toNat) (by omega) (by omega)
          rw [show (((wrD f a z).toNat : Nat) : Int) = wrD f a z by omega, show (((f (a + z)).toNat : Nat) : Int) = f (a + z) by omega] at this
          rw [this, t1]
          congr 1
          omega
        rw [lX12_nextToken, h7, h11, es]
        refine h_neg (by decide) (h_neg (by decide) (h_bind by0 ?_))
        rw [e]
        refine h_neg (by decide) (h_pos (by decide) (h_bind by0 (h_pst (h_pst ?_))))
        rw [il (k := f (a + z)) (by omega) (by omega), el, show (ySj S 265 11 (Int64.ofInt (wrD f a (z + 1)))).1 265 7 = S.1 265 7 from rfl, h7, i_add, show ((a + z : Nat) : Int) + 1 = ((a + (z + 1) : Nat) : Int) by omega]
        exact g1
      · obtain ⟨t1, t2, t3⟩ := s2 z6
        obtain ⟨S', g1, g2, g3, g4, g5, g6, g7⟩ := q_wordL r fu (z + 1) (ySi (ySj S 265 11 (Int64.ofInt (wrD f a (z + 1)))) 265 7 (Int32.ofInt ((a + (z + 1) : Nat) : Int))) (by omega) (by omega) (rtG_k hS (Fk_trans Fk_j (Fk_i (by omega)))) hl1 fld_at fldj_at
        rw [eR]
        refine ⟨S', ?_, Fk_trans (Fk_trans Fk_j (Fk_i (by omega))) g2, g3, by rw [g4, fld_ne (by omega)]; rfl, by rw [g5, fld_ne (by omega)]; rfl, g6, g7⟩
        have es : ∃ m : Nat, Int64.ofInt (wrD f a z) >>> (Int32.toInt64 (Int32.ofInt 48) &&& 63) = Int64.ofInt (m : Int) ∧ 1 ≤ m ∧ m < 10000 := by
          have := L_shr (n := (wrD f a z).toNat) (by omega)
          rw [show (((wrD f a z).toNat : Nat) : Int) = wrD f a z by omega] at this
          exact ⟨_, this, by omega, by omega⟩
        obtain ⟨m, m1, m2, m3⟩ := es
        rw [lX12_nextToken, h7, h11, m1]
        refine h_neg (by decide) (h_neg (by decide) (h_bind by0 ?_))
        rw [e]
        refine h_neg (by decide) (h_neg (by first | omega | ((simp (disch := omega) only [i0, i1, i_lt, i_le, i_eq, i_add, i_sub, i_mul, i_neg, i_ofNat, i_rem, i_div, w_in, w_in2, w_cnt, w_cnt2, z01, z01', il, li, lc_ge', lc_le', lc_gt', lc_lt', lc_eq', l_ofNat, l0, l_eq, l_lt, l_le, l_add, l_mul]) <;> omega)) (h_pst (h_pst ?_)))
        rw [show (ySj S 265 11 (Int64.ofInt 1152921504606846976)).1 265 7 = S.1 265 7 from rfl, h7, i_add, show ((a + z : Nat) : Int) + 1 = ((a + (z + 1) : Nat) : Int) by omega]
        rw [t3] at g1
        exact g1
    · have eR : lxR lxL f (r + 1) (a + z) = a + z := by
        show (if lxL (f (a + z)) = true then lxR lxL f r (a + z + 1) else a + z) = _
        rw [if_neg q]
      rw [if_neg q] at e
      rw [eR]
      refine ⟨S, ?_, Fk_refl S, h7, rfl, rfl, by rw [show a + z - a = z by omega]; exact h11, fun j hj => hl j (by omega)⟩
      rw [lX12_nextToken, h7]
      refine h_neg (by decide) (h_neg (by decide) (h_bind by0 ?_))
      rw [e]
      exact h_pos (by decide) rfl
end NXT
