/-! ===== the law's loop ===== -/
section LOO
variable {L : Nat} {xs : Nat → Int32} {F : Bool} {d : Nat}
theorem ry_inc {T : yK} {z : Nat × Nat} {S : yS} {r : xR} {i : Nat} (k : Ry (xRoL L xs F) xNo (yKx T) z 690 mL_law 18 (lsL (i + 6)) [] S r) : Ry (xRoL L xs F) xNo (yKx T) z 690 mL_law 2010 (lsL i) [] S r := by
  have e : xP1 (lsL i) 3 (.int (Int32.ofInt (i : Int) + Int32.ofInt 6)) = lsL (i + 6) := by
    rw [i_add, show (i : Int) + 6 = ((i + 6 : Nat) : Int) by omega]
    rfl
  refine ry_step (pc' := 2013) (ls' := lsL (i + 6)) (st' := []) (S' := S) rfl ?_ (ry_step rfl rfl k)
  rw [← e]
  rfl
theorem lwTab1 {T : yK} {z : Nat × Nat} {S : yS} {r : xR} {i : Nat} {x : Int32} {c : Nat} {off : Int} (hx : x.toInt = (c : Int)) (hc : c < 60) (ho : (#[255, 298, 331, 394, 417, 430, 453, 476, 499, 522, 545, 568, 591, 624, 637, 670, 693, 716, 739, 772, 805, 855, 895, 944, 993, 1006, 1029, 1042, 1065, 1078, 1101, 1134, 1147, 1186, 1209, 1242, 1312, 1345, 1415, 1448, 1507, 1530, 1563, 1596, 1609, 1632, 1645, 1678, 1721, 1754, 1777, 1800, 1833, 1866, 1879, 1892, 1905, 1928, 1941, 1954] : Array Int)[c]? = some off) (k : Ry (xRoL L xs F) xNo (yKx T) z 690 mL_law (xTgt 33 off) (lsL i) [] S r) : Ry (xRoL L xs F) xNo (yKx T) z 690 mL_law 33 (lsL i) [.int x] S r := by
  refine ry_step (pc' := xTgt 33 off) (ls' := lsL i) (st' := []) (S' := S) rfl ?_ k
  show (if x.toInt < 0 ∨ 59 < x.toInt then some (xTgt 33 1977, lsL i, [], S) else ((#[255, 298, 331, 394, 417, 430, 453, 476, 499, 522, 545, 568, 591, 624, 637, 670, 693, 716, 739, 772, 805, 855, 895, 944, 993, 1006, 1029, 1042, 1065, 1078, 1101, 1134, 1147, 1186, 1209, 1242, 1312, 1345, 1415, 1448, 1507, 1530, 1563, 1596, 1609, 1632, 1645, 1678, 1721, 1754, 1777, 1800, 1833, 1866, 1879, 1892, 1905, 1928, 1941, 1954] : Array Int)[(x.toInt - 0).toNat]?).bind fun off => some (xTgt 33 off, lsL i, [], S)) = _
  rw [if_neg (by omega), hx, show (((c : Int) - 0).toNat) = c by omega, ho]
  rfl
theorem lwTab0 {T : yK} {z : Nat × Nat} {S : yS} {r : xR} {i : Nat} {x : Int32} (hx : x.toInt < 0 ∨ 59 < x.toInt) (k : Ry (xRoL L xs F) xNo (yKx T) z 690 mL_law 2010 (lsL i) [] S r) : Ry (xRoL L xs F) xNo (yKx T) z 690 mL_law 33 (lsL i) [.int x] S r := by
  refine ry_step (pc' := 2010) (ls' := lsL i) (st' := []) (S' := S) rfl ?_ k
  show (if x.toInt < 0 ∨ 59 < x.toInt then some (xTgt 33 1977, lsL i, [], S) else ((#[255, 298, 331, 394, 417, 430, 453, 476, 499, 522, 545, 568, 591, 624, 637, 670, 693, 716, 739, 772, 805, 855, 895, 944, 993, 1006, 1029, 1042, 1065, 1078, 1101, 1134, 1147, 1186, 1209, 1242, 1312, 1345, 1415, 1448, 1507, 1530, 1563, 1596, 1609, 1632, 1645, 1678, 1721, 1754, 1777, 1800, 1833, 1866, 1879, 1892, 1905, 1928, 1941, 1954] : Array Int)[(x.toInt - 0).toNat]?).bind fun off => some (xTgt 33 off, lsL i, [], S)) = _
  rw [if_pos hx]
  rfl

theorem law_loop (hL : L ≤ 3072) : ∀ (fu i : Nat) (T : yK) (z : Nat × Nat) (S : yS), L < i + 6 * fu → i ≤ L + 6 → Rel T S → 281 ≤ z.1 → (∀ j, z.1 ≤ j → T j = none) → ∃ r : xR, (∃ h', r = (some (.int 1), h') ∧ h'.1 ≤ z.1 + 6 * fu ∧ h'.2.1 ≤ z.2 + 681 * fu) ∧ Ry (xRoL L xs F) xNo (yKx T) z 690 mL_law 18 (lsL i) [] S r := by
  intro fu
  induction fu with
  | zero =>
    intro i T z S h1 hi h hz hT
    have hend : Ry (xRoL L xs F) xNo (yKx T) z 690 mL_law 18 (lsL i) [] S (some (.int 1), yH (yKx T) z S) := by
      refine ry_step rfl rfl (ry_step rfl rfl (ry_step rfl rfl (ry_step rfl rfl (ry_step rfl rfl (ry_step rfl rfl (ry_if (fun _ => ?_) (fun hn => absurd ?_ hn)))))))
      · exact ry_step rfl rfl (ry_ret rfl rfl)
      · rw [show Int32.ofNat L = Int32.ofInt (L : Int) from rfl, i_sub]
        first | omega | ((simp (disch := omega) only [i0, i1, i_lt, i_le, i_eq, i_add, i_sub, i_mul, i_neg, i_ofNat, i_rem, i_div, w_in, w_in2, w_cnt, w_cnt2, z01, z01', il, li, lc_ge, lc_le, lc_gt, lc_lt, lc_eq, l_ofNat, l0, l_eq, l_lt, l_le]) <;> omega)
    exact ⟨_, ⟨_, rfl, by show z.1 ≤ z.1 + 6 * 0; omega, by show z.2 ≤ z.2 + 681 * 0; omega⟩, hend⟩
  | succ fu ih =>
    intro i T z S h1 hi h hz hT
    by_cases hb : i + 6 ≤ L
    case neg =>
      have hend : Ry (xRoL L xs F) xNo (yKx T) z 690 mL_law 18 (lsL i) [] S (some (.int 1), yH (yKx T) z S) := by
        refine ry_step rfl rfl (ry_step rfl rfl (ry_step rfl rfl (ry_step rfl rfl (ry_step rfl rfl (ry_step rfl rfl (ry_if (fun _ => ?_) (fun hn => absurd ?_ hn)))))))
        · exact ry_step rfl rfl (ry_ret rfl rfl)
        · rw [show Int32.ofNat L = Int32.ofInt (L : Int) from rfl, i_sub]
          first | omega | ((simp (disch := omega) only [i0, i1, i_lt, i_le, i_eq, i_add, i_sub, i_mul, i_neg, i_ofNat, i_rem, i_div, w_in, w_in2, w_cnt, w_cnt2, z01, z01', il, li, lc_ge, lc_le, lc_gt, lc_lt, lc_eq, l_ofNat, l0, l_eq, l_lt, l_le]) <;> omega)
      exact ⟨_, ⟨_, rfl, by show z.1 ≤ z.1 + 6 * (fu + 1); omega, by show z.2 ≤ z.2 + 681 * (fu + 1); omega⟩, hend⟩
    have next : ∀ (T2 : yK) (z2 : Nat × Nat) (S2 : yS), Rel T2 S2 → 281 ≤ z2.1 → (∀ j, z2.1 ≤ j → T2 j = none) → z2.1 ≤ z.1 + 6 → z2.2 ≤ z.2 + 681 → ∃ r : xR, (∃ h', r = (some (.int 1), h') ∧ h'.1 ≤ z.1 + 6 * (fu + 1) ∧ h'.2.1 ≤ z.2 + 681 * (fu + 1)) ∧ Ry (xRoL L xs F) xNo (yKx T2) z2 690 mL_law 2010 (lsL i) [] S2 r := fun T2 z2 S2 a1 a2 a3 a4 a5 => by
      obtain ⟨r, ⟨h', b1, b2, b3⟩, b4⟩ := ih (i + 6) T2 z2 S2 (by omega) (by omega) a1 a2 a3
      exact ⟨r, ⟨h', b1, by omega, by omega⟩, ry_inc b4⟩
    have same : ∀ S2, Rel T S2 → ∃ r : xR, (∃ h', r = (some (.int 1), h') ∧ h'.1 ≤ z.1 + 6 * (fu + 1) ∧ h'.2.1 ≤ z.2 + 681 * (fu + 1)) ∧ Ry (xRoL L xs F) xNo (yKx T) z 690 mL_law 2010 (lsL i) [] S2 r := fun S2 a1 => next T z S2 a1 hz hT (by omega) (by omega)
    have pre : ∀ r, Ry (xRoL L xs F) xNo (yKx T) z 690 mL_law 33 (lsL i) [.int (xs i &&& Int32.ofInt 63)] S r → Ry (xRoL L xs F) xNo (yKx T) z 690 mL_law 18 (lsL i) [] S r := fun r k => by
      refine ry_step rfl rfl (ry_step rfl rfl (ry_step rfl rfl (ry_step rfl rfl (ry_step rfl rfl (ry_step rfl rfl (ry_if (fun hn => absurd hn ?_) (fun _ => ?_)))))))
      · rw [show Int32.ofNat L = Int32.ofInt (L : Int) from rfl, i_sub]
        first | omega | ((simp (disch := omega) only [i0, i1, i_lt, i_le, i_eq, i_add, i_sub, i_mul, i_neg, i_ofNat, i_rem, i_div, w_in, w_in2, w_cnt, w_cnt2, z01, z01', il, li, lc_ge, lc_le, lc_gt, lc_lt, lc_eq, l_ofNat, l0, l_eq, l_lt, l_le]) <;> omega)
      · refine ry_step rfl rfl (ry_step rfl rfl (ry_step (pc' := 30) (ls' := lsL i) (st' := [.int (xs i)]) (S' := S) rfl ?_ (ry_step rfl rfl (ry_step rfl rfl k))))
        show xin (Int32.ofInt (i : Int)) L (fun j => some (30, lsL i, [Value.int (xs j)], S)) = _
        rw [xin_n (by omega) (by omega)]
    by_cases hx : (xs i &&& Int32.ofInt 63).toInt < 0 ∨ 59 < (xs i &&& Int32.ofInt 63).toInt
    · obtain ⟨r, hr, kr⟩ := same S h
      exact ⟨r, hr, pre r (lwTab0 hx kr)⟩
    obtain ⟨c, hc⟩ : ∃ c : Nat, (xs i &&& Int32.ofInt 63).toInt = (c : Int) := ⟨(xs i &&& Int32.ofInt 63).toInt.toNat, by omega⟩
    have hc60 : c < 60 := by omega
    have fin : ∀ {off : Int}, (#[255, 298, 331, 394, 417, 430, 453, 476, 499, 522, 545, 568, 591, 624, 637, 670, 693, 716, 739, 772, 805, 855, 895, 944, 993, 1006, 1029, 1042, 1065, 1078, 1101, 1134, 1147, 1186, 1209, 1242, 1312, 1345, 1415, 1448, 1507, 1530, 1563, 1596, 1609, 1632, 1645, 1678, 1721, 1754, 1777, 1800, 1833, 1866, 1879, 1892, 1905, 1928, 1941, 1954] : Array Int)[c]? = some off → (∃ r : xR, (∃ h', r = (some (.int 1), h') ∧ h'.1 ≤ z.1 + 6 * (fu + 1) ∧ h'.2.1 ≤ z.2 + 681 * (fu + 1)) ∧ Ry (xRoL L xs F) xNo (yKx T) z 690 mL_law (xTgt 33 off) (lsL i) [] S r) → ∃ r : xR, (∃ h', r = (some (.int 1), h') ∧ h'.1 ≤ z.1 + 6 * (fu + 1) ∧ h'.2.1 ≤ z.2 + 681 * (fu + 1)) ∧ Ry (xRoL L xs F) xNo (yKx T) z 690 mL_law 18 (lsL i) [] S r := fun {off} ho ⟨r, hr, kr⟩ => ⟨r, hr, pre r (lwTab1 hc hc60 ho kr)⟩
    have hcc : c = 0 ∨ c = 1 ∨ c = 2 ∨ c = 3 ∨ c = 4 ∨ c = 5 ∨ c = 6 ∨ c = 7 ∨ c = 8 ∨ c = 9 ∨ c = 10 ∨ c = 11 ∨ c = 12 ∨ c = 13 ∨ c = 14 ∨ c = 15 ∨ c = 16 ∨ c = 17 ∨ c = 18 ∨ c = 19 ∨ c = 20 ∨ c = 21 ∨ c = 22 ∨ c = 23 ∨ c = 24 ∨ c = 25 ∨ c = 26 ∨ c = 27 ∨ c = 28 ∨ c = 29 ∨ c = 30 ∨ c = 31 ∨ c = 32 ∨ c = 33 ∨ c = 34 ∨ c = 35 ∨ c = 36 ∨ c = 37 ∨ c = 38 ∨ c = 39 ∨ c = 40 ∨ c = 41 ∨ c = 42 ∨ c = 43 ∨ c = 44 ∨ c = 45 ∨ c = 46 ∨ c = 47 ∨ c = 48 ∨ c = 49 ∨ c = 50 ∨ c = 51 ∨ c = 52 ∨ c = 53 ∨ c = 54 ∨ c = 55 ∨ c = 56 ∨ c = 57 ∨ c = 58 ∨ c = 59 := by omega
    rcases hcc with rfl | rfl | rfl | rfl | rfl | rfl | rfl | rfl | rfl | rfl | rfl | rfl | rfl | rfl | rfl | rfl | rfl | rfl | rfl | rfl | rfl | rfl | rfl | rfl | rfl | rfl | rfl | rfl | rfl | rfl | rfl | rfl | rfl | rfl | rfl | rfl | rfl | rfl | rfl | rfl | rfl | rfl | rfl | rfl | rfl | rfl | rfl | rfl | rfl | rfl | rfl | rfl | rfl | rfl | rfl | rfl | rfl | rfl | rfl | rfl
    · exact fin (off := 255) rfl (lv_bird hb hL h same)
    · exact fin (off := 298) rfl (lv_rhyme hb hL h same)
    · exact fin (off := 331) rfl (lv_feed hb hL h same)
    · exact fin (off := 394) rfl (lv_end hb hL h same)
    · exact fin (off := 417) rfl (lv_text hL h hz hT next)
    · exact fin (off := 430) rfl (lv_fault hb hL h same)
    · exact fin (off := 453) rfl (lv_by hb hL h same)
    · exact fin (off := 476) rfl (lv_thin hb hL h same)
    · exact fin (off := 499) rfl (lv_call hb hL h same)
    · exact fin (off := 522) rfl (lv_grant hb hL h same)
    · exact fin (off := 545) rfl (lv_day hb hL h same)
    · exact fin (off := 568) rfl (lv_played hb hL h same)
    · exact fin (off := 591) rfl (lv_years hb hL h same)
    · exact fin (off := 624) rfl (lv_undo hb hL h same)
    · exact fin (off := 637) rfl (lv_of hb hL h same)
    · exact fin (off := 670) rfl (lv_is hb hL h same)
    · exact fin (off := 693) rfl (lv_things hb hL h same)
    · exact fin (off := 716) rfl (lv_brings hb hL h same)
    · exact fin (off := 739) rfl (lv_book hb hL h same)
    · exact fin (off := 772) rfl (lv_foretold hb hL h same)
    · exact fin (off := 805) rfl (lv_likely hb hL h same)
    · exact fin (off := 855) rfl (lv_mean hb hL h same)
    · exact fin (off := 895) rfl (lv_best hb hL h same)
    · exact fin (off := 944) rfl (lv_morning hb hL h same)
    · exact fin (off := 993) rfl (lv_habits hb hL h same)
    · exact fin (off := 1006) rfl (lv_habit hb hL h same)
    · exact fin (off := 1029) rfl (lv_whom hb hL h same)
    · exact fin (off := 1042) rfl (lv_rota hb hL h same)
    · exact fin (off := 1065) rfl (lv_gather hb hL h same)
    · exact fin (off := 1078) rfl (lv_comes hb hL h same)
    · exact fin (off := 1101) rfl (lv_follows hb hL h same)
    · exact fin (off := 1134) rfl (lv_agree hb hL h same)
    · exact fin (off := 1147) rfl (lv_ring hb hL h same)
    · exact fin (off := 1186) rfl (lv_till hb hL h same)
    · exact fin (off := 1209) rfl (lv_after hb hL h same)
    · exact fin (off := 1242) rfl (lv_test hb hL h same)
    · exact fin (off := 1312) rfl (lv_bound hb hL h same)
    · exact fin (off := 1345) rfl (lv_sure hb hL h same)
    · exact fin (off := 1415) rfl (lv_votes hb hL h same)
    · exact fin (off := 1448) rfl (lv_seats hb hL h same)
    · exact fin (off := 1507) rfl (lv_unlike hb hL h same)
    · exact fin (off := 1530) rfl (lv_ranks hb hL h same)
    · exact fin (off := 1563) rfl (lv_beats hb hL h same)
    · exact fin (off := 1596) rfl (lv_winner hb hL h same)
    · exact fin (off := 1609) rfl (lv_points hb hL h same)
    · exact fin (off := 1632) rfl (lv_runoff hb hL h same)
    · exact fin (off := 1645) rfl (lv_digits hb hL h same)
    · exact fin (off := 1678) rfl (lv_digit hb hL h same)
    · exact fin (off := 1721) rfl (lv_depth hb hL h same)
    · exact fin (off := 1754) rfl (lv_rests hb hL h same)
    · exact fin (off := 1777) rfl (lv_game hb hL h same)
    · exact fin (off := 1800) rfl (lv_take hb hL h same)
    · exact fin (off := 1833) rfl (lv_told hb hL h same)
    · exact fin (off := 1866) rfl (lv_whose hb hL h same)
    · exact fin (off := 1879) rfl (lv_eldest hb hL h same)
    · exact fin (off := 1892) rfl (lv_due hb hL h same)
    · exact fin (off := 1905) rfl (lv_ledger hb hL h same)
    · exact fin (off := 1928) rfl (lv_image hb hL h same)
    · exact fin (off := 1941) rfl (lv_back hb hL h same)
    · exact fin (off := 1954) rfl (lv_about hb hL h same)
end LOO
