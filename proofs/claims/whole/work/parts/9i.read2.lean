/-! ===== the class's reader and the machine go together: small steps ===== -/
def uO (s : Nat) (K V : Nat → Int) (X : uX) : Option uX := if (uS s K V X).1 = -1 then some (uS s K V X).2 else none
def rch (s : Nat) (K V : Nat → Int) (X X' : uX) : Prop := ∃ n, itr (uO s K V) n X = some X'
section RCH
variable {s k : Nat} {K V : Nat → Int} {X Y Z0 : uX} {P : List Int} {o x : Int} {c : Nat → Int × Int} {r : Nat} {Z : uZ}
theorem rch_refl (X : uX) : rch s K V X X := ⟨0, rfl⟩
theorem rch_trans (h1 : rch s K V X Y) (h2 : rch s K V Y Z0) : rch s K V X Z0 := by
  obtain ⟨n1, h1⟩ := h1
  obtain ⟨n2, h2⟩ := h2
  exact ⟨n1 + n2, itr_add n1 n2 h1 h2⟩
theorem rch_one (h : uS s K V X = (-1, Y)) : rch s K V X Y := ⟨1, itr_one (by unfold uO; rw [h]; exact if_pos rfl)⟩
theorem rch_uR : ∀ (n : Nat) (X Y : uX), itr (uO s K V) n X = some Y → (uS s K V Y).1 ≠ -1 → uR s K V (n + 1) X = uS s K V Y ∧ Y.1 = X.1 + n
  | 0, X, Y, h, hq => by
    cases h
    exact ⟨if_neg hq, rfl⟩
  | n + 1, X, Y, h, hq => by
    unfold itr at h
    obtain ⟨X1, h1, h2⟩ := Option.bind_eq_some_iff.mp h
    unfold uO at h1
    by_cases q : (uS s K V X).1 = -1
    · rw [if_pos q] at h1
      cases h1
      obtain ⟨g1, g2⟩ := rch_uR n _ Y h2 hq
      have e : uR s K V (n + 1 + 1) X = uR s K V (n + 1) (uS s K V X).2 := if_pos q
      refine ⟨by rw [e, g1], ?_⟩
      rw [g2, (uS_k q).1]; omega
    · rw [if_neg q] at h1; cases h1
theorem rch_k (h : rch s K V X Y) : X.1 ≤ Y.1 := by
  obtain ⟨n, h⟩ := h
  revert X
  induction n with
  | zero => intro X h; cases h; exact Nat.le_refl _
  | succ n ih =>
    intro X h
    unfold itr at h
    obtain ⟨X1, h1, h2⟩ := Option.bind_eq_some_iff.mp h
    have := ih h2
    unfold uO at h1
    by_cases q : (uS s K V X).1 = -1
    · rw [if_pos q] at h1
      cases h1
      have := (uS_k q).1
      omega
    · rw [if_neg q] at h1; cases h1
theorem uS_t : uS s K V (k, true, Z) = bhd (K k) (k, true, Z) := if_pos rfl
theorem uS_f : uS s K V (k, false, Z) = bgn s (K k) (V k) (k, false, Z) := if_neg (show ¬ false = true by decide)
theorem bg_num (hk : K k = 38) (hv : V k ≤ 9999) : uS s K V (k, false, P, o, c, r) = (-1, (k + 1, true, stl 7 P o (cU c r (0, V k)) (r + 1))) := by
  rw [uS_f]; unfold bgn; rw [if_pos hk, if_neg (by omega)]
theorem bg_numF (hk : K k = 38) (hv : 9999 < V k) : (uS s K V (k, false, P, o, c, r)).1 = 2 := by
  rw [uS_f]; unfold bgn; rw [if_pos hk, if_pos hv]
theorem bg_name (hk : K k ≤ 8) (hn : okN s (K k) = true) : uS s K V (k, false, P, o, c, r) = (-1, (k + 1, true, stl 7 P o (cU c r (1, K k)) (r + 1))) := by
  rw [uS_f]; unfold bgn; rw [if_neg (by omega), if_pos hk, if_pos hn]
theorem bg_nameF (hk : K k ≤ 8) (hn : ¬ okN s (K k) = true) : (uS s K V (k, false, P, o, c, r)).1 = 5 := by
  rw [uS_f]; unfold bgn; rw [if_neg (by omega), if_pos hk, if_neg hn]
def opx (kd : Int) : Int := if kd = 33 then 40 else if kd = 30 then 5 else if kd = 9 then 2 else if kd = 10 then 4 else 41
def opk (kd : Int) : Prop := kd = 33 ∨ kd = 30 ∨ kd = 9 ∨ kd = 10 ∨ kd = 14
theorem bg_opd (hk : opk (K k)) : uS s K V (k, false, P, o, c, r) = opd (opx (K k)) (k, false, P, o, c, r) := by
  rw [uS_f]; unfold bgn opx
  rcases hk with h | h | h | h | h <;> rw [h] <;> rfl
theorem opd_ok (ho : o ≠ 8) : opd x (k, false, P, o, c, r) = (-1, (k + 1, false, x :: P, o + 1, c, r)) := if_neg ho
theorem opd_no (ho : o = 8) : (opd x (k, false, P, o, c, r)).1 = 3 := by
  have e : opd x (k, false, P, o, c, r) = (3, (k, false, P, o, c, r)) := if_pos ho
  rw [e]
theorem bg_not (hk : K k = 11) (h : opN P = 41 ∧ askT P = true) : uS s K V (k, false, P, o, c, r) = opd 20 (k, false, P, o, c, r) := by
  rw [uS_f]; unfold bgn
  rw [if_neg (by omega), if_neg (by omega), if_neg (by omega), if_neg (by omega), if_neg (by omega), if_neg (by omega), if_neg (by omega), if_pos hk]
  exact if_pos h
theorem bg_F (h1 : K k ≠ 38) (h2 : ¬ K k ≤ 8) (h3 : ¬ opk (K k)) (h4 : K k ≠ 11 ∨ ¬ (opN P = 41 ∧ askT P = true)) : (uS s K V (k, false, P, o, c, r)).1 = 1 := by
  unfold opk at h3
  rw [uS_f]; unfold bgn
  rw [if_neg h1, if_neg h2, if_neg (by omega), if_neg (by omega), if_neg (by omega), if_neg (by omega), if_neg (by omega)]
  by_cases q : K k = 11
  · rw [if_pos q]
    have : ¬ (opN P = 41 ∧ askT P = true) := by
      rcases h4 with h4 | h4
      · exact absurd q h4
      · exact h4
    rw [if_neg this]
  · rw [if_neg q]
theorem bh_btw (h : btw (K k) Z.1 = x) (hx : 0 ≤ x) : uS s K V (k, true, Z) = (-1, (k + 1, false, pshZ x (stZ (if rkO x = 4 then 5 else rkO x) Z))) := by
  rw [uS_t]; unfold bhd; dsimp only; rw [h, if_pos hx]
theorem bh_prtF (h : btw (K k) Z.1 = -1) (hp : prt (opN Z.1) (K k) Z.1 = -1) (ho : 0 ≤ opN Z.1) : (uS s K V (k, true, Z)).1 = 1 := by
  rw [uS_t]; unfold bhd; dsimp only; rw [h, hp, if_neg (by omega), if_pos (by omega), if_pos ho]
theorem bh_end (h : btw (K k) Z.1 = -1) (hp : prt (opN Z.1) (K k) Z.1 = -1) (ho : opN Z.1 < 0) : uS s K V (k, true, Z) = (0, (k, true, stZ 1 Z)) := by
  rw [uS_t]; unfold bhd; dsimp only; rw [h, hp, if_neg (by omega), if_pos (by omega), if_neg (by omega)]
theorem bh_part (h : btw (K k) Z.1 = -1) (hp : prt (opN Z.1) (K k) Z.1 = x) (hx : 0 < x) : uS s K V (k, true, Z) = (-1, (k + 1, false, x :: (stZ 1 Z).1.tail, (stZ 1 Z).2)) := by
  rw [uS_t]; unfold bhd; dsimp only; rw [h, hp, if_neg (by omega), if_neg (by omega), if_pos hx]
theorem bh_close (h : btw (K k) Z.1 = -1) (hp : prt (opN Z.1) (K k) Z.1 = 0) (h43 : opN Z.1 ≠ 43) : uS s K V (k, true, Z) = (-1, (k + 1, true, stl 7 (stZ 1 Z).1.tail ((stZ 1 Z).2.1 - 1) (stZ 1 Z).2.2.1 (stZ 1 Z).2.2.2)) := by
  rw [uS_t]; unfold bhd; dsimp only; rw [h, hp, if_neg (by omega), if_neg (by omega), if_neg (by omega), if_neg h43]
theorem bh_close3 (h : btw (K k) Z.1 = -1) (hp : prt (opN Z.1) (K k) Z.1 = 0) (h43 : opN Z.1 = 43) : uS s K V (k, true, Z) = (-1, (k + 1, true, stl 7 (stZ 1 Z).1.tail ((stZ 1 Z).2.1 - 1) (cU (stZ 1 Z).2.2.1 (stZ 1 Z).2.2.2 (3, 0)) ((stZ 1 Z).2.2.2 + 1))) := by
  rw [uS_t]; unfold bhd; dsimp only; rw [h, hp, if_neg (by omega), if_neg (by omega), if_neg (by omega), if_pos h43]
def arK (kd : Int) : Prop := 29 ≤ kd ∧ kd ≤ 32
theorem btw_n {kd : Int} (h : ¬ arK kd) (ho : opN P ≠ 41) : btw kd P = -1 := by
  unfold arK at h
  unfold btw
  rw [if_neg (by omega), if_neg (by omega), if_neg (by omega), if_neg (by omega), if_neg ho]
theorem btw_c {kd : Int} (h : ¬ arK kd) (ho : opN P = 41) (hc : isC P = true) (h12 : kd ≠ 12) (h13 : kd ≠ 13) : btw kd P = -1 := by
  unfold arK at h
  unfold btw
  rw [if_neg (by omega), if_neg (by omega), if_neg (by omega), if_neg (by omega), if_pos ho, if_pos hc, if_neg h12, if_neg h13]
theorem btw_j {kd : Int} (h : kd = 12 ∨ kd = 13) (ho : opN P = 41) (hc : isC P = true) : btw kd P = if kd = 12 then 21 else 22 := by
  unfold btw
  rw [if_neg (by omega), if_neg (by omega), if_neg (by omega), if_neg (by omega), if_pos ho, if_pos hc]
  by_cases q : kd = 12
  · rw [if_pos q, if_pos q]
  · rw [if_neg q, if_neg q, if_pos (by omega)]
theorem btw_m {kd : Int} (h : ¬ arK kd) (ho : opN P = 41) (hc : isC P = false) : btw kd P = cmK kd := by
  unfold arK at h
  unfold btw
  rw [if_neg (by omega), if_neg (by omega), if_neg (by omega), if_neg (by omega), if_pos ho, hc, if_neg (by decide)]
theorem btw_a {kd : Int} (h : arK kd) : btw kd P = kd - 23 := by
  unfold arK at h
  unfold btw
  have : kd = 29 ∨ kd = 30 ∨ kd = 31 ∨ kd = 32 := by omega
  rcases this with rfl | rfl | rfl | rfl <;> rfl
theorem tpO_ask (h : askT P = true) : tpO P ≤ 3 ∧ isC P = false := by
  cases P with
  | nil => exact absurd h (by decide)
  | cons y P =>
    have h : 40 ≤ y ∨ (1 ≤ rkO y ∧ rkO y ≤ 3) := of_decide_eq_true h
    have e : isC (y :: P) = if rkO y ≤ 4 then decide (rkO y = 4) else isC P := rfl
    have e2 : tpO (y :: P) = rkO y := rfl
    have : rkO y ≤ 3 := by
      rcases h with h | h
      · have := rkO_40.mpr h; omega
      · exact h.2
    rw [e, e2, if_pos (by omega)]
    exact ⟨this, decide_eq_false (by omega)⟩
theorem stl_pop {L : Int} (h : ¬ rkO x < L) : stl L (x :: P) o c r = stl L P (if rkO x = 7 ∨ x = 20 then o - 1 else o) (cU c r (x, 0)) (r + 1) := if_neg h
end RCH
section RDG
variable {S S' : yS} {K V pl : Nat → Int} {M k z N s : Nat} {e p : Int}
theorem c_nxt (h : cS S k z) : cS (ySi S 250 1 (Int32.ofInt ((k + 1 : Nat) : Int))) (k + 1) z ∧ Fr S (ySi S 250 1 (Int32.ofInt ((k + 1 : Nat) : Int))) ∧ S.1 250 1 + Int32.ofInt 1 = Int32.ofInt ((k + 1 : Nat) : Int) := by
  obtain ⟨h1, h3, h7⟩ := h
  refine ⟨⟨fld_at, ⟨by rw [fld_ne (by omega)]; exact h3.1, by rw [fld_ne (by omega)]; exact h3.2⟩, by rw [fld_ne (by omega)]; exact h7⟩, Fr_i (by omega), ?_⟩
  rw [h1, i_add, show (k : Int) + 1 = ((k + 1 : Nat) : Int) by omega]
theorem c_emit (h : cS S k z) (hz : z < 300) {a v : Int} (ha : -2147483648 ≤ a ∧ a < 2147483648) (hv : -2147483648 ≤ v ∧ v < 2147483648) : ∃ S', fX5_emit (Int32.ofInt a) (Int32.ofInt v) S = some S' ∧ cS S' k (z + 1) ∧ Fr S S' ∧ cdX S' z = (a, v) ∧ ∀ j, j ≠ z → cdX S' j = cdX S j := by
  obtain ⟨h1, h3, h7⟩ := id h
  refine ⟨ySi (ySa (ySa S 256 (upd (S.2.2.1 256) z (Int32.ofInt a))) 257 (upd (S.2.2.1 257) z (Int32.ofInt v))) 250 7 (Int32.ofInt ((z + 1 : Nat) : Int)), ?_, ⟨by rw [fld_ne (by omega)]; exact h1, ⟨by rw [fld_ne (by omega)]; exact h3.1, by rw [fld_ne (by omega)]; exact h3.2⟩, fld_at⟩, Fr_trans (Fr_a (by omega)) (Fr_trans (Fr_a (by omega)) (Fr_i (by omega))), ?_, fun j hj => ?_⟩
  · unfold fX5_emit
    rw [h7]
    refine h_neg (by first | omega | ((simp (disch := omega) only [i0, i1, i_lt, i_le, i_eq, i_add, i_sub, i_mul, i_neg, i_ofNat, i_rem, i_div, w_in, w_in2, w_cnt, w_cnt2, z01, z01', il, li, lc_ge, lc_le, lc_gt, lc_lt, lc_eq, l_ofNat, l0, l_eq, l_lt, l_le]) <;> omega)) (h_ainN (by omega) (by omega) (h_pst ?_))
    rw [ySa_1, h7]
    refine h_ainN (by omega) (by omega) (h_pst (h_pst ?_))
    rw [ySa_1, ySa_1, h7, i_add, show (z : Int) + 1 = ((z + 1 : Nat) : Int) by omega, ySa_ne _ _ (by omega)]
  · unfold cdX rv
    rw [ySi_2, ySa_ne _ _ (show 256 ≠ 257 by omega), ySa_at, ySa_at, upd_at, upd_at, i_toInt ha.1 ha.2, i_toInt hv.1 hv.2]
  · unfold cdX rv
    rw [ySi_2, ySa_ne _ _ (show 256 ≠ 257 by omega), ySa_at, ySa_at, upd_ne hj, upd_ne hj]
theorem c_expY (ht : tkC S K V pl M) (hg : tkG K V M) (h : cS S k z) (hk : k ≤ M) {w : Int} (hw : K k = w) : fX5_expect (Int32.ofInt w) S = some (ySi S 250 1 (Int32.ofInt ((k + 1 : Nat) : Int))) := by
  unfold fX5_expect
  refine h_bind (c_kind ht hg h.1 hk) ?_
  rw [hw, (c_nxt h).2.2]
  exact h_neg (fun q => q rfl) rfl
theorem c_expN (ht : tkC S K V pl M) (hg : tkG K V M) (h : cS S k z) (hk : k ≤ M) (hz : z ≤ 300) {w : Int} (hw : 0 ≤ w ∧ w ≤ 40) (hn : K k ≠ w) : ∃ S', fX5_expect (Int32.ofInt w) S = some S' ∧ cB S' M 1 (pl k) ∧ Fr S S' := by
  obtain ⟨S1, a1, a2, a3⟩ := c_fail ht hg h hk hz (e := 1)
  have kr := hg.2.2.2.1 k
  refine ⟨S1, ?_, a2, a3⟩
  unfold fX5_expect
  exact h_bind (c_kind ht hg h.1 hk) (h_pos (by first | omega | ((simp (disch := omega) only [i0, i1, i_lt, i_le, i_eq, i_add, i_sub, i_mul, i_neg, i_ofNat, i_rem, i_div, w_in, w_in2, w_cnt, w_cnt2, z01, z01', il, li, lc_ge, lc_le, lc_gt, lc_lt, lc_eq, l_ofNat, l0, l_eq, l_lt, l_le]) <;> omega)) (h_bind a1 rfl))
theorem c_aim (h : cS S k z) (hz : z ≤ 300) {v : Nat} (hv : v < 300) : ∃ S', fX5_aim (Int32.ofInt (v : Int)) S = some S' ∧ cS S' k z ∧ Fr S S' ∧ cdX S' v = ((cdX S v).1, (z : Int)) ∧ ∀ j, j ≠ v → cdX S' j = cdX S j := by
  refine ⟨ySa S 257 (upd (S.2.2.1 257) v (S.1 250 7)), ?_, h, Fr_a (by omega), ?_, fun j hj => ?_⟩
  · unfold fX5_aim
    exact h_neg (by first | omega | ((simp (disch := omega) only [i0, i1, i_lt, i_le, i_eq, i_add, i_sub, i_mul, i_neg, i_ofNat, i_rem, i_div, w_in, w_in2, w_cnt, w_cnt2, z01, z01', il, li, lc_ge, lc_le, lc_gt, lc_lt, lc_eq, l_ofNat, l0, l_eq, l_lt, l_le]) <;> omega)) (h_ainN (by omega) (by omega) rfl)
  · unfold cdX rv
    rw [ySa_ne _ _ (show 256 ≠ 257 by omega), ySa_at, upd_at, h.2.2, i_toInt (by omega) (by omega)]
  · unfold cdX rv
    rw [ySa_ne _ _ (show 256 ≠ 257 by omega), ySa_at, upd_ne hj]
end RDG
