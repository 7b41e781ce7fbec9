/-! ===== the class's reader and the machine go together: sums, products, both, either ===== -/
theorem rRs_E {s : Nat} {K V pl : Nat → Int} {M : Nat} {F : frF} {A : uZ → Prop} {E E' : Int → Prop} {S S' : yS} {k z : Nat} {X : uX} {L : Int} {P : List Int} {o : Int} {c : Nat → Int × Int} {r : Nat} (hE : ∀ kd, E kd → E' kd) (h : rRs s K V pl M F A E S S' k z X L P o c r) : rRs s K V pl M F A E' S S' k z X L P o c r := by
  obtain ⟨h1, h2 | h2⟩ := h
  · exact ⟨h1, Or.inl h2⟩
  · obtain ⟨k', z', Z, c', r', w, b1, b2, b3, b4, b5, b6, b7, b8, b9, b10, b11, b12⟩ := h2
    exact ⟨h1, Or.inr ⟨k', z', Z, c', r', w, b1, b2, b3, b4, b5, b6, b7, b8, b9, b10, b11, hE _ b12⟩⟩
theorem lpW {K V pl : Nat → Int} {M N s : Nat} (hg : tkG K V M) {F : frF} {A : uZ → Prop} {E1 D : Int → Prop} {L L1 : Int} {P : List Int} {o : Int} {opf : Int → Int} {cmb : Int → (eV → Int) → (eV → Int) → (eV → Int)} {lp : Nat → Int32 → yS → Option yS} {R : yS → Option yS} {G : yS → Prop}
    (hGF : ∀ S S', G S → Fr S S' → G S')
    (hD : ∀ kd, D kd → (0 ≤ opf kd ∧ rkO (opf kd) = L ∧ L ≠ 4 ∧ L < 7 ∧ opf kd ≠ 20) ∧ kd ≠ 40)
    (hB : ∀ kd Z, D kd → A Z → btw kd Z.1 = opf kd)
    (hLL : L ≤ L1) (hP : tpO P < L)
    (hFl : ∀ c i j w, F c i j w → i < j)
    (hFc : ∀ c c' i j w, F c i j w → (∀ k, i ≤ k → k < j → c' k = c k) → F c' i j w)
    (hJ : ∀ kd c i j l w1 w2 cd i' j' l', D kd → F c i j w1 → F c j l w2 → (c l).1 = opf kd → frC s cd i' j' w1 → frC s cd j' l' w2 → (cd l').1 = kd → F c i (l + 1) (cmb kd w1 w2) ∧ frC s cd i' (l' + 1) (cmb kd w1 w2))
    (hR : ∀ kd S k z c r, D kd → k ≤ M → z ≤ k → tkC S K V pl M → cS S k z → G S → ∃ S', R S = some S' ∧ rRs s K V pl M F A E1 S S' k z (k, false, opf kd :: P, o, c, r) L1 (opf kd :: P) o c r)
    (hstop : ∀ (fu : Nat) (S : yS) (k i : Nat), k ≤ M → S.1 250 1 = Int32.ofInt (k : Int) → tkC S K V pl M → i < 300 → ¬ D (K k) → lp (fu + 1) (Int32.ofInt (i : Int)) S = some S)
    (hgo : ∀ fu S S1 S2 k z i Y, k ≤ M → cS S k z → tkC S K V pl M → i < 300 → D (K k) → R (ySi S 250 1 (Int32.ofInt ((k + 1 : Nat) : Int))) = some S1 → fX5_emit (Int32.ofInt (K k)) (Int32.ofInt 0) S1 = some S2 → lp fu (Int32.ofInt ((i + 1 : Nat) : Int)) S2 = Y → lp (fu + 1) (Int32.ofInt (i : Int)) S = Y)
    {S S1 : yS} {k z r : Nat} {c : Nat → Int × Int} (hN : 2000000 ≤ N) (hz : z ≤ k) (ht : tkC S K V pl M) (hG : G S) (h1 : rRs s K V pl M F A E1 S S1 k z (k, false, P, o, c, r) L1 P o c r) : ∃ S', lp N (Int32.ofInt 0) S1 = some S' ∧ rRs s K V pl M F A (fun kd => E1 kd ∧ ¬ D kd) S S' k z (k, false, P, o, c, r) L P o c r := by
  have hM := hg.1
  obtain ⟨a2, a3⟩ := h1
  have t1 := tkC_F ht a2
  obtain ⟨N', rfl⟩ : ∃ q, N = q + 1 := ⟨N - 1, by omega⟩
  rcases a3 with a3 | a3
  · obtain ⟨e, X', b1, b2, b3, b4, b5⟩ := id a3
    exact ⟨S1, hstop N' S1 M 0 (Nat.le_refl _) b5.1 t1 (by omega) (fun q => (hD _ q).2 hg.2.1), a2, Or.inl a3⟩
  · obtain ⟨k1, z1, Z1, c1, r1, w1, b1, b2, b3, b4, b5, b6, b7, b8, b9, b10, b11, b12⟩ := a3
    obtain ⟨S2, m1, m2, m3⟩ := lpG hg hGF hD hB hLL hP hFl hFc hJ hR hstop hgo (S0 := S) (k0 := k) (z0 := z) (r0 := r) (X0 := (k, false, P, o, c, r)) (c0 := c) hz (N' + 1) S1 k1 0 z1 Z1 c1 r1 w1 (by omega) (by omega) b1 b2 t1 (hGF _ _ hG a2) b3 b4 b5 (by rw [← stZ_stZ hLL, b6, stl_stl hLL]; exact stl_id (Or.inl hP)) b9 b10 b11 b12 b7 b8
    exact ⟨S2, m1, Fr_trans a2 m2, m3⟩
def nN (P : List Int) (kd : Int) : Prop := kd ≠ 11 ∨ ¬ (opN P = 41 ∧ askT P = true)
def gC (s : Nat) (S : yS) : Prop := S.1 250 2 = Int32.ofInt (1 - (s : Int))
theorem gC_F {s : Nat} (S S' : yS) (h : gC s S) (g : Fr S S') : gC s S' := by
  unfold gC at *
  rw [g.2.1 2 (by omega) (by omega) (by omega) (by omega)]; exact h
def clm (s : Nat) (K V pl : Nat → Int) (M N n m q : Nat) (F : frF) (A : uZ → Prop) (E : Int → Prop) (L : Int) (pre : List Int → Int → Prop) : Prop := ∀ (b : Nat) (S : yS) (k z : Nat) (P : List Int) (c : Nat → Int × Int) (r : Nat), b ≤ 8 → 9 * (8 - b) + q ≤ n → k ≤ M → z ≤ k → tkC S K V pl M → cS S k z → gC s S → pre P (K k) → ∃ S', rd N n m 0 (Int32.ofInt (b : Int)) S = some S' ∧ rRs s K V pl M F A E S S' k z (k, false, P, (b : Int), c, r) L P (b : Int) c r
def clX (s : Nat) (K V pl : Nat → Int) (M N n m q : Nat) (kd x : Int) : Prop := ∀ (b : Nat) (S : yS) (k z : Nat) (P : List Int) (c : Nat → Int × Int) (r : Nat), 1 ≤ b → b ≤ 8 → 9 * (8 - b) + q ≤ n → k + 1 ≤ M → z ≤ k → tkC S K V pl M → cS S (k + 1) z → gC s S → ∃ S', rd N n m (Int32.ofInt kd) (Int32.ofInt (b : Int)) S = some S' ∧ rRs s K V pl M (FV s) AV (fun _ => True) S S' k z (k + 1, false, x :: P, (b : Int), c, r) 7 P ((b : Int) - 1) c r
section RDK
variable {s : Nat} {K V pl : Nat → Int} {M N n : Nat}
def clOne (s : Nat) (K V pl : Nat → Int) (M N n : Nat) : Prop := clm s K V pl M N n 2 1 (FV s) AV (fun _ => True) 7 nN
def clPro (s : Nat) (K V pl : Nat → Int) (M N n : Nat) : Prop := clm s K V pl M N n 1 2 (FV s) AV (fun kd => ¬ (kd = 31 ∨ kd = 32)) 6 (fun P kd => tpO P < 6 ∧ nN P kd)
def clSum (s : Nat) (K V pl : Nat → Int) (M N n : Nat) : Prop := clm s K V pl M N n 0 3 (FV s) AV (fun kd => ¬ arK kd) 5 (fun P kd => tpO P < 5 ∧ nN P kd)
def clCmp (s : Nat) (K V pl : Nat → Int) (M N n : Nat) : Prop := clm s K V pl M N n 8 4 (FT s) AT (fun kd => ¬ arK kd) 4 (fun P kd => opN P = 41 ∧ askT P = true ∧ kd ≠ 11)
def clAsk (s : Nat) (K V pl : Nat → Int) (M N n : Nat) : Prop := clm s K V pl M N n 7 5 (FT s) AT (fun kd => ¬ arK kd) 3 (fun P _ => opN P = 41 ∧ askT P = true)
def clBot (s : Nat) (K V pl : Nat → Int) (M N n : Nat) : Prop := clm s K V pl M N n 6 6 (FT s) AT (fun kd => ¬ arK kd ∧ ¬ kd = 12) 2 (fun P _ => opN P = 41 ∧ askT P = true ∧ tpO P < 2)
def clEit (s : Nat) (K V pl : Nat → Int) (M N n : Nat) : Prop := clm s K V pl M N n 5 7 (FT s) AT (fun kd => (¬ arK kd ∧ ¬ kd = 12) ∧ ¬ kd = 13) 1 (fun P _ => opN P = 41 ∧ askT P = true ∧ tpO P < 1)
theorem FV_l : ∀ c i j w, FV s c i j w → i < j := fun c i j w h => h.1
theorem FT_l : ∀ c i j w, FT s c i j w → i < j := fun c i j w h => h.1.1
theorem FV_c : ∀ c c' i j w, FV s c i j w → (∀ k, i ≤ k → k < j → c' k = c k) → FV s c' i j w := fun c c' i j w h g => frV_congr h g
theorem FT_c : ∀ c c' i j w, FT s c i j w → (∀ k, i ≤ k → k < j → c' k = c k) → FT s c' i j w := fun c c' i j w h g => ⟨frT_congr h.1 g, h.2⟩
theorem FV_j {kd : Int} (hk : arK kd) {c : Nat → Int × Int} {i j l : Nat} {w1 w2 : eV → Int} {cd : Nat → Int × Int} {i' j' l' : Nat} (h1 : FV s c i j w1) (h2 : FV s c j l w2) (h3 : (c l).1 = kd - 23) (g1 : frC s cd i' j' w1) (g2 : frC s cd j' l' w2) (g3 : (cd l').1 = kd) : FV s c i (l + 1) (fun E => two1 kd (w1 E) (w2 E)) ∧ frC s cd i' (l' + 1) (fun E => two1 kd (w1 E) (w2 E)) := by
  unfold arK at hk
  refine ⟨?_, frC_two g1 g2 g3 (by omega)⟩
  have := frV_two h1 h2 h3 (by omega)
  rw [show kd - 23 + 23 = kd by omega] at this
  exact this
theorem FT_j {kd op : Int} (hk : kd = 12 ∧ op = 21 ∨ kd = 13 ∧ op = 22) {c : Nat → Int × Int} {i j l : Nat} {w1 w2 : eV → Int} {cd : Nat → Int × Int} {i' j' l' : Nat} (h1 : FT s c i j w1) (h2 : FT s c j l w2) (h3 : (c l).1 = op) (g1 : frC s cd i' j' w1) (g2 : frC s cd j' l' w2) (g3 : (cd l').1 = kd) : FT s c i (l + 1) (fun E => if kd = 12 then min (w1 E) (w2 E) else max (w1 E) (w2 E)) ∧ frC s cd i' (l' + 1) (fun E => if kd = 12 then min (w1 E) (w2 E) else max (w1 E) (w2 E)) := by
  refine ⟨⟨?_, fun E hE => ?_⟩, frC_jn g1 g2 g3 (by omega) h1.2 h2.2⟩
  · have := frT_jn h1.1 h2.1 h3 (by omega) h1.2 h2.2
    rcases hk with ⟨rfl, rfl⟩ | ⟨rfl, rfl⟩
    · exact this
    · exact this
  · have a1 := h1.2 E hE
    have a2 := h2.2 E hE
    show (if kd = 12 then min (w1 E) (w2 E) else max (w1 E) (w2 E)) = 0 ∨ (if kd = 12 then min (w1 E) (w2 E) else max (w1 E) (w2 E)) = 1
    split <;> omega
theorem nN_cons {x kd : Int} {P : List Int} (h1 : ¬ 40 ≤ x) (h2 : 4 ≤ rkO x) : nN (x :: P) kd := Or.inr (fun q => by
  have := of_decide_eq_true q.2
  omega)
theorem t_pro (hg : tkG K V M) (hN : 2000000 ≤ N) (h : clOne s K V pl M N n) : clPro s K V pl M N (n + 1) := by
  intro b S k z P c r hb hn hk hz ht hc hG ⟨hP, h11⟩
  obtain ⟨S1, a1, a2⟩ := h b S k z P c r hb (by omega) hk hz ht hc hG h11
  obtain ⟨S2, m1, m2⟩ := lpW hg (gC_F (s := s)) (D := fun kd => kd = 31 ∨ kd = 32) (L := 6) (opf := fun kd => kd - 23) (cmb := fun kd w1 w2 E => two1 kd (w1 E) (w2 E)) (lp := fun fu i S => lX5_readProduct N (rd N n) fu (Int32.ofInt (b : Int)) i S) (R := fun S => rd N n 2 0 (Int32.ofInt (b : Int)) S)
    (fun kd q => ⟨⟨by omega, by rcases q with rfl | rfl <;> rfl, by omega, by omega, by omega⟩, by omega⟩)
    (fun kd Z q _ => btw_a (by unfold arK; omega)) (by omega) hP FV_l FV_c
    (fun kd c i j l w1 w2 cd i' j' l' q h1 h2 h3 g1 g2 g3 => FV_j (by unfold arK; omega) h1 h2 h3 g1 g2 g3)
    (fun kd S k z c r q u1 u2 u3 u4 u5 => h b S k z _ c r hb (by omega) u1 u2 u3 u4 u5 (nN_cons (by omega) (by rcases q with rfl | rfl <;> decide)))
    (fun fu S k i u1 u2 u3 u4 u5 => by
      have kd := c_kind u3 hg u2 u1
      have kr := hg.2.2.2.1 k
      rw [lX5_readProduct]
      have e300 : ¬ Int32.ofInt 300 ≤ Int32.ofInt (i : Int) := by first | omega | ((simp (disch := omega) only [i0, i1, i_lt, i_le, i_eq, i_add, i_sub, i_mul, i_neg, i_ofNat, i_rem, i_div, w_in, w_in2, w_cnt, w_cnt2, z01, z01', il, li, lc_ge, lc_le, lc_gt, lc_lt, lc_eq, l_ofNat, l0, l_eq, l_lt, l_le]) <;> omega)
      exact h_neg e300 (h_bind kd (h_neg (by first | omega | ((simp (disch := omega) only [i0, i1, i_lt, i_le, i_eq, i_add, i_sub, i_mul, i_neg, i_ofNat, i_rem, i_div, w_in, w_in2, w_cnt, w_cnt2, z01, z01', il, li, lc_ge, lc_le, lc_gt, lc_lt, lc_eq, l_ofNat, l0, l_eq, l_lt, l_le]) <;> omega)) (h_bind kd (h_pos (by first | omega | ((simp (disch := omega) only [i0, i1, i_lt, i_le, i_eq, i_add, i_sub, i_mul, i_neg, i_ofNat, i_rem, i_div, w_in, w_in2, w_cnt, w_cnt2, z01, z01', il, li, lc_ge, lc_le, lc_gt, lc_lt, lc_eq, l_ofNat, l0, l_eq, l_lt, l_le]) <;> omega)) rfl)))))
    (fun fu S S1 S2 k z i Y u1 u2 u3 u4 u5 v1 v2 v3 => by
      have kd := c_kind u3 hg u2.1 u1
      have kr := hg.2.2.2.1 k
      rw [lX5_readProduct, (c_nxt u2).2.2, i_add, show (i : Int) + 1 = ((i + 1 : Nat) : Int) by omega]
      by_cases q : K k = 31
      · exact h_neg (by first | omega | ((simp (disch := omega) only [i0, i1, i_lt, i_le, i_eq, i_add, i_sub, i_mul, i_neg, i_ofNat, i_rem, i_div, w_in, w_in2, w_cnt, w_cnt2, z01, z01', il, li, lc_ge, lc_le, lc_gt, lc_lt, lc_eq, l_ofNat, l0, l_eq, l_lt, l_le]) <;> omega)) (h_bind kd (h_pos (by first | omega | ((simp (disch := omega) only [i0, i1, i_lt, i_le, i_eq, i_add, i_sub, i_mul, i_neg, i_ofNat, i_rem, i_div, w_in, w_in2, w_cnt, w_cnt2, z01, z01', il, li, lc_ge, lc_le, lc_gt, lc_lt, lc_eq, l_ofNat, l0, l_eq, l_lt, l_le]) <;> omega)) (h_bind kd (h_pst (h_bind v1 (h_bind v2 v3))))))
      · exact h_neg (by first | omega | ((simp (disch := omega) only [i0, i1, i_lt, i_le, i_eq, i_add, i_sub, i_mul, i_neg, i_ofNat, i_rem, i_div, w_in, w_in2, w_cnt, w_cnt2, z01, z01', il, li, lc_ge, lc_le, lc_gt, lc_lt, lc_eq, l_ofNat, l0, l_eq, l_lt, l_le]) <;> omega)) (h_bind kd (h_neg (by first | omega | ((simp (disch := omega) only [i0, i1, i_lt, i_le, i_eq, i_add, i_sub, i_mul, i_neg, i_ofNat, i_rem, i_div, w_in, w_in2, w_cnt, w_cnt2, z01, z01', il, li, lc_ge, lc_le, lc_gt, lc_lt, lc_eq, l_ofNat, l0, l_eq, l_lt, l_le]) <;> omega)) (h_bind kd (h_neg (by first | omega | ((simp (disch := omega) only [i0, i1, i_lt, i_le, i_eq, i_add, i_sub, i_mul, i_neg, i_ofNat, i_rem, i_div, w_in, w_in2, w_cnt, w_cnt2, z01, z01', il, li, lc_ge, lc_le, lc_gt, lc_lt, lc_eq, l_ofNat, l0, l_eq, l_lt, l_le]) <;> omega)) (h_bind kd (h_pst (h_bind v1 (h_bind v2 v3)))))))))
    hN hz ht hG a2
  refine ⟨S2, ?_, rRs_E (fun kd q => q.2) m2⟩
  unfold rd
  refine h_neg (by decide) (h_pos rfl ?_)
  unfold fX5_readProduct
  exact h_bind a1 m1
theorem t_sum (hg : tkG K V M) (hN : 2000000 ≤ N) (h : clPro s K V pl M N n) : clSum s K V pl M N (n + 1) := by
  intro b S k z P c r hb hn hk hz ht hc hG ⟨hP, h11⟩
  obtain ⟨S1, a1, a2⟩ := h b S k z P c r hb (by omega) hk hz ht hc hG ⟨by omega, h11⟩
  obtain ⟨S2, m1, m2⟩ := lpW hg (gC_F (s := s)) (D := fun kd => kd = 29 ∨ kd = 30) (L := 5) (opf := fun kd => kd - 23) (cmb := fun kd w1 w2 E => two1 kd (w1 E) (w2 E)) (lp := fun fu i S => lX5_readSum N (rd N n) fu (Int32.ofInt (b : Int)) i S) (R := fun S => rd N n 1 0 (Int32.ofInt (b : Int)) S)
    (fun kd q => ⟨⟨by omega, by rcases q with rfl | rfl <;> rfl, by omega, by omega, by omega⟩, by omega⟩)
    (fun kd Z q _ => btw_a (by unfold arK; omega)) (by omega) hP FV_l FV_c
    (fun kd c i j l w1 w2 cd i' j' l' q h1 h2 h3 g1 g2 g3 => FV_j (by unfold arK; omega) h1 h2 h3 g1 g2 g3)
    (fun kd S k z c r q u1 u2 u3 u4 u5 => h b S k z _ c r hb (by omega) u1 u2 u3 u4 u5 ⟨by show rkO (kd - 23) < 6; rcases q with rfl | rfl <;> decide, nN_cons (by omega) (by rcases q with rfl | rfl <;> decide)⟩)
    (fun fu S k i u1 u2 u3 u4 u5 => by
      have kd := c_kind u3 hg u2 u1
      have kr := hg.2.2.2.1 k
      rw [lX5_readSum]
      have e300 : ¬ Int32.ofInt 300 ≤ Int32.ofInt (i : Int) := by first | omega | ((simp (disch := omega) only [i0, i1, i_lt, i_le, i_eq, i_add, i_sub, i_mul, i_neg, i_ofNat, i_rem, i_div, w_in, w_in2, w_cnt, w_cnt2, z01, z01', il, li, lc_ge, lc_le, lc_gt, lc_lt, lc_eq, l_ofNat, l0, l_eq, l_lt, l_le]) <;> omega)
      exact h_neg e300 (h_bind kd (h_neg (by first | omega | ((simp (disch := omega) only [i0, i1, i_lt, i_le, i_eq, i_add, i_sub, i_mul, i_neg, i_ofNat, i_rem, i_div, w_in, w_in2, w_cnt, w_cnt2, z01, z01', il, li, lc_ge, lc_le, lc_gt, lc_lt, lc_eq, l_ofNat, l0, l_eq, l_lt, l_le]) <;> omega)) (h_bind kd (h_pos (by first | omega | ((simp (disch := omega) only [i0, i1, i_lt, i_le, i_eq, i_add, i_sub, i_mul, i_neg, i_ofNat, i_rem, i_div, w_in, w_in2, w_cnt, w_cnt2, z01, z01', il, li, lc_ge, lc_le, lc_gt, lc_lt, lc_eq, l_ofNat, l0, l_eq, l_lt, l_le]) <;> omega)) rfl)))))
    (fun fu S S1 S2 k z i Y u1 u2 u3 u4 u5 v1 v2 v3 => by
      have kd := c_kind u3 hg u2.1 u1
      have kr := hg.2.2.2.1 k
      rw [lX5_readSum, (c_nxt u2).2.2, i_add, show (i : Int) + 1 = ((i + 1 : Nat) : Int) by omega]
      by_cases q : K k = 29
      · exact h_neg (by first | omega | ((simp (disch := omega) only [i0, i1, i_lt, i_le, i_eq, i_add, i_sub, i_mul, i_neg, i_ofNat, i_rem, i_div, w_in, w_in2, w_cnt, w_cnt2, z01, z01', il, li, lc_ge, lc_le, lc_gt, lc_lt, lc_eq, l_ofNat, l0, l_eq, l_lt, l_le]) <;> omega)) (h_bind kd (h_pos (by first | omega | ((simp (disch := omega) only [i0, i1, i_lt, i_le, i_eq, i_add, i_sub, i_mul, i_neg, i_ofNat, i_rem, i_div, w_in, w_in2, w_cnt, w_cnt2, z01, z01', il, li, lc_ge, lc_le, lc_gt, lc_lt, lc_eq, l_ofNat, l0, l_eq, l_lt, l_le]) <;> omega)) (h_bind kd (h_pst (h_bind v1 (h_bind v2 v3))))))
      · exact h_neg (by first | omega | ((simp (disch := omega) only [i0, i1, i_lt, i_le, i_eq, i_add, i_sub, i_mul, i_neg, i_ofNat, i_rem, i_div, w_in, w_in2, w_cnt, w_cnt2, z01, z01', il, li, lc_ge, lc_le, lc_gt, lc_lt, lc_eq, l_ofNat, l0, l_eq, l_lt, l_le]) <;> omega)) (h_bind kd (h_neg (by first | omega | ((simp (disch := omega) only [i0, i1, i_lt, i_le, i_eq, i_add, i_sub, i_mul, i_neg, i_ofNat, i_rem, i_div, w_in, w_in2, w_cnt, w_cnt2, z01, z01', il, li, lc_ge, lc_le, lc_gt, lc_lt, lc_eq, l_ofNat, l0, l_eq, l_lt, l_le]) <;> omega)) (h_bind kd (h_neg (by first | omega | ((simp (disch := omega) only [i0, i1, i_lt, i_le, i_eq, i_add, i_sub, i_mul, i_neg, i_ofNat, i_rem, i_div, w_in, w_in2, w_cnt, w_cnt2, z01, z01', il, li, lc_ge, lc_le, lc_gt, lc_lt, lc_eq, l_ofNat, l0, l_eq, l_lt, l_le]) <;> omega)) (h_bind kd (h_pst (h_bind v1 (h_bind v2 v3)))))))))
    hN hz ht hG a2
  refine ⟨S2, ?_, rRs_E (fun kd q => by unfold arK; omega) m2⟩
  unfold rd
  refine h_pos rfl ?_
  unfold fX5_readSum
  exact h_bind a1 m1
theorem t_bot (hg : tkG K V M) (hN : 2000000 ≤ N) (h : clAsk s K V pl M N n) : clBot s K V pl M N (n + 1) := by
  intro b S k z P c r hb hn hk hz ht hc hG ⟨h41, hA, hP⟩
  obtain ⟨S1, a1, a2⟩ := h b S k z P c r hb (by omega) hk hz ht hc hG ⟨h41, hA⟩
  obtain ⟨S2, m1, m2⟩ := lpW hg (gC_F (s := s)) (D := fun kd => kd = 12) (L := 2) (opf := fun _ => 21) (cmb := fun kd w1 w2 E => if kd = 12 then min (w1 E) (w2 E) else max (w1 E) (w2 E)) (lp := fun fu i S => lX5_readBoth N (rd N n) fu (Int32.ofInt (b : Int)) i S) (R := fun S => rd N n 7 0 (Int32.ofInt (b : Int)) S)
    (fun kd q => ⟨⟨by omega, rfl, by omega, by omega, by omega⟩, by omega⟩)
    (fun kd Z q a => by rw [btw_j (Or.inl q) a.2 a.1, if_pos q]) (by omega) hP FT_l FT_c
    (fun kd c i j l w1 w2 cd i' j' l' q h1 h2 h3 g1 g2 g3 => FT_j (Or.inl ⟨q, rfl⟩) h1 h2 h3 g1 g2 g3)
    (fun kd S k z c r q u1 u2 u3 u4 u5 => h b S k z _ c r hb (by omega) u1 u2 u3 u4 u5 ⟨h41, rfl⟩)
    (fun fu S k i u1 u2 u3 u4 u5 => by
      have kd := c_kind u3 hg u2 u1
      have kr := hg.2.2.2.1 k
      rw [lX5_readBoth]
      have e300 : ¬ Int32.ofInt 300 ≤ Int32.ofInt (i : Int) := by first | omega | ((simp (disch := omega) only [i0, i1, i_lt, i_le, i_eq, i_add, i_sub, i_mul, i_neg, i_ofNat, i_rem, i_div, w_in, w_in2, w_cnt, w_cnt2, z01, z01', il, li, lc_ge, lc_le, lc_gt, lc_lt, lc_eq, l_ofNat, l0, l_eq, l_lt, l_le]) <;> omega)
      exact h_neg e300 (h_bind kd (h_pos (by first | omega | ((simp (disch := omega) only [i0, i1, i_lt, i_le, i_eq, i_add, i_sub, i_mul, i_neg, i_ofNat, i_rem, i_div, w_in, w_in2, w_cnt, w_cnt2, z01, z01', il, li, lc_ge, lc_le, lc_gt, lc_lt, lc_eq, l_ofNat, l0, l_eq, l_lt, l_le]) <;> omega)) rfl)))
    (fun fu S S1 S2 k z i Y u1 u2 u3 u4 u5 v1 v2 v3 => by
      have kd := c_kind u3 hg u2.1 u1
      have kr := hg.2.2.2.1 k
      rw [u5] at v2
      rw [lX5_readBoth, (c_nxt u2).2.2, i_add, show (i : Int) + 1 = ((i + 1 : Nat) : Int) by omega]
      exact h_neg (by first | omega | ((simp (disch := omega) only [i0, i1, i_lt, i_le, i_eq, i_add, i_sub, i_mul, i_neg, i_ofNat, i_rem, i_div, w_in, w_in2, w_cnt, w_cnt2, z01, z01', il, li, lc_ge, lc_le, lc_gt, lc_lt, lc_eq, l_ofNat, l0, l_eq, l_lt, l_le]) <;> omega)) (h_bind kd (h_neg (by first | omega | ((simp (disch := omega) only [i0, i1, i_lt, i_le, i_eq, i_add, i_sub, i_mul, i_neg, i_ofNat, i_rem, i_div, w_in, w_in2, w_cnt, w_cnt2, z01, z01', il, li, lc_ge, lc_le, lc_gt, lc_lt, lc_eq, l_ofNat, l0, l_eq, l_lt, l_le]) <;> omega)) (h_pst (h_bind v1 (h_bind v2 v3))))))
    hN hz ht hG a2
  refine ⟨S2, ?_, m2⟩
  unfold rd
  refine h_neg (by decide) (h_neg (by decide) (h_neg (by decide) (h_neg (by decide) (h_neg (by decide) (h_neg (by decide) (h_pos rfl ?_))))))
  unfold fX5_readBoth
  exact h_bind a1 m1
theorem t_eit (hg : tkG K V M) (hN : 2000000 ≤ N) (h : clBot s K V pl M N n) : clEit s K V pl M N (n + 1) := by
  intro b S k z P c r hb hn hk hz ht hc hG ⟨h41, hA, hP⟩
  obtain ⟨S1, a1, a2⟩ := h b S k z P c r hb (by omega) hk hz ht hc hG ⟨h41, hA, by omega⟩
  obtain ⟨S2, m1, m2⟩ := lpW hg (gC_F (s := s)) (D := fun kd => kd = 13) (L := 1) (opf := fun _ => 22) (cmb := fun kd w1 w2 E => if kd = 12 then min (w1 E) (w2 E) else max (w1 E) (w2 E)) (lp := fun fu i S => lX5_readEither N (rd N n) fu (Int32.ofInt (b : Int)) i S) (R := fun S => rd N n 6 0 (Int32.ofInt (b : Int)) S)
    (fun kd q => ⟨⟨by omega, rfl, by omega, by omega, by omega⟩, by omega⟩)
    (fun kd Z q a => by rw [btw_j (Or.inr q) a.2 a.1, if_neg (by omega)]) (by omega) hP FT_l FT_c
    (fun kd c i j l w1 w2 cd i' j' l' q h1 h2 h3 g1 g2 g3 => FT_j (Or.inr ⟨q, rfl⟩) h1 h2 h3 g1 g2 g3)
    (fun kd S k z c r q u1 u2 u3 u4 u5 => h b S k z _ c r hb (by omega) u1 u2 u3 u4 u5 ⟨h41, rfl, by show rkO 22 < 2; decide⟩)
    (fun fu S k i u1 u2 u3 u4 u5 => by
      have kd := c_kind u3 hg u2 u1
      have kr := hg.2.2.2.1 k
      rw [lX5_readEither]
      have e300 : ¬ Int32.ofInt 300 ≤ Int32.ofInt (i : Int) := by first | omega | ((simp (disch := omega) only [i0, i1, i_lt, i_le, i_eq, i_add, i_sub, i_mul, i_neg, i_ofNat, i_rem, i_div, w_in, w_in2, w_cnt, w_cnt2, z01, z01', il, li, lc_ge, lc_le, lc_gt, lc_lt, lc_eq, l_ofNat, l0, l_eq, l_lt, l_le]) <;> omega)
      exact h_neg e300 (h_bind kd (h_pos (by first | omega | ((simp (disch := omega) only [i0, i1, i_lt, i_le, i_eq, i_add, i_sub, i_mul, i_neg, i_ofNat, i_rem, i_div, w_in, w_in2, w_cnt, w_cnt2, z01, z01', il, li, lc_ge, lc_le, lc_gt, lc_lt, lc_eq, l_ofNat, l0, l_eq, l_lt, l_le]) <;> omega)) rfl)))
    (fun fu S S1 S2 k z i Y u1 u2 u3 u4 u5 v1 v2 v3 => by
      have kd := c_kind u3 hg u2.1 u1
      have kr := hg.2.2.2.1 k
      rw [u5] at v2
      rw [lX5_readEither, (c_nxt u2).2.2, i_add, show (i : Int) + 1 = ((i + 1 : Nat) : Int) by omega]
      exact h_neg (by first | omega | ((simp (disch := omega) only [i0, i1, i_lt, i_le, i_eq, i_add, i_sub, i_mul, i_neg, i_ofNat, i_rem, i_div, w_in, w_in2, w_cnt, w_cnt2, z01, z01', il, li, lc_ge, lc_le, lc_gt, lc_lt, lc_eq, l_ofNat, l0, l_eq, l_lt, l_le]) <;> omega)) (h_bind kd (h_neg (by first | omega | ((simp (disch := omega) only [i0, i1, i_lt, i_le, i_eq, i_add, i_sub, i_mul, i_neg, i_ofNat, i_rem, i_div, w_in, w_in2, w_cnt, w_cnt2, z01, z01', il, li, lc_ge, lc_le, lc_gt, lc_lt, lc_eq, l_ofNat, l0, l_eq, l_lt, l_le]) <;> omega)) (h_pst (h_bind v1 (h_bind v2 v3))))))
    hN hz ht hG a2
  refine ⟨S2, ?_, m2⟩
  unfold rd
  refine h_neg (by decide) (h_neg (by decide) (h_neg (by decide) (h_neg (by decide) (h_neg (by decide) (h_pos rfl ?_)))))
  unfold fX5_readEither
  exact h_bind a1 m1
end RDK
