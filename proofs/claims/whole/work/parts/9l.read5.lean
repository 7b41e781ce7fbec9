/-! ===== the class's reader and the machine go together: compared, ask, one ===== -/
theorem rRs_L {s : Nat} {K V pl : Nat → Int} {M : Nat} {F : frF} {A : uZ → Prop} {E : Int → Prop} {S S' : yS} {k z : Nat} {X : uX} {L L' : Int} {P : List Int} {o : Int} {c : Nat → Int × Int} {r : Nat} (hL : L' ≤ L) (h : rRs s K V pl M F A E S S' k z X L P o c r) : rRs s K V pl M F A E S S' k z X L' P o c r := by
  obtain ⟨h1, h2 | h2⟩ := h
  · exact ⟨h1, Or.inl h2⟩
  · obtain ⟨k', z', Z, c', r', w, b1, b2, b3, b4, b5, b6, b7, b8, b9, b10, b11, b12⟩ := h2
    exact ⟨h1, Or.inr ⟨k', z', Z, c', r', w, b1, b2, b3, b4, b5, by rw [← stZ_stZ hL, b6, stl_stl hL], b7, b8, b9, b10, b11, b12⟩⟩
theorem cmK_v {kd : Int} (h : (25 ≤ kd ∧ kd ≤ 28) ∨ (36 ≤ kd ∧ kd ≤ 37)) : (10 ≤ cmK kd ∧ cmK kd ≤ 15) ∧ cmpO (cmK kd) = kd := by
  have : kd = 25 ∨ kd = 26 ∨ kd = 27 ∨ kd = 28 ∨ kd = 36 ∨ kd = 37 := by omega
  rcases this with rfl | rfl | rfl | rfl | rfl | rfl <;> decide
theorem cmK_n {kd : Int} (h : ¬ ((25 ≤ kd ∧ kd ≤ 28) ∨ (36 ≤ kd ∧ kd ≤ 37))) : cmK kd = -1 := by
  unfold cmK
  rw [if_neg (by omega), if_neg (by omega), if_neg (by omega), if_neg (by omega), if_neg (by omega), if_neg (by omega)]
theorem rk_4 {x : Int} (h : 10 ≤ x ∧ x ≤ 15) : rkO x = 4 := by
  unfold rkO
  rw [if_neg (by omega), if_neg (by omega), if_neg (by omega), if_neg (by omega), if_pos (by omega)]
section RDL
variable {s : Nat} {K V pl : Nat → Int} {M N n : Nat}
theorem t_cmp (hg : tkG K V M) (hN : 2000000 ≤ N) (h : clSum s K V pl M N n) : clCmp s K V pl M N (n + 1) := by
  intro b S k z P c r hb hn hk hz ht hc hG ⟨h41, hA, h11⟩
  have hM := hg.1
  obtain ⟨tp, ic⟩ := tpO_ask hA
  obtain ⟨S1, a1, a2, a3⟩ := h b S k z P c r hb (by omega) hk hz ht hc hG ⟨by omega, Or.inl h11⟩
  have t1 := tkC_F ht a2
  have pre : ∀ {Y : Option yS}, fX5_readCompared N (rd N n) (Int32.ofInt (b : Int)) S = Y → rd N (n + 1) 8 0 (Int32.ofInt (b : Int)) S = Y := fun {Y} hY => by
    unfold rd
    exact h_neg (by decide) (h_neg (by decide) (h_neg (by decide) (h_neg (by decide) (h_neg (by decide) (h_neg (by decide) (h_neg (by decide) (h_neg (by decide) (h_pos rfl hY))))))))
  rcases a3 with a3 | a3
  · obtain ⟨e, X', b1, b2, b3, b4, b5⟩ := a3
    obtain ⟨S2, d1, d2, d3⟩ := b_fail t1 hg b5 (by omega) (e2 := Int32.ofInt 1)
    refine ⟨S2, pre ?_, Fr_trans a2 d3, Or.inl ⟨e, X', b1, b2, b3, b4, d2⟩⟩
    unfold fX5_readCompared
    exact h_bind a1 (h_bind (b_kind t1 hg b5) (h_neg (by decide) (h_pos (by decide) (h_bind d1 rfl))))
  · obtain ⟨k1, z1, Z1, c1, r1, w1, b1, b2, b3, b4, b5, b6, b7, b8, b9, b10, b11, b12⟩ := a3
    have st1 : stZ 5 Z1 = (P, (b : Int), c1, r1) := by rw [b6]; exact stl_id (Or.inl (by omega))
    have o1 : opN Z1.1 = 41 := by rw [← stZ_opN (L := 5) (by omega), st1]; exact h41
    have i1 : isC Z1.1 = false := by rw [← stZ_isC (L := 5) (by omega), st1]; exact ic
    have bt := btw_m b12 o1 i1
    have kr := hg.2.2.2.1 k1
    have kd1 := c_kind t1 hg b3.1 b2
    by_cases cm : (25 ≤ K k1 ∧ K k1 ≤ 28) ∨ (36 ≤ K k1 ∧ K k1 ≤ 37)
    · obtain ⟨cv, cp⟩ := cmK_v cm
      have rk := rk_4 cv
      have hkM : k1 < M := by
        by_cases q : k1 < M
        · exact q
        · have e1 : k1 = M := by omega
          have := hg.2.1
          rw [e1] at cm
          omega
      have us : uS s K V (k1, true, Z1) = (-1, (k1 + 1, false, cmK (K k1) :: P, (b : Int), c1, r1)) := by
        rw [bh_btw bt (by omega), if_pos rk, st1]
        rfl
      have rc := rch_trans b5 (rch_one us)
      obtain ⟨n1, n2, n3⟩ := c_nxt b3
      have t2 := tkC_F t1 n2
      have g2 := gC_F _ _ (gC_F _ _ hG a2) n2
      obtain ⟨S2, d1, d2, d3⟩ := h b _ (k1 + 1) z1 (cmK (K k1) :: P) c1 r1 hb (by omega) (by omega) (by omega) t2 n1 g2 ⟨by show rkO (cmK (K k1)) < 5; omega, nN_cons (by omega) (by omega)⟩
      have t3 := tkC_F t2 d2
      have go : ∀ {S3 : yS}, fX5_emit (Int32.ofInt (K k1)) (Int32.ofInt 0) S2 = some S3 → rd N (n + 1) 8 0 (Int32.ofInt (b : Int)) S = some S3 := fun {S3} he => pre (by
        unfold fX5_readCompared
        refine h_bind a1 (h_bind kd1 ?_)
        rw [n3]
        by_cases q : 25 ≤ K k1 ∧ K k1 ≤ 28
        · exact h_pos (by first | omega | ((simp (disch := omega) only [i0, i1, i_lt, i_le, i_eq, i_add, i_sub, i_mul, i_neg, i_ofNat, i_rem, i_div, w_in, w_in2, w_cnt, w_cnt2, z01, z01', il, li, lc_ge, lc_le, lc_gt, lc_lt, lc_eq, l_ofNat, l0, l_eq, l_lt, l_le]) <;> omega)) (h_pst (h_bind d1 (h_bind he rfl)))
        · exact h_neg (by first | omega | ((simp (disch := omega) only [i0, i1, i_lt, i_le, i_eq, i_add, i_sub, i_mul, i_neg, i_ofNat, i_rem, i_div, w_in, w_in2, w_cnt, w_cnt2, z01, z01', il, li, lc_ge, lc_le, lc_gt, lc_lt, lc_eq, l_ofNat, l0, l_eq, l_lt, l_le]) <;> omega)) (h_neg (by first | omega | ((simp (disch := omega) only [i0, i1, i_lt, i_le, i_eq, i_add, i_sub, i_mul, i_neg, i_ofNat, i_rem, i_div, w_in, w_in2, w_cnt, w_cnt2, z01, z01', il, li, lc_ge, lc_le, lc_gt, lc_lt, lc_eq, l_ofNat, l0, l_eq, l_lt, l_le]) <;> omega)) (h_pst (h_bind d1 (h_bind he rfl)))))
      rcases d3 with d3 | d3
      · obtain ⟨e, X', f1, f2, f3, f4, f5⟩ := d3
        obtain ⟨S3, e1, e2, e3⟩ := b_emit f5 (a := Int32.ofInt (K k1)) (b := Int32.ofInt 0)
        exact ⟨S3, go e1, Fr_trans a2 (Fr_trans n2 (Fr_trans d2 e3)), Or.inl ⟨e, X', f1, rch_trans rc f2, f3, f4, e2⟩⟩
      · obtain ⟨k2, z2, Z2, c2, r2, w2, f1, f2, f3, f4, f5, f6, f7, f8, f9, f10, f11, f12⟩ := d3
        obtain ⟨S3, e1, e2, e3, e4, e5⟩ := c_emit f3 (by omega) (a := K k1) (v := 0) (by omega) (by omega)
        have q1 := b9.1
        have q2 := f9.1
        have q3 := b10.1
        have q4 := f10.1
        have cc : ∀ j, j < z1 → cdX S3 j = cdX S1 j := fun j hj => by rw [e5 j (by omega), f7 j hj]; rfl
        have st2 : stZ 5 Z2 = (cmK (K k1) :: P, (b : Int), c2, r2) := by rw [f6]; exact stl_id (Or.inl (by show rkO (cmK (K k1)) < 5; omega))
        refine ⟨S3, go e1, Fr_trans a2 (Fr_trans n2 (Fr_trans d2 e3)), Or.inr ⟨k2, z2 + 1, Z2, cU c2 r2 (cmK (K k1), 0), r2 + 1, fun E => two1 (K k1) (w1 E) (w2 E), by omega, f2, e2, by omega, rch_trans rc f5, ?_, fun j hj => by rw [cc j (by omega)]; exact b7 j hj, fun j hj => by rw [cU_ne (by omega), f8 j (by omega)]; exact b8 j hj, ?_, ⟨?_, ?_⟩, ⟨?_, ?_⟩, f12⟩⟩
        · rw [← stZ_stZ (show (4 : Int) ≤ 5 by omega), st2]
          show stl 4 (cmK (K k1) :: P) (b : Int) c2 r2 = _
          rw [stl_pop (by omega), if_neg (by omega)]
        · exact frC_two (frC_congr b9 (fun q _ h2 => cc q h2)) (frC_congr f9 (fun q _ h2 => e5 q (by omega))) (by rw [e4]) (by omega)
        · have := frT_cmp (frV_congr b10 (cd' := cU c2 r2 (cmK (K k1), 0)) (fun q _ h2 => by rw [cU_ne (by omega), f8 q (by omega)])) (frV_congr f10 (cd' := cU c2 r2 (cmK (K k1), 0)) (fun q _ h2 => cU_ne (by omega))) (op := cmK (K k1)) (by rw [cU_at]) cv
          rw [cp] at this
          exact this
        · exact fun E _ => two1_01 (by omega)
        · rw [← stZ_isC (L := 5) (by omega), st2]
          show (if rkO (cmK (K k1)) ≤ 4 then decide (rkO (cmK (K k1)) = 4) else isC P) = true
          rw [if_pos (by omega)]
          exact decide_eq_true rk
        · rw [← stZ_opN (L := 5) (by omega), st2]
          show (if 40 ≤ cmK (K k1) then cmK (K k1) else opN P) = 41
          rw [if_neg (by omega)]; exact h41
    · obtain ⟨S2, d1, d2, d3⟩ := c_fail t1 hg b3 b2 (by omega) (e := 1)
      refine ⟨S2, pre ?_, Fr_trans a2 d3, Or.inl ⟨1, (k1, true, Z1), by omega, b5, bh_prtF (by rw [bt]; exact cmK_n cm) ?_ (by omega), b2, d2⟩⟩
      · unfold fX5_readCompared
        exact h_bind a1 (h_bind kd1 (h_neg (by first | omega | ((simp (disch := omega) only [i0, i1, i_lt, i_le, i_eq, i_add, i_sub, i_mul, i_neg, i_ofNat, i_rem, i_div, w_in, w_in2, w_cnt, w_cnt2, z01, z01', il, li, lc_ge, lc_le, lc_gt, lc_lt, lc_eq, l_ofNat, l0, l_eq, l_lt, l_le]) <;> omega)) (h_pos (by first | omega | ((simp (disch := omega) only [i0, i1, i_lt, i_le, i_eq, i_add, i_sub, i_mul, i_neg, i_ofNat, i_rem, i_div, w_in, w_in2, w_cnt, w_cnt2, z01, z01', il, li, lc_ge, lc_le, lc_gt, lc_lt, lc_eq, l_ofNat, l0, l_eq, l_lt, l_le]) <;> omega)) (h_bind d1 rfl))))
      · rw [o1]
        unfold prt
        rw [if_neg (by omega), if_pos rfl, i1, if_neg (fun q => absurd q.2 (by decide))]
theorem t_ask (hg : tkG K V M) (hN : 2000000 ≤ N) (h : clAsk s K V pl M N n) (h2 : clCmp s K V pl M N n) : clAsk s K V pl M N (n + 1) := by
  intro b S k z P c r hb hn hk hz ht hc hG ⟨h41, hA⟩
  have hM := hg.1
  have kr := hg.2.2.2.1 k
  have kd := c_kind ht hg hc.1 hk
  have pre : ∀ {Y : Option yS}, fX5_readAsk N (rd N n) (Int32.ofInt (b : Int)) S = Y → rd N (n + 1) 7 0 (Int32.ofInt (b : Int)) S = Y := fun {Y} hY => by
    unfold rd
    exact h_neg (by decide) (h_neg (by decide) (h_neg (by decide) (h_neg (by decide) (h_neg (by decide) (h_neg (by decide) (h_neg (by decide) (h_pos rfl hY)))))))
  by_cases k11 : K k = 11
  · have us := bg_not (s := s) (K := K) (V := V) (k := k) (o := (b : Int)) (c := c) (r := r) k11 ⟨h41, hA⟩
    by_cases b8 : b < 8
    · rw [opd_ok (by omega)] at us
      have hkM : k < M := by
        by_cases q : k < M
        · exact q
        · have e1 : k = M := by omega
          have := hg.2.1
          rw [e1] at k11
          omega
      obtain ⟨n1, n2, n3⟩ := c_nxt hc
      have t1 := tkC_F ht n2
      obtain ⟨S1, a1, a2, a3⟩ := h (b + 1) _ (k + 1) z (20 :: P) c r (by omega) (by omega) (by omega) (by omega) t1 n1 (gC_F _ _ hG n2) ⟨h41, rfl⟩
      have eb : ((b + 1 : Nat) : Int) = (b : Int) + 1 := by omega
      rw [eb] at a1 a3
      have rc := rch_one us
      have go : ∀ {S3 : yS}, fX5_emit (Int32.ofInt 11) (Int32.ofInt 0) S1 = some S3 → rd N (n + 1) 7 0 (Int32.ofInt (b : Int)) S = some S3 := fun {S3} he => pre (by
        unfold fX5_readAsk
        refine h_bind kd ?_
        rw [n3, i_add]
        exact h_pos (by first | omega | ((simp (disch := omega) only [i0, i1, i_lt, i_le, i_eq, i_add, i_sub, i_mul, i_neg, i_ofNat, i_rem, i_div, w_in, w_in2, w_cnt, w_cnt2, z01, z01', il, li, lc_ge, lc_le, lc_gt, lc_lt, lc_eq, l_ofNat, l0, l_eq, l_lt, l_le]) <;> omega)) (h_pos (by first | omega | ((simp (disch := omega) only [i0, i1, i_lt, i_le, i_eq, i_add, i_sub, i_mul, i_neg, i_ofNat, i_rem, i_div, w_in, w_in2, w_cnt, w_cnt2, z01, z01', il, li, lc_ge, lc_le, lc_gt, lc_lt, lc_eq, l_ofNat, l0, l_eq, l_lt, l_le]) <;> omega)) (h_pst (h_bind a1 (h_bind he rfl)))))
      rcases a3 with a3 | a3
      · obtain ⟨e, X', f1, f2, f3, f4, f5⟩ := a3
        obtain ⟨S3, e1, e2, e3⟩ := b_emit f5 (a := Int32.ofInt 11) (b := Int32.ofInt 0)
        exact ⟨S3, go e1, Fr_trans n2 (Fr_trans a2 e3), Or.inl ⟨e, X', f1, rch_trans rc f2, f3, f4, e2⟩⟩
      · obtain ⟨k2, z2, Z2, c2, r2, w2, f1, f2, f3, f4, f5, f6, f7, f8, f9, f10, f11, f12⟩ := a3
        obtain ⟨S3, e1, e2, e3, e4, e5⟩ := c_emit f3 (by omega) (a := 11) (v := 0) (by omega) (by omega)
        have q2 := f9.1
        have q4 := f10.1.1
        refine ⟨S3, go e1, Fr_trans n2 (Fr_trans a2 e3), Or.inr ⟨k2, z2 + 1, Z2, cU c2 r2 (20, 0), r2 + 1, fun E => 1 - w2 E, by omega, f2, e2, by omega, rch_trans rc f5, ?_, fun j hj => by rw [e5 j (by omega), f7 j hj]; rfl, fun j hj => by rw [cU_ne (by omega), f8 j (by omega)], ?_, ⟨?_, ?_⟩, f11, f12⟩⟩
        · rw [f6, stl_pop (by decide), if_pos (Or.inr rfl), show (b : Int) + 1 - 1 = (b : Int) by omega]
        · exact frC_not (frC_congr f9 (fun q _ h2 => e5 q (by omega))) (by rw [e4]) f10.2
        · exact frT_not (frT_congr f10.1 (fun q _ h2 => cU_ne (by omega))) (by rw [cU_at]) f10.2
        · intro E hE
          have := f10.2 E hE
          show 1 - w2 E = 0 ∨ 1 - w2 E = 1
          omega
    · obtain ⟨S1, d1, d2, d3⟩ := c_fail ht hg hc hk (by omega) (e := 3)
      refine ⟨S1, pre ?_, d3, Or.inl ⟨3, _, by omega, rch_refl _, by rw [us]; exact opd_no (by omega), hk, d2⟩⟩
      unfold fX5_readAsk
      exact h_bind kd (h_pos (by first | omega | ((simp (disch := omega) only [i0, i1, i_lt, i_le, i_eq, i_add, i_sub, i_mul, i_neg, i_ofNat, i_rem, i_div, w_in, w_in2, w_cnt, w_cnt2, z01, z01', il, li, lc_ge, lc_le, lc_gt, lc_lt, lc_eq, l_ofNat, l0, l_eq, l_lt, l_le]) <;> omega)) (h_neg (by first | omega | ((simp (disch := omega) only [i0, i1, i_lt, i_le, i_eq, i_add, i_sub, i_mul, i_neg, i_ofNat, i_rem, i_div, w_in, w_in2, w_cnt, w_cnt2, z01, z01', il, li, lc_ge, lc_le, lc_gt, lc_lt, lc_eq, l_ofNat, l0, l_eq, l_lt, l_le]) <;> omega)) (h_bind d1 rfl)))
  · obtain ⟨S1, a1, a2⟩ := h2 b S k z P c r hb (by omega) hk hz ht hc hG ⟨h41, hA, k11⟩
    refine ⟨S1, pre ?_, rRs_L (by omega) a2⟩
    unfold fX5_readAsk
    exact h_bind kd (h_neg (by first | omega | ((simp (disch := omega) only [i0, i1, i_lt, i_le, i_eq, i_add, i_sub, i_mul, i_neg, i_ofNat, i_rem, i_div, w_in, w_in2, w_cnt, w_cnt2, z01, z01', il, li, lc_ge, lc_le, lc_gt, lc_lt, lc_eq, l_ofNat, l0, l_eq, l_lt, l_le]) <;> omega)) (h_bind a1 rfl))
theorem t_one (hg : tkG K V M) (hN : 2000000 ≤ N) (hs : s ≤ 1) (h : ∀ kd, opk kd → clX s K V pl M N n 3 9 kd (opx kd)) : clOne s K V pl M N (n + 1) := by
  intro b S k z P c r hb hn hk hz ht hc hG h11
  have hM := hg.1
  have kr := hg.2.2.2.1 k
  have vr := hg.2.2.2.2 k
  have kd := c_kind ht hg hc.1 hk
  have pre : ∀ {Y : Option yS}, fX5_readOne N (rd N n) (Int32.ofInt (b : Int)) S = Y → rd N (n + 1) 2 0 (Int32.ofInt (b : Int)) S = Y := fun {Y} hY => by
    unfold rd
    exact h_neg (by decide) (h_neg (by decide) (h_pos rfl hY))
  have lt : K k ≠ 40 → k < M := fun q => by
    by_cases q2 : k < M
    · exact q2
    · have e1 : k = M := by omega
      have := hg.2.1
      rw [← e1] at this
      exact absurd this q
  obtain ⟨n1, n2, n3⟩ := c_nxt hc
  have done : ∀ {S2 : yS} {cl rf : Int × Int} {w : eV → Int}, k < M → rd N (n + 1) 2 0 (Int32.ofInt (b : Int)) S = some S2 → cS S2 (k + 1) (z + 1) → Fr S S2 → uS s K V (k, false, P, (b : Int), c, r) = (-1, (k + 1, true, stl 7 P (b : Int) (cU c r rf) (r + 1))) → (∀ j, j ≠ z → cdX S2 j = cdX S j) → frC s (cdX S2) z (z + 1) w → frV s (cU c r rf) r (r + 1) w → ∃ S', rd N (n + 1) 2 0 (Int32.ofInt (b : Int)) S = some S' ∧ rRs s K V pl M (FV s) AV (fun _ => True) S S' k z (k, false, P, (b : Int), c, r) 7 P (b : Int) c r := fun {S2 cl rf w} u0 u1 u2 u3 u4 u5 u6 u7 => ⟨S2, u1, u3, Or.inr ⟨k + 1, z + 1, stl 7 P (b : Int) (cU c r rf) (r + 1), cU c r rf, r + 1, w, by omega, by omega, u2, by omega, rch_one u4, stl_stl (Int.le_refl _) _ _ _ _, fun j hj => u5 j (by omega), fun j hj => cU_ne (by omega), u6, u7, trivial, trivial⟩⟩
  by_cases k38 : K k = 38
  · have kM := lt (by omega)
    have e255 : S.2.2.1 255 k = Int32.ofInt (V k) := (ht.2 k hk).2.2
    by_cases v9 : V k ≤ 9999
    · obtain ⟨S2, e1, e2, e3, e4, e5⟩ := c_emit n1 (by omega) (a := 38) (v := V k) (by omega) (by omega)
      refine done (cl := (0, 0)) (rf := (0, V k)) (w := fun _ => V k) kM (pre ?_) e2 (Fr_trans n2 e3) (bg_num k38 v9) (fun j hj => by rw [e5 j hj]; rfl) (frC_num e4 (by omega)) (frV_num cU_at (by omega))
      unfold fX5_readOne
      refine h_bind kd (h_neg (by first | omega | ((simp (disch := omega) only [i0, i1, i_lt, i_le, i_eq, i_add, i_sub, i_mul, i_neg, i_ofNat, i_rem, i_div, w_in, w_in2, w_cnt, w_cnt2, z01, z01', il, li, lc_ge, lc_le, lc_gt, lc_lt, lc_eq, l_ofNat, l0, l_eq, l_lt, l_le]) <;> omega)) (h_bind (v := (Int32.ofInt (V k), ySi S 250 1 (Int32.ofInt ((k + 1 : Nat) : Int)))) ?_ ?_))
      · unfold fX5_readNumber
        refine h_bind kd (h_pos (by first | omega | ((simp (disch := omega) only [i0, i1, i_lt, i_le, i_eq, i_add, i_sub, i_mul, i_neg, i_ofNat, i_rem, i_div, w_in, w_in2, w_cnt, w_cnt2, z01, z01', il, li, lc_ge, lc_le, lc_gt, lc_lt, lc_eq, l_ofNat, l0, l_eq, l_lt, l_le]) <;> omega)) ?_)
        rw [n3, hc.1]
        refine h_ainN (by omega) (by omega) ?_
        rw [e255]
        exact h_pos (by first | omega | ((simp (disch := omega) only [i0, i1, i_lt, i_le, i_eq, i_add, i_sub, i_mul, i_neg, i_ofNat, i_rem, i_div, w_in, w_in2, w_cnt, w_cnt2, z01, z01', il, li, lc_ge, lc_le, lc_gt, lc_lt, lc_eq, l_ofNat, l0, l_eq, l_lt, l_le]) <;> omega)) rfl
      · dsimp only
        exact h_bind e1 rfl
    · obtain ⟨S1, d1, d2, d3⟩ := c_fail ht hg hc hk (by omega) (e := 2)
      obtain ⟨S2, e1, e2, e3⟩ := b_emit d2 (a := Int32.ofInt 38) (b := Int32.ofInt 0)
      refine ⟨S2, pre ?_, Fr_trans d3 e3, Or.inl ⟨2, _, by omega, rch_refl _, bg_numF k38 (by omega), hk, e2⟩⟩
      unfold fX5_readOne
      refine h_bind kd (h_neg (by first | omega | ((simp (disch := omega) only [i0, i1, i_lt, i_le, i_eq, i_add, i_sub, i_mul, i_neg, i_ofNat, i_rem, i_div, w_in, w_in2, w_cnt, w_cnt2, z01, z01', il, li, lc_ge, lc_le, lc_gt, lc_lt, lc_eq, l_ofNat, l0, l_eq, l_lt, l_le]) <;> omega)) (h_bind (v := (Int32.ofInt 0, S1)) ?_ ?_))
      · unfold fX5_readNumber
        refine h_bind kd (h_pos (by first | omega | ((simp (disch := omega) only [i0, i1, i_lt, i_le, i_eq, i_add, i_sub, i_mul, i_neg, i_ofNat, i_rem, i_div, w_in, w_in2, w_cnt, w_cnt2, z01, z01', il, li, lc_ge, lc_le, lc_gt, lc_lt, lc_eq, l_ofNat, l0, l_eq, l_lt, l_le]) <;> omega)) ?_)
        rw [hc.1]
        refine h_ainN (by omega) (by omega) ?_
        rw [e255]
        exact h_neg (by first | omega | ((simp (disch := omega) only [i0, i1, i_lt, i_le, i_eq, i_add, i_sub, i_mul, i_neg, i_ofNat, i_rem, i_div, w_in, w_in2, w_cnt, w_cnt2, z01, z01', il, li, lc_ge, lc_le, lc_gt, lc_lt, lc_eq, l_ofNat, l0, l_eq, l_lt, l_le]) <;> omega)) (h_bind d1 rfl)
      · dsimp only
        exact h_bind e1 rfl
  · by_cases k8 : K k ≤ 8
    · have kM := lt (by omega)
      by_cases ok : okN s (K k) = true
      · have hk2 := ok
        unfold okN at hk2
        have hk2 := of_decide_eq_true hk2
        obtain ⟨S2, e1, e2, e3, e4, e5⟩ := c_emit n1 (by omega) (a := K k) (v := 0) (by omega) (by omega)
        refine done (cl := (0, 0)) (rf := (1, K k)) (w := fun E => E (K k).toNat) kM (pre ?_) e2 (Fr_trans n2 e3) (bg_name k8 ok) (fun j hj => by rw [e5 j hj]; rfl) (frC_name (by rw [e4]) ok) (frV_name cU_at ok)
        unfold fX5_readOne
        refine h_bind kd (h_pos (by first | omega | ((simp (disch := omega) only [i0, i1, i_lt, i_le, i_eq, i_add, i_sub, i_mul, i_neg, i_ofNat, i_rem, i_div, w_in, w_in2, w_cnt, w_cnt2, z01, z01', il, li, lc_ge, lc_le, lc_gt, lc_lt, lc_eq, l_ofNat, l0, l_eq, l_lt, l_le]) <;> omega)) (h_neg (by first | omega | ((simp (disch := omega) only [i0, i1, i_lt, i_le, i_eq, i_add, i_sub, i_mul, i_neg, i_ofNat, i_rem, i_div, w_in, w_in2, w_cnt, w_cnt2, z01, z01', il, li, lc_ge, lc_le, lc_gt, lc_lt, lc_eq, l_ofNat, l0, l_eq, l_lt, l_le]) <;> omega)) (h_bind (v := S2) ?_ rfl)))
        unfold fX5_readName
        unfold gC at hG
        rw [hG, n3]
        by_cases s0 : s = 0
        · rw [s0]
          exact h_neg (by decide) (h_pos (by first | omega | ((simp (disch := omega) only [i0, i1, i_lt, i_le, i_eq, i_add, i_sub, i_mul, i_neg, i_ofNat, i_rem, i_div, w_in, w_in2, w_cnt, w_cnt2, z01, z01', il, li, lc_ge, lc_le, lc_gt, lc_lt, lc_eq, l_ofNat, l0, l_eq, l_lt, l_le]) <;> omega)) (h_pst (h_bind e1 rfl)))
        · have s1 : s = 1 := by omega
          rw [s1]
          exact h_pos (by decide) (h_pst (h_pos (by first | omega | ((simp (disch := omega) only [i0, i1, i_lt, i_le, i_eq, i_add, i_sub, i_mul, i_neg, i_ofNat, i_rem, i_div, w_in, w_in2, w_cnt, w_cnt2, z01, z01', il, li, lc_ge, lc_le, lc_gt, lc_lt, lc_eq, l_ofNat, l0, l_eq, l_lt, l_le]) <;> omega)) (h_pst (h_bind e1 rfl))))
      · have hk2 : ¬ (0 ≤ K k ∧ (K k < 4 ∨ (s = 0 ∧ K k < 7) ∨ (s = 1 ∧ 7 ≤ K k ∧ K k ≤ 8))) := fun q => ok (decide_eq_true q)
        obtain ⟨S1, d1, d2, d3⟩ := c_fail ht hg hc hk (by omega) (e := 5)
        refine ⟨S1, pre ?_, d3, Or.inl ⟨5, _, by omega, rch_refl _, bg_nameF k8 ok, hk, d2⟩⟩
        unfold fX5_readOne
        refine h_bind kd (h_pos (by first | omega | ((simp (disch := omega) only [i0, i1, i_lt, i_le, i_eq, i_add, i_sub, i_mul, i_neg, i_ofNat, i_rem, i_div, w_in, w_in2, w_cnt, w_cnt2, z01, z01', il, li, lc_ge, lc_le, lc_gt, lc_lt, lc_eq, l_ofNat, l0, l_eq, l_lt, l_le]) <;> omega)) (h_neg (by first | omega | ((simp (disch := omega) only [i0, i1, i_lt, i_le, i_eq, i_add, i_sub, i_mul, i_neg, i_ofNat, i_rem, i_div, w_in, w_in2, w_cnt, w_cnt2, z01, z01', il, li, lc_ge, lc_le, lc_gt, lc_lt, lc_eq, l_ofNat, l0, l_eq, l_lt, l_le]) <;> omega)) (h_bind (v := S1) ?_ rfl)))
        unfold fX5_readName
        unfold gC at hG
        rw [hG]
        by_cases s0 : s = 0
        · rw [s0]
          exact h_neg (by decide) (h_neg (by first | omega | ((simp (disch := omega) only [i0, i1, i_lt, i_le, i_eq, i_add, i_sub, i_mul, i_neg, i_ofNat, i_rem, i_div, w_in, w_in2, w_cnt, w_cnt2, z01, z01', il, li, lc_ge, lc_le, lc_gt, lc_lt, lc_eq, l_ofNat, l0, l_eq, l_lt, l_le]) <;> omega)) (h_bind d1 rfl))
        · have s1 : s = 1 := by omega
          rw [s1]
          exact h_pos (by decide) (h_pst (h_neg (by first | omega | ((simp (disch := omega) only [i0, i1, i_lt, i_le, i_eq, i_add, i_sub, i_mul, i_neg, i_ofNat, i_rem, i_div, w_in, w_in2, w_cnt, w_cnt2, z01, z01', il, li, lc_ge, lc_le, lc_gt, lc_lt, lc_eq, l_ofNat, l0, l_eq, l_lt, l_le]) <;> omega)) (h_bind d1 rfl)))
    · have op : fX5_opensOne (Int32.ofInt (K k)) = Int32.ofInt (if (K k = 33 ∨ K k = 30 ∨ K k = 9 ∨ K k = 10 ∨ K k = 14) then 1 else 0) := by
        unfold fX5_opensOne
        simp (disch := omega) only [i_eq]
        repeat' split
        all_goals first | rfl | omega
      by_cases ok : opk (K k)
      · rw [if_pos (show K k = 33 ∨ K k = 30 ∨ K k = 9 ∨ K k = 10 ∨ K k = 14 from ok)] at op
        have us := bg_opd (s := s) (V := V) (P := P) (o := (b : Int)) (c := c) (r := r) ok
        by_cases b8 : b < 8
        · rw [opd_ok (by omega)] at us
          have kM := lt (by unfold opk at ok; omega)
          have t1 := tkC_F ht n2
          obtain ⟨S1, a1, a2, a3⟩ := h (K k) ok (b + 1) _ k z P c r (by omega) (by omega) (by omega) (by omega) (by omega) t1 n1 (gC_F _ _ hG n2)
          have eb : ((b + 1 : Nat) : Int) = (b : Int) + 1 := by omega
          rw [eb, show (b : Int) + 1 - 1 = (b : Int) by omega] at a3
          rw [eb] at a1
          refine ⟨S1, pre ?_, Fr_trans n2 a2, ?_⟩
          · unfold fX5_readOne
            refine h_bind kd (h_pos (by first | omega | ((simp (disch := omega) only [i0, i1, i_lt, i_le, i_eq, i_add, i_sub, i_mul, i_neg, i_ofNat, i_rem, i_div, w_in, w_in2, w_cnt, w_cnt2, z01, z01', il, li, lc_ge, lc_le, lc_gt, lc_lt, lc_eq, l_ofNat, l0, l_eq, l_lt, l_le]) <;> omega)) (h_pos (by first | omega | ((simp (disch := omega) only [i0, i1, i_lt, i_le, i_eq, i_add, i_sub, i_mul, i_neg, i_ofNat, i_rem, i_div, w_in, w_in2, w_cnt, w_cnt2, z01, z01', il, li, lc_ge, lc_le, lc_gt, lc_lt, lc_eq, l_ofNat, l0, l_eq, l_lt, l_le]) <;> omega)) ?_))
            rw [op, n3, i_add]
            exact h_pos (by decide) (h_pos (by first | omega | ((simp (disch := omega) only [i0, i1, i_lt, i_le, i_eq, i_add, i_sub, i_mul, i_neg, i_ofNat, i_rem, i_div, w_in, w_in2, w_cnt, w_cnt2, z01, z01', il, li, lc_ge, lc_le, lc_gt, lc_lt, lc_eq, l_ofNat, l0, l_eq, l_lt, l_le]) <;> omega)) (h_pst (h_bind a1 rfl)))
          · rcases a3 with a3 | a3
            · exact Or.inl (rBd_of (rch_one us) a3)
            · obtain ⟨k', z', Z, c', r', w, f1, f2, f3, f4, f5, f6, f7, f8, f9, f10, f11, f12⟩ := a3
              exact Or.inr ⟨k', z', Z, c', r', w, by omega, f2, f3, by omega, rch_trans (rch_one us) f5, f6, fun j hj => by rw [f7 j hj]; rfl, f8, f9, f10, f11, f12⟩
        · obtain ⟨S1, d1, d2, d3⟩ := c_fail ht hg hc hk (by omega) (e := 3)
          refine ⟨S1, pre ?_, d3, Or.inl ⟨3, _, by omega, rch_refl _, by rw [us]; exact opd_no (by omega), hk, d2⟩⟩
          unfold fX5_readOne
          refine h_bind kd (h_pos (by first | omega | ((simp (disch := omega) only [i0, i1, i_lt, i_le, i_eq, i_add, i_sub, i_mul, i_neg, i_ofNat, i_rem, i_div, w_in, w_in2, w_cnt, w_cnt2, z01, z01', il, li, lc_ge, lc_le, lc_gt, lc_lt, lc_eq, l_ofNat, l0, l_eq, l_lt, l_le]) <;> omega)) (h_pos (by first | omega | ((simp (disch := omega) only [i0, i1, i_lt, i_le, i_eq, i_add, i_sub, i_mul, i_neg, i_ofNat, i_rem, i_div, w_in, w_in2, w_cnt, w_cnt2, z01, z01', il, li, lc_ge, lc_le, lc_gt, lc_lt, lc_eq, l_ofNat, l0, l_eq, l_lt, l_le]) <;> omega)) ?_))
          rw [op]
          exact h_pos (by decide) (h_neg (by first | omega | ((simp (disch := omega) only [i0, i1, i_lt, i_le, i_eq, i_add, i_sub, i_mul, i_neg, i_ofNat, i_rem, i_div, w_in, w_in2, w_cnt, w_cnt2, z01, z01', il, li, lc_ge, lc_le, lc_gt, lc_lt, lc_eq, l_ofNat, l0, l_eq, l_lt, l_le]) <;> omega)) (h_bind d1 rfl))
      · rw [if_neg (show ¬ (K k = 33 ∨ K k = 30 ∨ K k = 9 ∨ K k = 10 ∨ K k = 14) from ok)] at op
        obtain ⟨S1, d1, d2, d3⟩ := c_fail ht hg hc hk (by omega) (e := 1)
        refine ⟨S1, pre ?_, d3, Or.inl ⟨1, _, by omega, rch_refl _, bg_F k38 k8 ok h11, hk, d2⟩⟩
        unfold fX5_readOne
        refine h_bind kd (h_pos (by first | omega | ((simp (disch := omega) only [i0, i1, i_lt, i_le, i_eq, i_add, i_sub, i_mul, i_neg, i_ofNat, i_rem, i_div, w_in, w_in2, w_cnt, w_cnt2, z01, z01', il, li, lc_ge, lc_le, lc_gt, lc_lt, lc_eq, l_ofNat, l0, l_eq, l_lt, l_le]) <;> omega)) (h_pos (by first | omega | ((simp (disch := omega) only [i0, i1, i_lt, i_le, i_eq, i_add, i_sub, i_mul, i_neg, i_ofNat, i_rem, i_div, w_in, w_in2, w_cnt, w_cnt2, z01, z01', il, li, lc_ge, lc_le, lc_gt, lc_lt, lc_eq, l_ofNat, l0, l_eq, l_lt, l_le]) <;> omega)) ?_))
        rw [op]
        exact h_neg (by decide) (h_bind d1 rfl)
end RDL
