/-! ===== the class's reader and the machine go together: choice, opened; all nine ===== -/
def ch18 (v : Int32) (S : yS) : Option yS := (fX5_aim v S).bind fun S20 => some S20
def ch15 (v : Int32) (S : yS) : Option yS := (fX5_expect (Int32.ofInt 17) S).bind fun S18 => ch18 v S18
def ch10 (R : Nat → Int32 → Int32 → yS → Option yS) (v0 v4 : Int32) (S10 : yS) : Option yS := (fX5_emit (Int32.ofInt 16) (Int32.ofInt 0) S10).bind fun S12 => (fX5_aim v4 S12).bind fun S14 => (R 0 0 v0 S14).bind fun S15 => ch15 (S10.1 250 7) S15
def ch7 (R : Nat → Int32 → Int32 → yS → Option yS) (v0 v4 : Int32) (S : yS) : Option yS := (fX5_expect (Int32.ofInt 16) S).bind fun S10 => ch10 R v0 v4 S10
def ch4 (R : Nat → Int32 → Int32 → yS → Option yS) (v0 : Int32) (S4 : yS) : Option yS := (fX5_emit (Int32.ofInt 15) (Int32.ofInt 0) S4).bind fun S6 => (R 0 0 v0 S6).bind fun S7 => ch7 R v0 (S4.1 250 7) S7
def ch1 (R : Nat → Int32 → Int32 → yS → Option yS) (v0 : Int32) (S : yS) : Option yS := (fX5_expect (Int32.ofInt 15) S).bind fun S4 => ch4 R v0 S4
theorem ch_eq {N : Nat} {R : Nat → Int32 → Int32 → yS → Option yS} {v0 : Int32} {S : yS} : fX5_readChoice N R v0 S = (R 5 0 v0 S).bind fun S1 => ch1 R v0 S1 := rfl
section RDM
variable {s : Nat} {K V pl : Nat → Int} {M N n : Nat} {e p : Int} {S : yS} {b : Int32}
theorem bch18 (h : cB S M e p) {v : Nat} (hv : v ≤ 300) : ∃ S', ch18 (Int32.ofInt (v : Int)) S = some S' ∧ cB S' M e p ∧ Fr S S' := by
  obtain ⟨S1, a1, a2, a3⟩ := b_aim h (v := (v : Int)) (by omega)
  exact ⟨S1, h_bind a1 rfl, a2, a3⟩
theorem bch15 (hg : tkG K V M) (he : 1 ≤ e ∧ e ≤ 6) (ht : tkC S K V pl M) (h : cB S M e p) {v : Nat} (hv : v ≤ 300) : ∃ S', ch15 (Int32.ofInt (v : Int)) S = some S' ∧ cB S' M e p ∧ Fr S S' := by
  obtain ⟨S1, a1, a2, a3⟩ := b_expect ht hg h he (w := 17) (by omega)
  obtain ⟨S2, b1, b2, b3⟩ := bch18 a2 hv
  exact ⟨S2, h_bind a1 b1, b2, Fr_trans a3 b3⟩
theorem bch10 (hN : 2000000 ≤ N) (hg : tkG K V M) (he : 1 ≤ e ∧ e ≤ 6) (hn : 3 ≤ n) (ht : tkC S K V pl M) (h : cB S M e p) {v : Nat} (hv : v ≤ 300) : ∃ S', ch10 (rd N n) b (Int32.ofInt (v : Int)) S = some S' ∧ cB S' M e p ∧ Fr S S' := by
  obtain ⟨zz, z1, z2⟩ := h.2.2.2
  obtain ⟨S1, a1, a2, a3⟩ := b_emit h (a := Int32.ofInt 16) (b := Int32.ofInt 0)
  obtain ⟨S2, b1, b2, b3⟩ := b_aim a2 (v := (v : Int)) (by omega)
  have t2 := tkC_F (tkC_F ht a3) b3
  obtain ⟨S3, c1, c2, c3⟩ := rd_bad hN hg he n 0 0 b S2 (by decide) (by show 3 ≤ n; omega) (by omega) t2 b2
  obtain ⟨S4, d1, d2, d3⟩ := bch15 hg he (tkC_F t2 c3) c2 z1
  refine ⟨S4, ?_, d2, Fr_trans a3 (Fr_trans b3 (Fr_trans c3 d3))⟩
  unfold ch10
  rw [z2]
  exact h_bind a1 (h_bind b1 (h_bind c1 d1))
theorem bch7 (hN : 2000000 ≤ N) (hg : tkG K V M) (he : 1 ≤ e ∧ e ≤ 6) (hn : 3 ≤ n) (ht : tkC S K V pl M) (h : cB S M e p) {v : Nat} (hv : v ≤ 300) : ∃ S', ch7 (rd N n) b (Int32.ofInt (v : Int)) S = some S' ∧ cB S' M e p ∧ Fr S S' := by
  obtain ⟨S1, a1, a2, a3⟩ := b_expect ht hg h he (w := 16) (by omega)
  obtain ⟨S2, b1, b2, b3⟩ := bch10 (b := b) hN hg he hn (tkC_F ht a3) a2 hv
  exact ⟨S2, h_bind a1 b1, b2, Fr_trans a3 b3⟩
theorem bch4 (hN : 2000000 ≤ N) (hg : tkG K V M) (he : 1 ≤ e ∧ e ≤ 6) (hn : 3 ≤ n) (ht : tkC S K V pl M) (h : cB S M e p) : ∃ S', ch4 (rd N n) b S = some S' ∧ cB S' M e p ∧ Fr S S' := by
  obtain ⟨zz, z1, z2⟩ := h.2.2.2
  obtain ⟨S1, a1, a2, a3⟩ := b_emit h (a := Int32.ofInt 15) (b := Int32.ofInt 0)
  have t2 := tkC_F ht a3
  obtain ⟨S3, c1, c2, c3⟩ := rd_bad hN hg he n 0 0 b S1 (by decide) (by show 3 ≤ n; omega) (by omega) t2 a2
  obtain ⟨S4, d1, d2, d3⟩ := bch7 (b := b) hN hg he hn (tkC_F t2 c3) c2 z1
  refine ⟨S4, ?_, d2, Fr_trans a3 (Fr_trans c3 d3)⟩
  unfold ch4
  rw [z2]
  exact h_bind a1 (h_bind c1 d1)
theorem bch1 (hN : 2000000 ≤ N) (hg : tkG K V M) (he : 1 ≤ e ∧ e ≤ 6) (hn : 3 ≤ n) (ht : tkC S K V pl M) (h : cB S M e p) : ∃ S', ch1 (rd N n) b S = some S' ∧ cB S' M e p ∧ Fr S S' := by
  obtain ⟨S1, a1, a2, a3⟩ := b_expect ht hg h he (w := 15) (by omega)
  obtain ⟨S2, b1, b2, b3⟩ := bch4 (b := b) hN hg he hn (tkC_F ht a3) a2
  exact ⟨S2, h_bind a1 b1, b2, Fr_trans a3 b3⟩
theorem nN_op {x kd : Int} {P : List Int} (h1 : 40 ≤ x) (h2 : x ≠ 41) : nN (x :: P) kd := Or.inr (fun q => by
  have e : opN (x :: P) = x := if_pos h1
  have := q.1
  rw [e] at this
  exact h2 this)
theorem t_cho (hg : tkG K V M) (hN : 2000000 ≤ N) {kd : Int} (hE : clEit s K V pl M N n) (hS : clSum s K V pl M N n) : clX s K V pl M N (n + 1) 4 8 kd 41 := by
  intro b S k z P c r hb1 hb hn hk hz ht hc hG
  have hM := hg.1
  have pre : ∀ {S1 : yS} {Y : Option yS}, rd N n 5 0 (Int32.ofInt (b : Int)) S = some S1 → ch1 (rd N n) (Int32.ofInt (b : Int)) S1 = Y → rd N (n + 1) 4 (Int32.ofInt kd) (Int32.ofInt (b : Int)) S = Y := fun {S1 Y} h1 hY => by
    unfold rd
    refine h_neg (by decide) (h_neg (by decide) (h_neg (by decide) (h_neg (by decide) (h_pos rfl ?_))))
    rw [ch_eq]
    exact h_bind h1 hY
  have lt : ∀ j, j ≤ M → K j ≠ 40 → j < M := fun j hj q => by
    by_cases q2 : j < M
    · exact q2
    · have e1 : j = M := by omega
      have := hg.2.1
      rw [← e1] at this
      exact absurd this q
  obtain ⟨S1, a1, a2, a3⟩ := hE b S (k + 1) z (41 :: P) c r hb (by omega) hk (by omega) ht hc hG ⟨rfl, rfl, by show rkO 41 < 1; decide⟩
  have t1 := tkC_F ht a2
  have g1 := gC_F _ _ hG a2
  rcases a3 with a3 | a3
  · obtain ⟨e, X', b1, b2, b3, b4, b5⟩ := a3
    obtain ⟨S2, d1, d2, d3⟩ := bch1 (n := n) (b := Int32.ofInt (b : Int)) hN hg (by omega) (by omega) t1 b5
    exact ⟨S2, pre a1 d1, Fr_trans a2 d3, Or.inl ⟨e, X', b1, b2, b3, b4, d2⟩⟩
  obtain ⟨k1, z1, Z1, c1, r1, w1, b1, b2, b3, b4, b5, b6, b7, b8, b9, b10, b11, b12⟩ := a3
  have st1 : stZ 1 Z1 = (41 :: P, (b : Int), c1, r1) := by rw [b6]; exact stl_id (Or.inl (by show rkO 41 < 1; decide))
  have bt1 := btw_c b12.1.1 b11.2 b11.1 b12.1.2 b12.2
  by_cases k15 : K k1 = 15
  case neg =>
    obtain ⟨S4, d1, d2, d3⟩ := c_expN t1 hg b3 b2 (by omega) (w := 15) (by omega) k15
    obtain ⟨S5, e1, e2, e3⟩ := bch4 (n := n) (b := Int32.ofInt (b : Int)) hN hg (by omega) (by omega) (tkC_F t1 d3) d2
    refine ⟨S5, pre a1 (h_bind d1 e1), Fr_trans a2 (Fr_trans d3 e3), Or.inl ⟨1, (k1, true, Z1), by omega, b5, bh_prtF bt1 ?_ (by rw [b11.2]; decide), b2, e2⟩⟩
    rw [b11.2]
    unfold prt
    rw [if_neg (by omega), if_pos rfl, if_neg (fun q => k15 q.1)]
  have k1M := lt k1 b2 (by omega)
  have us1 : uS s K V (k1, true, Z1) = (-1, (k1 + 1, false, 42 :: P, (b : Int), c1, r1)) := by
    rw [bh_part (x := 42) bt1 (by rw [b11.2]; unfold prt; rw [if_neg (by omega), if_pos rfl, if_pos ⟨k15, b11.1⟩]) (by omega), st1]
    rfl
  have rc1 := rch_trans b5 (rch_one us1)
  have x1 := c_expY t1 hg b3 b2 k15
  obtain ⟨n1, n2, n3⟩ := c_nxt b3
  have t4 := tkC_F t1 n2
  have g4 := gC_F _ _ g1 n2
  obtain ⟨S6, m1, m2, m3, m4, m5⟩ := c_emit n1 (by omega) (a := 15) (v := 0) (by omega) (by omega)
  have t6 := tkC_F t4 m3
  have g6 := gC_F _ _ g4 m3
  obtain ⟨S7, d1, d2, d3⟩ := hS b S6 (k1 + 1) (z1 + 1) (42 :: P) c1 r1 hb (by omega) (by omega) (by omega) t6 m2 g6 ⟨by show rkO 42 < 5; decide, nN_op (by omega) (by omega)⟩
  have t7 := tkC_F t6 d2
  have g7 := gC_F _ _ g6 d2
  have F7 := Fr_trans a2 (Fr_trans n2 (Fr_trans m3 d2))
  have pre4 : ∀ {Y : Option yS}, ch7 (rd N n) (Int32.ofInt (b : Int)) (Int32.ofInt (z1 : Int)) S7 = Y → rd N (n + 1) 4 (Int32.ofInt kd) (Int32.ofInt (b : Int)) S = Y := fun {Y} hY => by
    refine pre a1 (h_bind x1 ?_)
    unfold ch4
    rw [n1.2.2]
    exact h_bind m1 (h_bind d1 hY)
  rcases d3 with d3 | d3
  · obtain ⟨e, X', f1, f2, f3, f4, f5⟩ := d3
    obtain ⟨S8, e1, e2, e3⟩ := bch7 (n := n) (b := Int32.ofInt (b : Int)) hN hg (by omega) (by omega) t7 f5 (v := z1) (by omega)
    exact ⟨S8, pre4 e1, Fr_trans F7 e3, Or.inl ⟨e, X', f1, rch_trans rc1 f2, f3, f4, e2⟩⟩
  obtain ⟨k2, z2, Z2, c2, r2, w2, f1, f2, f3, f4, f5, f6, f7, f8, f9, f10, f11, f12⟩ := d3
  have st2 : stZ 1 Z2 = (42 :: P, (b : Int), c2, r2) := by
    rw [← stZ_stZ (show (1 : Int) ≤ 5 by omega), f6, stl_stl (by omega)]
    exact stl_id (Or.inl (by show rkO 42 < 1; decide))
  have o2 : opN Z2.1 = 42 := by rw [← stZ_opN (L := 1) (by omega), st2]; rfl
  have bt2 := btw_n f12 (P := Z2.1) (by rw [o2]; decide)
  have rc2 := rch_trans rc1 f5
  by_cases k16 : K k2 = 16
  case neg =>
    obtain ⟨S8, e1, e2, e3⟩ := c_expN t7 hg f3 f2 (by omega) (w := 16) (by omega) k16
    obtain ⟨S9, i1, i2, i3⟩ := bch10 (n := n) (b := Int32.ofInt (b : Int)) hN hg (by omega) (by omega) (tkC_F t7 e3) e2 (v := z1) (by omega)
    refine ⟨S9, pre4 (h_bind e1 i1), Fr_trans F7 (Fr_trans e3 i3), Or.inl ⟨1, (k2, true, Z2), by omega, rc2, bh_prtF bt2 ?_ (by rw [o2]; decide), f2, i2⟩⟩
    rw [o2]
    unfold prt
    rw [if_neg (by omega), if_neg (by omega), if_pos rfl, if_neg k16]
  have k2M := lt k2 f2 (by omega)
  have us2 : uS s K V (k2, true, Z2) = (-1, (k2 + 1, false, 43 :: P, (b : Int), c2, r2)) := by
    rw [bh_part (x := 43) bt2 (by rw [o2]; unfold prt; rw [if_neg (by omega), if_neg (by omega), if_pos rfl, if_pos k16]) (by omega), st2]
    rfl
  have rc3 := rch_trans rc2 (rch_one us2)
  have x2 := c_expY t7 hg f3 f2 k16
  obtain ⟨l1, l2, l3⟩ := c_nxt f3
  have t10 := tkC_F t7 l2
  obtain ⟨S12, u1, u2, u3, u4, u5⟩ := c_emit l1 (by omega) (a := 16) (v := 0) (by omega) (by omega)
  have t12 := tkC_F t10 u3
  obtain ⟨S14, y1, y2, y3, y4, y5⟩ := c_aim u2 (by omega) (v := z1) (by omega)
  have t14 := tkC_F t12 y3
  have g14 := gC_F _ _ (gC_F _ _ (gC_F _ _ g7 l2) u3) y3
  obtain ⟨S15, p1, p2, p3⟩ := hS b S14 (k2 + 1) (z2 + 1) (43 :: P) c2 r2 hb (by omega) (by omega) (by omega) t14 y2 g14 ⟨by show rkO 43 < 5; decide, nN_op (by omega) (by omega)⟩
  have t15 := tkC_F t14 p2
  have F15 := Fr_trans F7 (Fr_trans l2 (Fr_trans u3 (Fr_trans y3 p2)))
  have pre10 : ∀ {Y : Option yS}, ch15 (Int32.ofInt (z2 : Int)) S15 = Y → rd N (n + 1) 4 (Int32.ofInt kd) (Int32.ofInt (b : Int)) S = Y := fun {Y} hY => by
    refine pre4 (h_bind x2 ?_)
    unfold ch10
    rw [l1.2.2]
    exact h_bind u1 (h_bind y1 (h_bind p1 hY))
  rcases p3 with p3 | p3
  · obtain ⟨e, X', v1, v2, v3, v4, v5⟩ := p3
    obtain ⟨S16, e1, e2, e3⟩ := bch15 hg (by omega) t15 v5 (v := z2) (by omega)
    exact ⟨S16, pre10 e1, Fr_trans F15 e3, Or.inl ⟨e, X', v1, rch_trans rc3 v2, v3, v4, e2⟩⟩
  obtain ⟨k3, z3, Z3, c3, r3, w3, v1, v2, v3, v4, v5, v6, v7, v8, v9, v10, v11, v12⟩ := p3
  have st3 : stZ 1 Z3 = (43 :: P, (b : Int), c3, r3) := by
    rw [← stZ_stZ (show (1 : Int) ≤ 5 by omega), v6, stl_stl (by omega)]
    exact stl_id (Or.inl (by show rkO 43 < 1; decide))
  have o3 : opN Z3.1 = 43 := by rw [← stZ_opN (L := 1) (by omega), st3]; rfl
  have bt3 := btw_n v12 (P := Z3.1) (by rw [o3]; decide)
  have rc4 := rch_trans rc3 v5
  by_cases k17 : K k3 = 17
  case neg =>
    obtain ⟨S16, e1, e2, e3⟩ := c_expN t15 hg v3 v2 (by omega) (w := 17) (by omega) k17
    obtain ⟨S17, i1, i2, i3⟩ := bch18 e2 (v := z2) (by omega)
    refine ⟨S17, pre10 (h_bind e1 i1), Fr_trans F15 (Fr_trans e3 i3), Or.inl ⟨1, (k3, true, Z3), by omega, rc4, bh_prtF bt3 ?_ (by rw [o3]; decide), v2, i2⟩⟩
    rw [o3]
    unfold prt
    rw [if_neg (by omega), if_neg (by omega), if_neg (by omega), if_pos rfl, if_neg k17]
  have k3M := lt k3 v2 (by omega)
  have us3 : uS s K V (k3, true, Z3) = (-1, (k3 + 1, true, stl 7 P ((b : Int) - 1) (cU c3 r3 (3, 0)) (r3 + 1))) := by
    rw [bh_close3 bt3 (by rw [o3]; unfold prt; rw [if_neg (by omega), if_neg (by omega), if_neg (by omega), if_pos rfl, if_pos k17]) o3, st3]
    rfl
  have x3 := c_expY t15 hg v3 v2 k17
  obtain ⟨h1, h2, h3⟩ := c_nxt v3
  obtain ⟨S20, q1, q2, q3, q4, q5⟩ := c_aim h1 (by omega) (v := z2) (by omega)
  have zz1 := b9.1
  have zz2 := f9.1
  have zz3 := v9.1
  have rr1 := b10.1.1
  have rr2 := f10.1
  have rr3 := v10.1
  have cA : ∀ j, j ≠ z1 → j ≠ z2 → j < z2 + 1 → cdX S20 j = cdX S7 j := fun j e1 e2 e3 => by
    rw [q5 j e2]
    show cdX S15 j = _
    rw [v7 j e3, y5 j e1, u5 j e2]
    rfl
  have cB1 : cdX S20 z1 = (15, ((z2 + 1 : Nat) : Int)) := by
    rw [q5 z1 (by omega)]
    show cdX S15 z1 = _
    rw [v7 z1 (by omega), y4, u5 z1 (by omega)]
    show ((cdX S7 z1).1, _) = _
    rw [f7 z1 (by omega), m4]
  have cB2 : cdX S20 z2 = (16, (z3 : Int)) := by
    rw [q4]
    show ((cdX S15 z2).1, _) = _
    rw [v7 z2 (by omega), y5 z2 (by omega), u4]
  have cC : ∀ j, z2 < j → cdX S20 j = cdX S15 j := fun j e1 => q5 j (by omega)
  have cD : ∀ j, j < z1 → cdX S20 j = cdX S1 j := fun j e1 => by
    rw [cA j (by omega) (by omega) (by omega), f7 j (by omega), m5 j (by omega)]
    rfl
  refine ⟨S20, pre10 (h_bind x3 (h_bind q1 rfl)), Fr_trans F15 (Fr_trans h2 q3), Or.inr ⟨k3 + 1, z3, stl 7 P ((b : Int) - 1) (cU c3 r3 (3, 0)) (r3 + 1), cU c3 r3 (3, 0), r3 + 1, fun E => if w1 E = 0 then w3 E else w2 E, by omega, by omega, q2, by omega, rch_trans rc4 (rch_one us3), stl_stl (Int.le_refl _) _ _ _ _, fun j hj => by rw [cD j (by omega)]; exact b7 j hj, fun j hj => by rw [cU_ne (by omega), v8 j (by omega), f8 j (by omega)]; exact b8 j hj, ?_, ?_, trivial, trivial⟩⟩
  · exact frC_if (frC_congr b9 (fun q _ e2 => cD q e2)) cB1 (frC_congr f9 (fun q e1 e2 => cA q (by omega) (by omega) (by omega))) cB2 (frC_congr v9 (fun q e1 _ => cC q (by omega)))
  · exact frV_if (frT_congr b10.1 (fun q _ e2 => by rw [cU_ne (by omega), v8 q (by omega), f8 q (by omega)])) (frV_congr f10 (fun q _ e2 => by rw [cU_ne (by omega), v8 q (by omega)])) (frV_congr v10 (fun q _ e2 => cU_ne (by omega))) (by rw [cU_at])
theorem t_opn (hg : tkG K V M) (hN : 2000000 ≤ N) (hS : clSum s K V pl M N n) (hO : clOne s K V pl M N n) (hC : clX s K V pl M N n 4 8 0 41) {kd : Int} (hk0 : opk kd) : clX s K V pl M N (n + 1) 3 9 kd (opx kd) := by
  intro b S k z P c r hb1 hb hn hk hz ht hc hG
  have hM := hg.1
  have pre : ∀ {Y : Option yS}, fX5_readOpened N (rd N n) (Int32.ofInt kd) (Int32.ofInt (b : Int)) S = Y → rd N (n + 1) 3 (Int32.ofInt kd) (Int32.ofInt (b : Int)) S = Y := fun {Y} hY => by
    unfold rd
    exact h_neg (by decide) (h_neg (by decide) (h_neg (by decide) (h_pos rfl hY)))
  unfold opk at hk0
  by_cases a33 : kd = 33
  · rw [a33] at pre ⊢
    obtain ⟨S1, a1, a2, a3⟩ := hS b S (k + 1) z (40 :: P) c r hb (by omega) hk (by omega) ht hc hG ⟨by show rkO 40 < 5; decide, nN_op (by omega) (by omega)⟩
    have t1 := tkC_F ht a2
    have go : ∀ {S2 : yS}, fX5_expect (Int32.ofInt 34) S1 = some S2 → rd N (n + 1) 3 (Int32.ofInt 33) (Int32.ofInt (b : Int)) S = some S2 := fun {S2} he => pre (by
      unfold fX5_readOpened
      exact h_neg (by decide) (h_bind a1 (h_bind he rfl)))
    rcases a3 with a3 | a3
    · obtain ⟨e, X', b1, b2, b3, b4, b5⟩ := a3
      obtain ⟨S2, d1, d2, d3⟩ := b_expect t1 hg b5 (by omega) (w := 34) (by omega)
      exact ⟨S2, go d1, Fr_trans a2 d3, Or.inl ⟨e, X', b1, b2, b3, b4, d2⟩⟩
    · obtain ⟨k1, z1, Z1, c1, r1, w1, b1, b2, b3, b4, b5, b6, b7, b8, b9, b10, b11, b12⟩ := a3
      have st1 : stZ 1 Z1 = (40 :: P, (b : Int), c1, r1) := by
        rw [← stZ_stZ (show (1 : Int) ≤ 5 by omega), b6, stl_stl (by omega)]
        exact stl_id (Or.inl (by show rkO 40 < 1; decide))
      have o1 : opN Z1.1 = 40 := by rw [← stZ_opN (L := 1) (by omega), st1]; rfl
      have bt1 := btw_n b12 (P := Z1.1) (by rw [o1]; decide)
      by_cases k34 : K k1 = 34
      · have hkM : k1 < M := by
          by_cases q : k1 < M
          · exact q
          · have e1 : k1 = M := by omega
            have := hg.2.1
            rw [e1] at k34
            omega
        have us : uS s K V (k1, true, Z1) = (-1, (k1 + 1, true, stl 7 P ((b : Int) - 1) c1 r1)) := by
          rw [bh_close bt1 (by rw [o1]; unfold prt; rw [if_pos rfl, if_pos k34]) (by rw [o1]; decide), st1]
          rfl
        obtain ⟨n1, n2, n3⟩ := c_nxt b3
        exact ⟨_, go (c_expY t1 hg b3 b2 k34), Fr_trans a2 n2, Or.inr ⟨k1 + 1, z1, stl 7 P ((b : Int) - 1) c1 r1, c1, r1, w1, by omega, by omega, n1, by omega, rch_trans b5 (rch_one us), stl_stl (Int.le_refl _) _ _ _ _, b7, b8, b9, b10, trivial, trivial⟩⟩
      · obtain ⟨S2, d1, d2, d3⟩ := c_expN t1 hg b3 b2 (by omega) (w := 34) (by omega) k34
        refine ⟨S2, go d1, Fr_trans a2 d3, Or.inl ⟨1, (k1, true, Z1), by omega, b5, bh_prtF bt1 ?_ (by rw [o1]; decide), b2, d2⟩⟩
        rw [o1]
        unfold prt
        rw [if_pos rfl, if_neg k34]
  · by_cases a14 : kd = 14
    · rw [a14] at pre ⊢
      obtain ⟨S1, a1, a2⟩ := hC b S k z P c r hb1 hb (by omega) hk hz ht hc hG
      refine ⟨S1, pre ?_, a2⟩
      unfold fX5_readOpened
      exact h_pos (by decide) (h_neg (by decide) (h_bind a1 rfl))
    · obtain ⟨op, x, hx, hop, h1, h2, h3⟩ : ∃ op x : Int, opx kd = x ∧ (∀ S1 S2, rd N n 2 0 (Int32.ofInt (b : Int)) S = some S1 → fX5_emit (Int32.ofInt op) (Int32.ofInt 0) S1 = some S2 → fX5_readOpened N (rd N n) (Int32.ofInt kd) (Int32.ofInt (b : Int)) S = some S2) ∧ (op = 9 ∨ op = 10 ∨ op = 41) ∧ (x = 2 ∨ x = 4 ∨ x = 5) ∧ oneO x = op := by
        have : kd = 30 ∨ kd = 9 ∨ kd = 10 := by omega
        rcases this with rfl | rfl | rfl
        · refine ⟨41, 5, rfl, fun S1 S2 u v => ?_, by omega, by omega, rfl⟩
          unfold fX5_readOpened
          exact h_pos (by decide) (h_pos (by decide) (h_bind u (h_neg (by decide) (h_bind v rfl))))
        · refine ⟨9, 2, rfl, fun S1 S2 u v => ?_, by omega, by omega, rfl⟩
          unfold fX5_readOpened
          exact h_pos (by decide) (h_pos (by decide) (h_bind u (h_pos (by decide) (h_bind v rfl))))
        · refine ⟨10, 4, rfl, fun S1 S2 u v => ?_, by omega, by omega, rfl⟩
          unfold fX5_readOpened
          exact h_pos (by decide) (h_pos (by decide) (h_bind u (h_pos (by decide) (h_bind v rfl))))
      have rk : rkO x = 7 := by rcases h2 with rfl | rfl | rfl <;> rfl
      rw [hx]
      obtain ⟨S1, a1, a2, a3⟩ := hO b S (k + 1) z (x :: P) c r hb (by omega) hk (by omega) ht hc hG (nN_cons (by omega) (by omega))
      rcases a3 with a3 | a3
      · obtain ⟨e, X', b1, b2, b3, b4, b5⟩ := a3
        obtain ⟨S2, d1, d2, d3⟩ := b_emit b5 (a := Int32.ofInt op) (b := Int32.ofInt 0)
        exact ⟨S2, pre (hop S1 S2 a1 d1), Fr_trans a2 d3, Or.inl ⟨e, X', b1, b2, b3, b4, d2⟩⟩
      · obtain ⟨k1, z1, Z1, c1, r1, w1, b1, b2, b3, b4, b5, b6, b7, b8, b9, b10, b11, b12⟩ := a3
        have q1 := b9.1
        have q2 := b10.1
        obtain ⟨S2, e1, e2, e3, e4, e5⟩ := c_emit b3 (by omega) (a := op) (v := 0) (by omega) (by omega)
        refine ⟨S2, pre (hop S1 S2 a1 e1), Fr_trans a2 e3, Or.inr ⟨k1, z1 + 1, Z1, cU c1 r1 (x, 0), r1 + 1, fun E => one1 op E (w1 E), by omega, b2, e2, by omega, b5, ?_, fun j hj => by rw [e5 j (by omega), b7 j hj], fun j hj => by rw [cU_ne (by omega), b8 j hj], frC_one (frC_congr b9 (fun q _ h2 => e5 q (by omega))) (by rw [e4]) h1, ?_, trivial, trivial⟩⟩
        · rw [b6, stl_pop (by omega), if_pos (Or.inl rk)]
        · have := frV_one (frV_congr b10 (cd' := cU c1 r1 (x, 0)) (fun q _ h2 => cU_ne (by omega))) (op := x) (by rw [cU_at]) h2
          rw [h3] at this
          exact this
theorem rd_all (hg : tkG K V M) (hN : 2000000 ≤ N) (hs : s ≤ 1) : ∀ n, clSum s K V pl M N n ∧ clPro s K V pl M N n ∧ clOne s K V pl M N n ∧ (∀ kd, opk kd → clX s K V pl M N n 3 9 kd (opx kd)) ∧ (clX s K V pl M N n 4 8 0 41) ∧ clEit s K V pl M N n ∧ clBot s K V pl M N n ∧ clAsk s K V pl M N n ∧ clCmp s K V pl M N n := by
  intro n
  induction n with
  | zero =>
    refine ⟨?_, ?_, ?_, ?_, ?_, ?_, ?_, ?_, ?_⟩
    · intro b S k z P c r hb hn; omega
    · intro b S k z P c r hb hn; omega
    · intro b S k z P c r hb hn; omega
    · intro kd _ b S k z P c r hb1 hb hn; omega
    · intro b S k z P c r hb1 hb hn; omega
    · intro b S k z P c r hb hn; omega
    · intro b S k z P c r hb hn; omega
    · intro b S k z P c r hb hn; omega
    · intro b S k z P c r hb hn; omega
  | succ n ih =>
    obtain ⟨h1, h2, h3, h4, h5, h6, h7, h8, h9⟩ := ih
    exact ⟨t_sum hg hN h2, t_pro hg hN h3, t_one hg hN hs h4, fun kd hk => t_opn hg hN h1 h3 h5 hk, t_cho hg hN h6 h1, t_eit hg hN h7, t_bot hg hN h8, t_ask hg hN h8 h9, t_cmp hg hN h1⟩
end RDM
