/-! ===== the reference's loop is the machine: behind one; the run ===== -/
section SIM
variable {S S' : yS} {f : Nat → Int} {n N t s : Nat} {z : uZ} {X : uX} {kd vl : Int}
theorem q_cmp (td : tD S kd vl) : fX12_compareOf S = some (Int32.ofInt (cmK kd)) := by
  have p25 : (S.1 265 9 = Int32.ofInt 60) = (kd = 25) := tD_s td (k := 25) (by omega)
  have p36 : (S.1 265 9 = Int32.ofInt 4) = (kd = 36) := tD_s td (k := 36) (by omega)
  have p26 : (S.1 265 9 = Int32.ofInt 62) = (kd = 26) := tD_s td (k := 26) (by omega)
  have p37 : (S.1 265 9 = Int32.ofInt 5) = (kd = 37) := tD_s td (k := 37) (by omega)
  have p27 : (S.1 265 9 = Int32.ofInt 61) = (kd = 27) := tD_s td (k := 27) (by omega)
  have p28 : (S.1 265 9 = Int32.ofInt 35) = (kd = 28) := tD_s td (k := 28) (by omega)
  unfold fX12_compareOf
  by_cases k25 : kd = 25
  · rw [k25]
    exact h_neg (fun q => q (p25.mpr k25)) rfl
  refine h_pos (fun q => k25 (p25.mp q)) ?_
  by_cases k36 : kd = 36
  · rw [k36]
    exact h_neg (fun q => q (p36.mpr k36)) rfl
  refine h_pos (fun q => k36 (p36.mp q)) ?_
  by_cases k26 : kd = 26
  · rw [k26]
    exact h_neg (fun q => q (p26.mpr k26)) rfl
  refine h_pos (fun q => k26 (p26.mp q)) ?_
  by_cases k37 : kd = 37
  · rw [k37]
    exact h_neg (fun q => q (p37.mpr k37)) rfl
  refine h_pos (fun q => k37 (p37.mp q)) ?_
  by_cases k27 : kd = 27
  · rw [k27]
    exact h_neg (fun q => q (p27.mpr k27)) rfl
  refine h_pos (fun q => k27 (p27.mp q)) ?_
  have e : cmK kd = if kd = 28 then 15 else -1 := by
    unfold cmK
    rw [if_neg k25, if_neg k36, if_neg k26, if_neg k37, if_neg k27]
  rw [e]
  by_cases k28 : kd = 28
  · rw [if_pos k28]
    exact h_neg (fun q => q (p28.mpr k28)) rfl
  · rw [if_neg k28]
    exact h_pos (fun q => k28 (p28.mp q)) rfl
theorem q_btw (hN : 2000000 ≤ N) (td : tD S kd vl) (h : rZ S t z) (hp : z.1.length < 160) (he : elG z.1) : fX12_betweenOf N S = some (Int32.ofInt (btw kd z.1)) := by
  have p29 : (S.1 265 9 = Int32.ofInt 43) = (kd = 29) := tD_s td (k := 29) (by omega)
  have p30 : (S.1 265 9 = Int32.ofInt 45) = (kd = 30) := tD_s td (k := 30) (by omega)
  have p31 : (S.1 265 9 = Int32.ofInt 42) = (kd = 31) := tD_s td (k := 31) (by omega)
  have p32 : (S.1 265 9 = Int32.ofInt 47) = (kd = 32) := tD_s td (k := 32) (by omega)
  have qo := q_openN hN h hp he
  have qc := q_isC hN h hp he
  have qa := q_isW td (w := 12) (by omega)
  have qr := q_isW td (w := 13) (by omega)
  have hop : -1 ≤ opN z.1 ∧ opN z.1 ≤ 43 := by
    obtain ⟨i, -, g2⟩ := q_openA hN h hp he
    rcases g2 with ⟨a, b⟩ | ⟨k, k1, k2, k3, k4, k5⟩
    · omega
    · omega
  unfold fX12_betweenOf
  rw [w_and, w_or]
  by_cases k29 : kd = 29
  · rw [show btw kd z.1 = 6 from if_pos k29]
    exact h_neg (fun q => q (p29.mpr k29)) rfl
  refine h_pos (fun q => k29 (p29.mp q)) ?_
  by_cases k30 : kd = 30
  · have e : btw kd z.1 = 7 := by unfold btw; rw [if_neg k29, if_pos k30]
    rw [e]
    exact h_neg (fun q => q (p30.mpr k30)) rfl
  refine h_pos (fun q => k30 (p30.mp q)) ?_
  by_cases k31 : kd = 31
  · have e : btw kd z.1 = 8 := by unfold btw; rw [if_neg k29, if_neg k30, if_pos k31]
    rw [e]
    exact h_neg (fun q => q (p31.mpr k31)) rfl
  refine h_pos (fun q => k31 (p31.mp q)) ?_
  by_cases k32 : kd = 32
  · have e : btw kd z.1 = 9 := by unfold btw; rw [if_neg k29, if_neg k30, if_neg k31, if_pos k32]
    rw [e]
    exact h_neg (fun q => q (p32.mpr k32)) rfl
  refine h_pos (fun q => k32 (p32.mp q)) (h_bind qo ?_)
  have e : btw kd z.1 = if opN z.1 = 41 then (if isC z.1 = true then (if kd = 12 then 21 else if kd = 13 then 22 else -1) else cmK kd) else -1 := by
    unfold btw
    rw [if_neg k29, if_neg k30, if_neg k31, if_neg k32]
  rw [e]
  by_cases o41 : opN z.1 = 41
  · rw [if_pos o41]
    refine h_pos (by first | omega | ((simp (disch := omega) only [i0, i1, i_lt, i_le, i_eq, i_add, i_sub, i_mul, i_neg, i_ofNat, i_rem, i_div, w_in, w_in2, w_cnt, w_cnt2, z01, z01', il, li, lc_ge, lc_le, lc_gt, lc_lt, lc_eq, l_ofNat, l0, l_eq, l_lt, l_le]) <;> omega)) (h_bind qc ?_)
    cases ic : isC z.1 with
    | true =>
      rw [if_pos (show true = true from rfl), if_pos (show true = true from rfl)]
      refine h_pos (by decide) (h_bind qa ?_)
      by_cases k12 : kd = 12
      · rw [if_pos (show kd = ((12 : Nat) : Int) from k12), if_pos k12]
        exact h_neg (by decide) rfl
      · rw [if_neg (show ¬ kd = ((12 : Nat) : Int) from k12), if_neg k12]
        refine h_pos (by decide) (h_bind qr ?_)
        by_cases k13 : kd = 13
        · rw [if_pos (show kd = ((13 : Nat) : Int) from k13), if_pos k13]
          exact h_neg (by decide) rfl
        · rw [if_neg (show ¬ kd = ((13 : Nat) : Int) from k13), if_neg k13]
          exact h_pos (by decide) rfl
    | false =>
      rw [if_neg (show ¬ false = true by decide), if_neg (show ¬ false = true by decide)]
      exact h_neg (by decide) (h_bind (q_cmp td) rfl)
  · rw [if_neg o41]
    exact h_neg (by first | omega | ((simp (disch := omega) only [i0, i1, i_lt, i_le, i_eq, i_add, i_sub, i_mul, i_neg, i_ofNat, i_rem, i_div, w_in, w_in2, w_cnt, w_cnt2, z01, z01', il, li, lc_ge, lc_le, lc_gt, lc_lt, lc_eq, l_ofNat, l0, l_eq, l_lt, l_le]) <;> omega)) rfl
theorem q_prt (hN : 2000000 ≤ N) (td : tD S kd vl) (h : rZ S t z) (hp : z.1.length < 160) (he : elG z.1) {op : Int} (hop : -1 ≤ op ∧ op ≤ 43) : fX12_partOf N (Int32.ofInt op) S = some (Int32.ofInt (prt op kd z.1)) := by
  have p34 : (S.1 265 9 = Int32.ofInt 41) = (kd = 34) := tD_s td (k := 34) (by omega)
  have qc := q_isC hN h hp he
  have qt := q_isW td (w := 15) (by omega)
  have qe := q_isW td (w := 16) (by omega)
  have qd := q_isW td (w := 17) (by omega)
  unfold fX12_partOf prt
  rw [w_then, w_else, w_end]
  by_cases o40 : op = 40
  · rw [if_pos o40]
    refine h_pos (by first | omega | ((simp (disch := omega) only [i0, i1, i_lt, i_le, i_eq, i_add, i_sub, i_mul, i_neg, i_ofNat, i_rem, i_div, w_in, w_in2, w_cnt, w_cnt2, z01, z01', il, li, lc_ge, lc_le, lc_gt, lc_lt, lc_eq, l_ofNat, l0, l_eq, l_lt, l_le]) <;> omega)) ?_
    by_cases k : kd = 34
    · rw [if_pos k]
      exact h_neg (fun q => q (p34.mpr k)) rfl
    · rw [if_neg k]
      exact h_pos (fun q => k (p34.mp q)) rfl
  · rw [if_neg o40]
    refine h_neg (by first | omega | ((simp (disch := omega) only [i0, i1, i_lt, i_le, i_eq, i_add, i_sub, i_mul, i_neg, i_ofNat, i_rem, i_div, w_in, w_in2, w_cnt, w_cnt2, z01, z01', il, li, lc_ge, lc_le, lc_gt, lc_lt, lc_eq, l_ofNat, l0, l_eq, l_lt, l_le]) <;> omega)) ?_
    by_cases o41 : op = 41
    · rw [if_pos o41]
      refine h_pos (by first | omega | ((simp (disch := omega) only [i0, i1, i_lt, i_le, i_eq, i_add, i_sub, i_mul, i_neg, i_ofNat, i_rem, i_div, w_in, w_in2, w_cnt, w_cnt2, z01, z01', il, li, lc_ge, lc_le, lc_gt, lc_lt, lc_eq, l_ofNat, l0, l_eq, l_lt, l_le]) <;> omega)) (h_bind qt ?_)
      by_cases k : kd = 15
      · rw [if_pos (show kd = ((15 : Nat) : Int) from k)]
        refine h_neg (by decide) (h_bind qc ?_)
        cases ic : isC z.1 with
        | true =>
          rw [if_pos (show true = true from rfl), if_pos (show kd = 15 ∧ true = true from ⟨k, rfl⟩)]
          exact h_neg (by decide) rfl
        | false =>
          rw [if_neg (show ¬ false = true by decide), if_neg (show ¬ (kd = 15 ∧ false = true) from fun q => by cases q.2)]
          exact h_pos (by decide) rfl
      · rw [if_neg (show ¬ kd = ((15 : Nat) : Int) from k), if_neg (show ¬ (kd = 15 ∧ isC z.1 = true) from fun q => k q.1)]
        exact h_pos (by decide) rfl
    · rw [if_neg o41]
      refine h_neg (by first | omega | ((simp (disch := omega) only [i0, i1, i_lt, i_le, i_eq, i_add, i_sub, i_mul, i_neg, i_ofNat, i_rem, i_div, w_in, w_in2, w_cnt, w_cnt2, z01, z01', il, li, lc_ge, lc_le, lc_gt, lc_lt, lc_eq, l_ofNat, l0, l_eq, l_lt, l_le]) <;> omega)) ?_
      by_cases o42 : op = 42
      · rw [if_pos o42]
        refine h_pos (by first | omega | ((simp (disch := omega) only [i0, i1, i_lt, i_le, i_eq, i_add, i_sub, i_mul, i_neg, i_ofNat, i_rem, i_div, w_in, w_in2, w_cnt, w_cnt2, z01, z01', il, li, lc_ge, lc_le, lc_gt, lc_lt, lc_eq, l_ofNat, l0, l_eq, l_lt, l_le]) <;> omega)) (h_bind qe ?_)
        by_cases k : kd = 16
        · rw [if_pos (show kd = ((16 : Nat) : Int) from k), if_pos k]
          exact h_neg (by decide) rfl
        · rw [if_neg (show ¬ kd = ((16 : Nat) : Int) from k), if_neg k]
          exact h_pos (by decide) rfl
      · rw [if_neg o42]
        refine h_neg (by first | omega | ((simp (disch := omega) only [i0, i1, i_lt, i_le, i_eq, i_add, i_sub, i_mul, i_neg, i_ofNat, i_rem, i_div, w_in, w_in2, w_cnt, w_cnt2, z01, z01', il, li, lc_ge, lc_le, lc_gt, lc_lt, lc_eq, l_ofNat, l0, l_eq, l_lt, l_le]) <;> omega)) ?_
        by_cases o43 : op = 43
        · rw [if_pos o43]
          refine h_pos (by first | omega | ((simp (disch := omega) only [i0, i1, i_lt, i_le, i_eq, i_add, i_sub, i_mul, i_neg, i_ofNat, i_rem, i_div, w_in, w_in2, w_cnt, w_cnt2, z01, z01', il, li, lc_ge, lc_le, lc_gt, lc_lt, lc_eq, l_ofNat, l0, l_eq, l_lt, l_le]) <;> omega)) (h_bind qd ?_)
          by_cases k : kd = 17
          · rw [if_pos (show kd = ((17 : Nat) : Int) from k), if_pos k]
            exact h_neg (by decide) rfl
          · rw [if_neg (show ¬ kd = ((17 : Nat) : Int) from k), if_neg k]
            exact h_pos (by decide) rfl
        · rw [if_neg o43]
          exact h_neg (by first | omega | ((simp (disch := omega) only [i0, i1, i_lt, i_le, i_eq, i_add, i_sub, i_mul, i_neg, i_ofNat, i_rem, i_div, w_in, w_in2, w_cnt, w_cnt2, z01, z01', il, li, lc_ge, lc_le, lc_gt, lc_lt, lc_eq, l_ofNat, l0, l_eq, l_lt, l_le]) <;> omega)) rfl
/-- push what stands between, go on -/
theorem q_push (hN : 2000000 ≤ N) (h1 : rtG S f n) (h2 : atT S f n X.1) (h3 : rZ S t z) (h5 : S.1 265 14 = Int32.ofInt (s : Int)) (hk : psT f n X.1 < n) (hp : z.1.length < 150) {b : Int} : ∃ S', ((ain 160 (S.1 265 16)).bind fun j31 => pSt (ySa S 270 (upd (S.2.2.1 270) j31 (Int32.ofInt b))) fun S26 => pSt (ySi S26 265 16 ((S26.1 265 16) + (Int32.ofInt 1))) fun S27 => pSt (ySi S27 265 18 (Int32.ofInt 0)) fun S28 => (fX12_nextToken N S28).bind fun S30 => some ((Int32.ofInt 1), S30)) = some (Int32.ofInt 1, S') ∧ rS S' f n t s (X.1 + 1, false, pshZ b z) ∧ Fu t z.2.2.2 S S' := by
  obtain ⟨z1, z2, z3, z4, z5, z6⟩ := h3
  have F1 : Fu t z.2.2.2 S (ySi (ySi (ySa S 270 (upd (S.2.2.1 270) z.1.length (Int32.ofInt b))) 265 16 (Int32.ofInt ((z.1.length + 1 : Nat) : Int))) 265 18 (Int32.ofInt 0)) := Fu_trans (Fu_a (r := z.2.2.2)) (Fu_trans (Fu_i (r := z.2.2.2) (by omega)) (Fu_i (r := z.2.2.2) (by omega)) (Nat.le_refl _)) (Nat.le_refl _)
  have g1 : rtG (ySi (ySi (ySa S 270 (upd (S.2.2.1 270) z.1.length (Int32.ofInt b))) 265 16 (Int32.ofInt ((z.1.length + 1 : Nat) : Int))) 265 18 (Int32.ofInt 0)) f n := ⟨h1.1, by rw [F1.2.1 4 (by omega) (by omega) (by omega)]; exact h1.2.1, fun k hk => by rw [F1.2.2.1 269 (by omega) (by omega)]; exact h1.2.2.1 k hk, h1.2.2.2⟩
  have t1 : atT (ySi (ySi (ySa S 270 (upd (S.2.2.1 270) z.1.length (Int32.ofInt b))) 265 16 (Int32.ofInt ((z.1.length + 1 : Nat) : Int))) 265 18 (Int32.ofInt 0)) f n X.1 := by
    refine atT_s h2 ?_ ?_ ?_ ?_ rfl
    all_goals (rw [fld_ne (by omega), fld_ne (by omega)]; rfl)
  have zz : rZ (ySi (ySi (ySa S 270 (upd (S.2.2.1 270) z.1.length (Int32.ofInt b))) 265 16 (Int32.ofInt ((z.1.length + 1 : Nat) : Int))) 265 18 (Int32.ofInt 0)) t (pshZ b z) := by
    refine ⟨?_, ?_, ?_, ?_, ?_, fun j hj => ?_⟩
    · rw [fld_ne (by omega), fld_ne (by omega)]; exact z1
    · rw [fld_ne (by omega), fld_at]; rfl
    · rw [ySi_2, ySi_2, ySa_at]
      exact ⟨upd_at, plG_upd z3 (Nat.le_refl _)⟩
    · rw [fld_ne (by omega), fld_ne (by omega)]; exact z4
    · rw [fld_ne (by omega), fld_ne (by omega)]; exact z5
    · rw [show (pshZ b z).2.2.1 j = z.2.2.1 j from rfl, ← z6 j hj]
      unfold cdR rv
      rw [ySi_2, ySi_2, ySa_ne _ _ (by omega)]
  obtain ⟨S2, b1, b2, b3⟩ := q_nextT hN g1 hk t1
  refine ⟨S2, ?_, ⟨rtG_k g1 b2, b3, rZ_k zz b2, ?_, ?_⟩, Fu_trans F1 (Fu_k b2) (Nat.le_refl _)⟩
  · rw [z2]
    refine h_ainN (by omega) (by omega) (h_pst (h_pst (h_pst ?_)))
    rw [ySa_1, z2, i_add, show (z.1.length : Int) + 1 = ((z.1.length + 1 : Nat) : Int) by omega]
    exact h_bind b1 rfl
  · rw [b2.2.1 18 (by omega), fld_at]; rfl
  · rw [b2.2.1 14 (by omega), fld_ne (by omega), fld_ne (by omega)]; exact h5
theorem plG_top {g : Nat → Int32} {x y : Int} {P : List Int} (h : plG g (x :: P)) : plG (upd g P.length (Int32.ofInt y)) (y :: P) := ⟨upd_at, plG_upd h.2 (Nat.le_refl _)⟩
theorem q_bhd (hN : 2000000 ≤ N) (ht : t < 4) (h : rS S f n t s X) (hi : inv X) (hx : X.1 ≤ 300) (hw : X.2.1 = true) : ((bhd (kdT f n X.1) X).1 = -1 ∧ ∃ S', fX12_behindOne N S = some (Int32.ofInt 1, S') ∧ rS S' f n t s (bhd (kdT f n X.1) X).2 ∧ Fu t X.2.2.2.2.2 S S') ∨ ((bhd (kdT f n X.1) X).1 ≠ -1 ∧ fX12_behindOne N S = some (Int32.ofInt 0, S)) := by
  obtain ⟨h1, h2, h3, h4, h5⟩ := id h
  have td := atT_D h2
  have kr := kdT_rng (f := f) (n := n) X.1
  have hl := inv_len hi
  obtain ⟨i1, i2, i3, i4⟩ := id hi
  have hoc := ocn_nn X.2.2.1
  have he := okp_el i1
  have qb := q_btw hN td h3 (by omega) he
  have qo := q_openN hN h3 (by omega) he
  have hop : -1 ≤ opN X.2.2.1 ∧ opN X.2.2.1 ≤ 43 := by
    obtain ⟨i, -, g2⟩ := q_openA hN h3 (by omega) he
    rcases g2 with ⟨a, b⟩ | ⟨k, k1, k2, k3, k4, k5⟩
    · omega
    · omega
  have qp := q_prt hN td h3 (by omega) he hop
  generalize hkd : kdT f n X.1 = kd at *
  generalize hvl : vlT f n X.1 = vl at *
  have pk : kd ≠ 40 → psT f n X.1 < n := fun q => by
    by_cases z : psT f n X.1 < n
    · exact z
    · exact absurd (kr.2.2.1.mpr z) q
  have st : ∀ L : Int, 1 ≤ L ∧ L ≤ 7 → ∃ S', fX12_settle N (Int32.ofInt L) S = some S' ∧ rZ S' t (stZ L X.2.2) ∧ Fs t X.2.2.2.2.2 S S' := fun L hL => q_settle hN ht hL h3 he (by omega) (by omega) (by omega)
  have sl : ∀ L : Int, 1 ≤ L → (stZ L X.2.2).1.length ≤ X.2.2.1.length ∧ X.2.2.2.2.2 ≤ (stZ L X.2.2).2.2.2 := fun L hL => by
    obtain ⟨-, -, -, d, d2⟩ := stl_inv (L := L) X.2.2.1 X.2.2.2.1 X.2.2.2.2.1 X.2.2.2.2.2 hL i1 i2
    have d : (stZ L X.2.2).2.2.2 + (stZ L X.2.2).1.length = X.2.2.2.2.2 + X.2.2.1.length := d
    have d2 : (stZ L X.2.2).1.length ≤ X.2.2.1.length := d2
    omega
  unfold bhd
  by_cases b0 : 0 ≤ btw kd X.2.2.1
  · rw [if_pos b0]
    left
    refine ⟨rfl, ?_⟩
    obtain ⟨r1, r2, r3, r4, r5⟩ := btw_rng b0
    have kne : kd ≠ 40 := fun q => by
      rw [q] at b0
      unfold btw cmK at b0
      rw [if_neg (by omega), if_neg (by omega), if_neg (by omega), if_neg (by omega)] at b0
      split at b0
      · split at b0
        · rw [if_neg (by omega), if_neg (by omega)] at b0; omega
        · rw [if_neg (by omega), if_neg (by omega), if_neg (by omega), if_neg (by omega), if_neg (by omega), if_neg (by omega)] at b0; omega
      · omega
    generalize hb : btw kd X.2.2.1 = b at *
    have rb := rkO_rng b
    have rkb := q_rank (x := b) (by omega)
    have rk1 : 1 ≤ rkO b := by
      unfold rkO
      repeat' split
      all_goals omega
    by_cases c4 : rkO b = 4
    · rw [if_pos c4]
      obtain ⟨S1, a1, a2, a3⟩ := st 5 (by omega)
      obtain ⟨S2, g1, g2, g3⟩ := q_push (X := X) hN (rtG_f h1 a3) (atT_f h2 a3) a2 (by rw [a3.2.1 14 (by omega) (by omega) (by omega)]; exact h5) (pk kne) (by have := (sl 5 (by omega)).1; omega) (b := b)
      refine ⟨S2, ?_, g2, Fu_trans (Fu_s a3) g3 (sl 5 (by omega)).2⟩
      unfold fX12_behindOne
      refine h_bind qb (h_neg (by first | omega | ((simp (disch := omega) only [i0, i1, i_lt, i_le, i_eq, i_add, i_sub, i_mul, i_neg, i_ofNat, i_rem, i_div, w_in, w_in2, w_cnt, w_cnt2, z01, z01', il, li, lc_ge, lc_le, lc_gt, lc_lt, lc_eq, l_ofNat, l0, l_eq, l_lt, l_le]) <;> omega)) ?_)
      rw [rkb]
      exact h_neg (by first | omega | ((simp (disch := omega) only [i0, i1, i_lt, i_le, i_eq, i_add, i_sub, i_mul, i_neg, i_ofNat, i_rem, i_div, w_in, w_in2, w_cnt, w_cnt2, z01, z01', il, li, lc_ge, lc_le, lc_gt, lc_lt, lc_eq, l_ofNat, l0, l_eq, l_lt, l_le]) <;> omega)) (h_bind a1 g1)
    · rw [if_neg c4]
      obtain ⟨S1, a1, a2, a3⟩ := st (rkO b) (by omega)
      obtain ⟨S2, g1, g2, g3⟩ := q_push (X := X) hN (rtG_f h1 a3) (atT_f h2 a3) a2 (by rw [a3.2.1 14 (by omega) (by omega) (by omega)]; exact h5) (pk kne) (by have := (sl (rkO b) (by omega)).1; omega) (b := b)
      refine ⟨S2, ?_, g2, Fu_trans (Fu_s a3) g3 (sl (rkO b) (by omega)).2⟩
      unfold fX12_behindOne
      refine h_bind qb (h_neg (by first | omega | ((simp (disch := omega) only [i0, i1, i_lt, i_le, i_eq, i_add, i_sub, i_mul, i_neg, i_ofNat, i_rem, i_div, w_in, w_in2, w_cnt, w_cnt2, z01, z01', il, li, lc_ge, lc_le, lc_gt, lc_lt, lc_eq, l_ofNat, l0, l_eq, l_lt, l_le]) <;> omega)) ?_)
      rw [rkb]
      exact h_pos (by first | omega | ((simp (disch := omega) only [i0, i1, i_lt, i_le, i_eq, i_add, i_sub, i_mul, i_neg, i_ofNat, i_rem, i_div, w_in, w_in2, w_cnt, w_cnt2, z01, z01', il, li, lc_ge, lc_le, lc_gt, lc_lt, lc_eq, l_ofNat, l0, l_eq, l_lt, l_le]) <;> omega)) (h_bind a1 g1)
  · rw [if_neg b0]
    have br : -1 ≤ btw kd X.2.2.1 := by
      rcases btw_all kd X.2.2.1 with e | e | e | ⟨-, e⟩ | e <;> omega
    have pr : -1 ≤ prt (opN X.2.2.1) kd X.2.2.1 ∧ prt (opN X.2.2.1) kd X.2.2.1 ≤ 43 := by
      unfold prt
      repeat' split
      all_goals omega
    by_cases p0 : prt (opN X.2.2.1) kd X.2.2.1 < 0
    · rw [if_pos p0]
      right
      refine ⟨?_, ?_⟩
      · split
        · show (1 : Int) ≠ -1; omega
        · show (0 : Int) ≠ -1; omega
      · unfold fX12_behindOne
        exact h_bind qb (h_pos (by first | omega | ((simp (disch := omega) only [i0, i1, i_lt, i_le, i_eq, i_add, i_sub, i_mul, i_neg, i_ofNat, i_rem, i_div, w_in, w_in2, w_cnt, w_cnt2, z01, z01', il, li, lc_ge, lc_le, lc_gt, lc_lt, lc_eq, l_ofNat, l0, l_eq, l_lt, l_le]) <;> omega)) (h_bind qo (h_bind qp (h_neg (by first | omega | ((simp (disch := omega) only [i0, i1, i_lt, i_le, i_eq, i_add, i_sub, i_mul, i_neg, i_ofNat, i_rem, i_div, w_in, w_in2, w_cnt, w_cnt2, z01, z01', il, li, lc_ge, lc_le, lc_gt, lc_lt, lc_eq, l_ofNat, l0, l_eq, l_lt, l_le]) <;> omega)) rfl))))
    · rw [if_neg p0]
      left
      have kne : kd ≠ 40 := fun q => by
        rw [q] at p0
        unfold prt at p0
        repeat' split at p0
        all_goals omega
      have o0 : 0 ≤ opN X.2.2.1 := by
        unfold prt at p0
        repeat' split at p0
        all_goals omega
      obtain ⟨Q, hQ⟩ := stl_op X.2.2.1 X.2.2.2.1 X.2.2.2.2.1 X.2.2.2.2.2 o0
      have hQ : (stZ 1 X.2.2).1 = opN X.2.2.1 :: Q := hQ
      obtain ⟨S1, a1, a2, a3⟩ := st 1 (by omega)
      have sl1 := sl 1 (by omega)
      obtain ⟨v1, v2, v3, v4, v5⟩ := stl_inv (L := 1) X.2.2.1 X.2.2.2.1 X.2.2.2.2.1 X.2.2.2.2.2 (by omega) i1 i2
      have v1 : okp (stZ 1 X.2.2).1 := v1
      have v2 : (stZ 1 X.2.2).2.1 = ocn (stZ 1 X.2.2).1 := v2
      have v3 : (stZ 1 X.2.2).2.1 ≤ X.2.2.2.1 := v3
      have v4 : (stZ 1 X.2.2).2.2.2 + (stZ 1 X.2.2).1.length = X.2.2.2.2.2 + X.2.2.1.length := v4
      generalize stZ 1 X.2.2 = Z at *
      rw [hQ] at v1 v2 v4 sl1
      have v2 : Z.2.1 = (if opc (opN X.2.2.1) = true then 1 else 0) + ocn Q := v2
      have o40 := opN_40 _ o0
      rw [if_pos (show opc (opN X.2.2.1) = true from decide_eq_true (Or.inl o40))] at v2
      have v4 : Z.2.2.2 + (Q.length + 1) = X.2.2.2.2.2 + X.2.2.1.length := v4
      have hoQ := ocn_nn Q
      have heQ := okp_el v1.1
      obtain ⟨S2, b1, b2, b3⟩ := q_nextT hN (rtG_f h1 a3) (pk kne) (atT_f h2 a3)
      have z2 := rZ_k a2 b2
      have g2 := rtG_k (rtG_f h1 a3) b2
      have e14 : S2.1 265 14 = Int32.ofInt (s : Int) := by rw [b2.2.1 14 (by omega), a3.2.1 14 (by omega) (by omega) (by omega)]; exact h5
      have e18 : S2.1 265 18 = S.1 265 18 := by rw [b2.2.1 18 (by omega), a3.2.1 18 (by omega) (by omega) (by omega)]
      have F2 : Fu t X.2.2.2.2.2 S S2 := Fu_trans (Fu_s a3) (Fu_k (r := X.2.2.2.2.2) b2) (Nat.le_refl _)
      obtain ⟨y1, y2, y3, y4, y5, y6⟩ := id z2
      rw [hQ] at y2 y3
      have y2 : S2.1 265 16 = Int32.ofInt ((Q.length + 1 : Nat) : Int) := y2
      by_cases p1 : 0 < prt (opN X.2.2.1) kd X.2.2.1
      · rw [if_pos p1]
        refine ⟨rfl, ySi (ySa S2 270 (upd (S2.2.2.1 270) Q.length (Int32.ofInt (prt (opN X.2.2.1) kd X.2.2.1)))) 265 18 (Int32.ofInt 0), ?_, ⟨?_, ?_, ?_, fld_at, ?_⟩, ?_⟩
        · unfold fX12_behindOne
          refine h_bind qb (h_pos (by first | omega | ((simp (disch := omega) only [i0, i1, i_lt, i_le, i_eq, i_add, i_sub, i_mul, i_neg, i_ofNat, i_rem, i_div, w_in, w_in2, w_cnt, w_cnt2, z01, z01', il, li, lc_ge, lc_le, lc_gt, lc_lt, lc_eq, l_ofNat, l0, l_eq, l_lt, l_le]) <;> omega)) (h_bind qo (h_bind qp (h_pos (by first | omega | ((simp (disch := omega) only [i0, i1, i_lt, i_le, i_eq, i_add, i_sub, i_mul, i_neg, i_ofNat, i_rem, i_div, w_in, w_in2, w_cnt, w_cnt2, z01, z01', il, li, lc_ge, lc_le, lc_gt, lc_lt, lc_eq, l_ofNat, l0, l_eq, l_lt, l_le]) <;> omega)) (h_bind a1 (h_bind b1 (h_neg (by first | omega | ((simp (disch := omega) only [i0, i1, i_lt, i_le, i_eq, i_add, i_sub, i_mul, i_neg, i_ofNat, i_rem, i_div, w_in, w_in2, w_cnt, w_cnt2, z01, z01', il, li, lc_ge, lc_le, lc_gt, lc_lt, lc_eq, l_ofNat, l0, l_eq, l_lt, l_le]) <;> omega)) ?_)))))))
          obtain ⟨i, gi, gi2⟩ := q_openA hN z2 (by rw [hQ]; show Q.length + 1 < 160; omega) (by rw [hQ]; exact okp_el v1)
          rw [hQ] at gi2
          have eo : opN (opN X.2.2.1 :: Q) = opN X.2.2.1 := if_pos o40
          have ei : i = (Q.length : Int) := by
            have g3 : fX12_openAt N S2 = some (Int32.ofInt (Q.length : Int)) := by
              unfold fX12_openAt
              rw [y2, i_sub, show ((Q.length + 1 : Nat) : Int) - 1 = (Q.length : Int) by omega]
              obtain ⟨N', hN'⟩ : ∃ m, N = m + 1 := ⟨N - 1, by omega⟩
              show lX12_openAt N N _ S2 = _
              rw [show lX12_openAt N N (Int32.ofInt (Q.length : Int)) S2 = lX12_openAt N (N' + 1) (Int32.ofInt (Q.length : Int)) S2 by rw [← hN'], lX12_openAt]
              refine h_neg (by first | omega | ((simp (disch := omega) only [i0, i1, i_lt, i_le, i_eq, i_add, i_sub, i_mul, i_neg, i_ofNat, i_rem, i_div, w_in, w_in2, w_cnt, w_cnt2, z01, z01', il, li, lc_ge, lc_le, lc_gt, lc_lt, lc_eq, l_ofNat, l0, l_eq, l_lt, l_le]) <;> omega)) (h_ainN (by omega) (by omega) ?_)
              rw [y3.1]
              exact h_pos (by first | omega | ((simp (disch := omega) only [i0, i1, i_lt, i_le, i_eq, i_add, i_sub, i_mul, i_neg, i_ofNat, i_rem, i_div, w_in, w_in2, w_cnt, w_cnt2, z01, z01', il, li, lc_ge, lc_le, lc_gt, lc_lt, lc_eq, l_ofNat, l0, l_eq, l_lt, l_le]) <;> omega)) rfl
            rw [gi] at g3
            have g3 := Option.some.inj g3
            rcases gi2 with ⟨a, b⟩ | ⟨k, k1, k2, -⟩
            · rw [eo] at b; omega
            · have k2 : k < Q.length + 1 := k2
              rw [k1, i_eq (by omega) (by omega) (by omega) (by omega)] at g3
              omega
          refine h_bind gi ?_
          rw [ei]
          exact h_ainN (by omega) (by omega) rfl
        · exact ⟨g2.1, by rw [fld_ne (by omega)]; exact g2.2.1, fun k hk => by rw [ySi_2, ySa_ne _ _ (by omega)]; exact g2.2.2.1 k hk, g2.2.2.2⟩
        · refine atT_s b3 ?_ ?_ ?_ ?_ rfl
          all_goals (rw [fld_ne (by omega)]; rfl)
        · dsimp only
          rw [hQ]
          refine ⟨?_, ?_, ?_, ?_, ?_, fun j hj => ?_⟩
          · rw [fld_ne (by omega)]; exact y1
          · rw [fld_ne (by omega)]; exact y2
          · rw [ySi_2, ySa_at]
            exact plG_top y3
          · rw [fld_ne (by omega)]; exact y4
          · rw [fld_ne (by omega)]; exact y5
          · have y6' := y6 j hj
            show cdR _ t j = Z.2.2.1 j
            rw [← y6']
            unfold cdR rv
            rw [ySi_2, ySa_ne _ _ (by omega)]
        · rw [fld_ne (by omega)]; exact e14
        · exact Fu_trans F2 (Fu_trans (Fu_a (r := X.2.2.2.2.2)) (Fu_i (r := X.2.2.2.2.2) (by omega)) (Nat.le_refl _)) (Nat.le_refl _)
      · rw [if_neg p1]
        have z3 : rZ (ySi (ySi S2 265 17 (Int32.ofInt (Z.2.1 - 1))) 265 16 (Int32.ofInt (Q.length : Int))) t (Q, Z.2.1 - 1, Z.2.2.1, Z.2.2.2) := ⟨by rw [fld_ne (by omega), fld_ne (by omega)]; exact y1, fld_at, y3.2, by rw [fld_ne (by omega), fld_at], by rw [fld_ne (by omega), fld_ne (by omega)]; exact y5, y6⟩
        have F3 : Fu t X.2.2.2.2.2 S (ySi (ySi S2 265 17 (Int32.ofInt (Z.2.1 - 1))) 265 16 (Int32.ofInt (Q.length : Int))) := Fu_trans F2 (Fu_trans (Fu_i (r := X.2.2.2.2.2) (by omega)) (Fu_i (r := X.2.2.2.2.2) (by omega)) (Nat.le_refl _)) (Nat.le_refl _)
        have t3 : atT (ySi (ySi S2 265 17 (Int32.ofInt (Z.2.1 - 1))) 265 16 (Int32.ofInt (Q.length : Int))) f n (X.1 + 1) := by
          refine atT_s b3 ?_ ?_ ?_ ?_ rfl
          all_goals (rw [fld_ne (by omega), fld_ne (by omega)])
        have g3 : rtG (ySi (ySi S2 265 17 (Int32.ofInt (Z.2.1 - 1))) 265 16 (Int32.ofInt (Q.length : Int))) f n := ⟨g2.1, by rw [fld_ne (by omega), fld_ne (by omega)]; exact g2.2.1, g2.2.2.1, g2.2.2.2⟩
        have m14 : (ySi (ySi S2 265 17 (Int32.ofInt (Z.2.1 - 1))) 265 16 (Int32.ofInt (Q.length : Int))).1 265 14 = Int32.ofInt (s : Int) := by rw [fld_ne (by omega), fld_ne (by omega)]; exact e14
        have m18 : (ySi (ySi S2 265 17 (Int32.ofInt (Z.2.1 - 1))) 265 16 (Int32.ofInt (Q.length : Int))).1 265 18 = Int32.ofInt 1 := by rw [fld_ne (by omega), fld_ne (by omega), e18, h4, hw]; rfl
        have code : ∀ {Y : Option (Int32 × yS)}, (if ¬ (Int32.ofInt (opN X.2.2.1)) = (Int32.ofInt 43) then (fX12_settle N (Int32.ofInt 7) (ySi (ySi S2 265 17 (Int32.ofInt (Z.2.1 - 1))) 265 16 (Int32.ofInt (Q.length : Int)))).bind fun S14 => some ((Int32.ofInt 1), S14) else (fX12_emit (Int32.ofInt 3) (Int32.ofInt 0) (ySi (ySi S2 265 17 (Int32.ofInt (Z.2.1 - 1))) 265 16 (Int32.ofInt (Q.length : Int)))).bind fun S16 => (fX12_settle N (Int32.ofInt 7) S16).bind fun S18 => some ((Int32.ofInt 1), S18)) = Y → fX12_behindOne N S = Y := by
          intro Y hY
          unfold fX12_behindOne
          refine h_bind qb (h_pos (by first | omega | ((simp (disch := omega) only [i0, i1, i_lt, i_le, i_eq, i_add, i_sub, i_mul, i_neg, i_ofNat, i_rem, i_div, w_in, w_in2, w_cnt, w_cnt2, z01, z01', il, li, lc_ge, lc_le, lc_gt, lc_lt, lc_eq, l_ofNat, l0, l_eq, l_lt, l_le]) <;> omega)) (h_bind qo (h_bind qp (h_pos (by first | omega | ((simp (disch := omega) only [i0, i1, i_lt, i_le, i_eq, i_add, i_sub, i_mul, i_neg, i_ofNat, i_rem, i_div, w_in, w_in2, w_cnt, w_cnt2, z01, z01', il, li, lc_ge, lc_le, lc_gt, lc_lt, lc_eq, l_ofNat, l0, l_eq, l_lt, l_le]) <;> omega)) (h_bind a1 (h_bind b1 (h_pos (by first | omega | ((simp (disch := omega) only [i0, i1, i_lt, i_le, i_eq, i_add, i_sub, i_mul, i_neg, i_ofNat, i_rem, i_div, w_in, w_in2, w_cnt, w_cnt2, z01, z01', il, li, lc_ge, lc_le, lc_gt, lc_lt, lc_eq, l_ofNat, l0, l_eq, l_lt, l_le]) <;> omega)) (h_pst (h_pst ?_)))))))))
          rw [y4, i_sub, fld_ne (show 16 ≠ 17 by omega), y2, i_sub, show ((Q.length + 1 : Nat) : Int) - 1 = (Q.length : Int) by omega]
          exact hY
        by_cases o43 : opN X.2.2.1 = 43
        · rw [if_pos o43]
          obtain ⟨S4, d1, d2, d3⟩ := q_emit z3 ht (by show Z.2.2.2 < 302; omega) (a := 3) (b := 0) (by omega) (by omega)
          obtain ⟨S5, k1, k2, k3⟩ := q_settle hN ht (L := 7) (by omega) d2 heQ (by show Z.2.2.2 + 1 + Q.length ≤ 301; omega) (by show Q.length < 160; omega) (by show 0 ≤ Z.2.1 - 1 ∧ Z.2.1 - 1 ≤ 8; omega)
          have d3 : Fs t Z.2.2.2 _ S4 := d3
          have k3 : Fs t (Z.2.2.2 + 1) S4 S5 := k3
          refine ⟨rfl, S5, code (h_neg (by first | omega | ((simp (disch := omega) only [i0, i1, i_lt, i_le, i_eq, i_add, i_sub, i_mul, i_neg, i_ofNat, i_rem, i_div, w_in, w_in2, w_cnt, w_cnt2, z01, z01', il, li, lc_ge, lc_le, lc_gt, lc_lt, lc_eq, l_ofNat, l0, l_eq, l_lt, l_le]) <;> omega)) (h_bind d1 (h_bind k1 rfl))), ⟨rtG_f (rtG_f g3 d3) k3, atT_f (atT_f t3 d3) k3, ?_, ?_, ?_⟩, Fu_trans F3 (Fu_trans (Fu_s d3) (Fu_s k3) (by omega)) (by omega)⟩
          · dsimp only
            rw [hQ]
            exact k2
          · rw [k3.2.1 18 (by omega) (by omega) (by omega), d3.2.1 18 (by omega) (by omega) (by omega), m18]; rfl
          · rw [k3.2.1 14 (by omega) (by omega) (by omega), d3.2.1 14 (by omega) (by omega) (by omega), m14]
        · rw [if_neg o43]
          obtain ⟨S5, k1, k2, k3⟩ := q_settle hN ht (L := 7) (by omega) z3 heQ (by show Z.2.2.2 + Q.length ≤ 301; omega) (by show Q.length < 160; omega) (by show 0 ≤ Z.2.1 - 1 ∧ Z.2.1 - 1 ≤ 8; omega)
          have k3 : Fs t Z.2.2.2 _ S5 := k3
          refine ⟨rfl, S5, code (h_pos (by first | omega | ((simp (disch := omega) only [i0, i1, i_lt, i_le, i_eq, i_add, i_sub, i_mul, i_neg, i_ofNat, i_rem, i_div, w_in, w_in2, w_cnt, w_cnt2, z01, z01', il, li, lc_ge, lc_le, lc_gt, lc_lt, lc_eq, l_ofNat, l0, l_eq, l_lt, l_le]) <;> omega)) (h_bind k1 rfl)), ⟨rtG_f g3 k3, atT_f t3 k3, ?_, ?_, ?_⟩, Fu_trans F3 (Fu_s k3) (by omega)⟩
          · dsimp only
            rw [hQ]
            exact k2
          · rw [k3.2.1 18 (by omega) (by omega) (by omega), m18]; rfl
          · rw [k3.2.1 14 (by omega) (by omega) (by omega), m14]
/-! a run of the machine -/
def uR (s : Nat) (K V : Nat → Int) : Nat → uX → Int × uX
  | 0, X => (-1, X)
  | c + 1, X => if (uS s K V X).1 = -1 then uR s K V c (uS s K V X).2 else uS s K V X
theorem btw_40 (P : List Int) : btw 40 P = -1 := by
  unfold btw cmK
  rw [if_neg (by omega), if_neg (by omega), if_neg (by omega), if_neg (by omega)]
  split
  · split
    · rw [if_neg (by omega), if_neg (by omega)]
    · rw [if_neg (by omega), if_neg (by omega), if_neg (by omega), if_neg (by omega), if_neg (by omega), if_neg (by omega)]
  · rfl
theorem prt_40 (op : Int) (P : List Int) : prt op 40 P = -1 := by
  unfold prt
  repeat' split
  all_goals first | rfl | omega
theorem uS_k {s : Nat} {K V : Nat → Int} {X : uX} (h : (uS s K V X).1 = -1) : (uS s K V X).2.1 = X.1 + 1 ∧ K X.1 ≠ 40 := by
  have ho : ∀ x : Int, (opd x X).1 = -1 → (opd x X).2.1 = X.1 + 1 := fun x q => by
    unfold opd at q ⊢
    by_cases z : X.2.2.2.1 = 8
    · rw [if_pos z] at q; dsimp only at q; omega
    · rw [if_neg z]
  unfold uS at h ⊢
  by_cases w : X.2.1 = true
  · rw [if_pos w] at h ⊢
    unfold bhd at h ⊢
    by_cases k40 : K X.1 = 40
    · rw [k40, btw_40, prt_40, if_neg (by omega), if_pos (by omega)] at h
      by_cases z : 0 ≤ opN X.2.2.1
      · rw [if_pos z] at h; dsimp only at h; omega
      · rw [if_neg z] at h; dsimp only at h; omega
    · refine ⟨?_, k40⟩
      by_cases b0 : 0 ≤ btw (K X.1) X.2.2.1
      · rw [if_pos b0]
      · rw [if_neg b0] at h ⊢
        by_cases p0 : prt (opN X.2.2.1) (K X.1) X.2.2.1 < 0
        · rw [if_pos p0] at h
          by_cases z : 0 ≤ opN X.2.2.1
          · rw [if_pos z] at h; dsimp only at h; omega
          · rw [if_neg z] at h; dsimp only at h; omega
        · rw [if_neg p0]
          split <;> rfl
  · rw [if_neg w] at h ⊢
    unfold bgn at h ⊢
    by_cases k38 : K X.1 = 38
    · rw [if_pos k38] at h ⊢
      refine ⟨?_, by omega⟩
      by_cases v : 9999 < V X.1
      · rw [if_pos v] at h; dsimp only at h; omega
      · rw [if_neg v]
    · rw [if_neg k38] at h ⊢
      by_cases k8 : K X.1 ≤ 8
      · rw [if_pos k8] at h ⊢
        refine ⟨?_, by omega⟩
        by_cases v : okN s (K X.1) = true
        · rw [if_pos v]
        · rw [if_neg v] at h; dsimp only at h; omega
      · rw [if_neg k8] at h ⊢
        by_cases a1 : K X.1 = 33
        · rw [if_pos a1] at h ⊢; exact ⟨ho _ h, by omega⟩
        · rw [if_neg a1] at h ⊢
          by_cases a2 : K X.1 = 30
          · rw [if_pos a2] at h ⊢; exact ⟨ho _ h, by omega⟩
          · rw [if_neg a2] at h ⊢
            by_cases a3 : K X.1 = 9
            · rw [if_pos a3] at h ⊢; exact ⟨ho _ h, by omega⟩
            · rw [if_neg a3] at h ⊢
              by_cases a4 : K X.1 = 10
              · rw [if_pos a4] at h ⊢; exact ⟨ho _ h, by omega⟩
              · rw [if_neg a4] at h ⊢
                by_cases a5 : K X.1 = 14
                · rw [if_pos a5] at h ⊢; exact ⟨ho _ h, by omega⟩
                · rw [if_neg a5] at h ⊢
                  by_cases a6 : K X.1 = 11
                  · rw [if_pos a6] at h ⊢
                    by_cases v : opN X.2.2.1 = 41 ∧ askT X.2.2.1 = true
                    · rw [if_pos v] at h ⊢; exact ⟨ho _ h, by omega⟩
                    · rw [if_neg v] at h; dsimp only at h; omega
                  · rw [if_neg a6] at h; dsimp only at h; omega
theorem bgn_f {s : Nat} {kd vl : Int} {X : uX} (h : (bgn s kd vl X).1 ≠ -1) : 1 ≤ (bgn s kd vl X).1 ∧ (bgn s kd vl X).1 ≤ 5 ∧ (bgn s kd vl X).2 = X := by
  have ho : ∀ x : Int, (opd x X).1 ≠ -1 → 1 ≤ (opd x X).1 ∧ (opd x X).1 ≤ 5 ∧ (opd x X).2 = X := fun x q => by
    unfold opd at q ⊢
    by_cases z : X.2.2.2.1 = 8
    · rw [if_pos z]; exact ⟨by dsimp only; omega, by dsimp only; omega, rfl⟩
    · rw [if_neg z] at q; exact absurd rfl q
  unfold bgn at h ⊢
  by_cases k38 : kd = 38
  · rw [if_pos k38] at h ⊢
    by_cases v : 9999 < vl
    · rw [if_pos v]; exact ⟨by dsimp only; omega, by dsimp only; omega, rfl⟩
    · rw [if_neg v] at h; exact absurd rfl h
  rw [if_neg k38] at h ⊢
  by_cases k8 : kd ≤ 8
  · rw [if_pos k8] at h ⊢
    by_cases v : okN s kd = true
    · rw [if_pos v] at h; exact absurd rfl h
    · rw [if_neg v]; exact ⟨by dsimp only; omega, by dsimp only; omega, rfl⟩
  rw [if_neg k8] at h ⊢
  by_cases a1 : kd = 33
  · rw [if_pos a1] at h ⊢; exact ho _ h
  rw [if_neg a1] at h ⊢
  by_cases a2 : kd = 30
  · rw [if_pos a2] at h ⊢; exact ho _ h
  rw [if_neg a2] at h ⊢
  by_cases a3 : kd = 9
  · rw [if_pos a3] at h ⊢; exact ho _ h
  rw [if_neg a3] at h ⊢
  by_cases a4 : kd = 10
  · rw [if_pos a4] at h ⊢; exact ho _ h
  rw [if_neg a4] at h ⊢
  by_cases a5 : kd = 14
  · rw [if_pos a5] at h ⊢; exact ho _ h
  rw [if_neg a5] at h ⊢
  by_cases a6 : kd = 11
  · rw [if_pos a6] at h ⊢
    by_cases v : opN X.2.2.1 = 41 ∧ askT X.2.2.1 = true
    · rw [if_pos v] at h ⊢; exact ho _ h
    · rw [if_neg v]; exact ⟨by dsimp only; omega, by dsimp only; omega, rfl⟩
  · rw [if_neg a6]; exact ⟨by dsimp only; omega, by dsimp only; omega, rfl⟩
theorem uS_r {s : Nat} {K V : Nat → Int} {X : uX} (h : (uS s K V X).1 = -1) (hi : inv X) : X.2.2.2.2.2 ≤ (uS s K V X).2.2.2.2.2.2 := by
  have sl : ∀ (L : Int) (P : List Int) (o : Int) (c : Nat → Int × Int) (r : Nat), r ≤ (stl L P o c r).2.2.2 := by
    intro L P
    induction P with
    | nil => intro o c r; exact Nat.le_refl _
    | cons x P ih =>
      intro o c r
      by_cases q : rkO x < L
      · have e : stl L (x :: P) o c r = (x :: P, o, c, r) := if_pos q
        rw [e]
        exact Nat.le_refl _
      · have e : stl L (x :: P) o c r = stl L P (if rkO x = 7 ∨ x = 20 then o - 1 else o) (cU c r (x, 0)) (r + 1) := if_neg q
        rw [e]
        have := ih (if rkO x = 7 ∨ x = 20 then o - 1 else o) (cU c r (x, 0)) (r + 1)
        omega
  have ho : ∀ x : Int, X.2.2.2.2.2 ≤ (opd x X).2.2.2.2.2.2 := fun x => by
    unfold opd
    split
    · exact Nat.le_refl _
    · exact Nat.le_refl _
  unfold uS
  by_cases w : X.2.1 = true
  · rw [if_pos w]
    unfold bhd
    by_cases b0 : 0 ≤ btw (K X.1) X.2.2.1
    · rw [if_pos b0]
      exact sl _ _ _ _ _
    · rw [if_neg b0]
      have s1 : X.2.2.2.2.2 ≤ (stZ 1 X.2.2).2.2.2 := sl 1 _ _ _ _
      by_cases p0 : prt (opN X.2.2.1) (K X.1) X.2.2.1 < 0
      · rw [if_pos p0]
        split
        · exact Nat.le_refl _
        · exact s1
      · rw [if_neg p0]
        split
        · exact s1
        · dsimp only
          split
          · exact Nat.le_trans (Nat.le_trans s1 (Nat.le_succ _)) (sl 7 _ _ _ _)
          · exact Nat.le_trans s1 (sl 7 _ _ _ _)
  · rw [if_neg w]
    unfold bgn
    split
    · split
      · exact Nat.le_refl _
      · exact Nat.le_trans (Nat.le_succ _) (sl 7 _ _ _ _)
    · split
      · split
        · exact Nat.le_trans (Nat.le_succ _) (sl 7 _ _ _ _)
        · exact Nat.le_refl _
      · repeat' split
        all_goals first | exact ho _ | exact Nat.le_refl _
theorem q_run (hN : 2000000 ≤ N) (ht : t < 4) (hs : s ≤ 1) (hn : n ≤ 300) {M : Nat} (hM : M ≤ n) (hMe : psT f n M = n) : ∀ (c fu : Nat) (S : yS) (X : uX), rS S f n t s X → inv X → X.1 ≤ M → c < fu → (uR s (kdT f n) (vlT f n) c X).1 ≠ -1 → ∃ S', lX12_summed N fu S = some (Int32.ofInt (uR s (kdT f n) (vlT f n) c X).1, S') ∧ rS S' f n t s (uR s (kdT f n) (vlT f n) c X).2 ∧ Fu t X.2.2.2.2.2 S S'
  | 0, fu, S, X, h, hi, hx, hf, hq => absurd rfl hq
  | c + 1, 0, S, X, h, hi, hx, hf, hq => absurd hf (Nat.not_lt_zero _)
  | c + 1, fu + 1, S, X, h, hi, hx, hf, hq => by
    have kr := kdT_rng (f := f) (n := n) X.1
    have e18 := h.2.2.2.1
    have hc1 : uR s (kdT f n) (vlT f n) (c + 1) X = if (uS s (kdT f n) (vlT f n) X).1 = -1 then uR s (kdT f n) (vlT f n) c (uS s (kdT f n) (vlT f n) X).2 else uS s (kdT f n) (vlT f n) X := rfl
    have go : ∀ S1, rS S1 f n t s (uS s (kdT f n) (vlT f n) X).2 → Fu t X.2.2.2.2.2 S S1 → (uS s (kdT f n) (vlT f n) X).1 = -1 → lX12_summed N (fu + 1) S = lX12_summed N fu S1 → ∃ S', lX12_summed N (fu + 1) S = some (Int32.ofInt (uR s (kdT f n) (vlT f n) (c + 1) X).1, S') ∧ rS S' f n t s (uR s (kdT f n) (vlT f n) (c + 1) X).2 ∧ Fu t X.2.2.2.2.2 S S' := by
      intro S1 r1 f1 u1 e1
      rw [hc1, if_pos u1] at hq ⊢
      obtain ⟨k1, k2⟩ := uS_k u1
      have i1 := uS_inv hi u1
      have lt : X.1 + 1 ≤ M := by
        by_cases q : X.1 = M
        · exfalso
          apply k2
          rw [kr.2.2.1, q, hMe]
          omega
        · omega
      obtain ⟨S', g1, g2, g3⟩ := q_run hN ht hs hn hM hMe c fu S1 _ r1 i1 (by omega) (by omega) hq
      refine ⟨S', e1.trans g1, g2, ?_⟩
      have rr : X.2.2.2.2.2 ≤ (uS s (kdT f n) (vlT f n) X).2.2.2.2.2.2 := uS_r u1 hi
      exact Fu_trans f1 g3 rr
    by_cases w : X.2.1 = true
    · have us : uS s (kdT f n) (vlT f n) X = bhd (kdT f n X.1) X := if_pos w
      rw [w] at e18
      rcases q_bhd hN ht h hi (by omega) w with ⟨a, S1, b1, b2, b3⟩ | ⟨a, b1⟩
      · refine go S1 (by rw [us]; exact b2) b3 (by rw [us]; exact a) ?_
        rw [lX12_summed, e18]
        refine h_neg (by decide) (h_bind b1 ?_)
        exact h_neg (by decide) rfl
      · have hl := inv_len hi
        have qo := q_openN hN h.2.2.1 (by omega) (okp_el hi.1)
        have hoc := ocn_nn X.2.2.1
        obtain ⟨i1, i2, i3, i4⟩ := id hi
        have hop : -1 ≤ opN X.2.2.1 ∧ opN X.2.2.1 ≤ 43 := by
          obtain ⟨i, -, g2⟩ := q_openA hN h.2.2.1 (by omega) (okp_el hi.1)
          rcases g2 with ⟨a, b⟩ | ⟨k, k1, k2, k3, k4, k5⟩
          · omega
          · omega
        rw [hc1, us, if_neg a]
        have eb : bhd (kdT f n X.1) X = if 0 ≤ opN X.2.2.1 then (1, X) else (0, (X.1, true, stZ 1 X.2.2)) := by
          unfold bhd at a ⊢
          by_cases b0 : 0 ≤ btw (kdT f n X.1) X.2.2.1
          · rw [if_pos b0] at a; exact absurd rfl a
          · rw [if_neg b0] at a ⊢
            by_cases p0 : prt (opN X.2.2.1) (kdT f n X.1) X.2.2.1 < 0
            · rw [if_pos p0]
            · rw [if_neg p0] at a
              exfalso
              apply a
              split <;> rfl
        rw [eb]
        by_cases o0 : 0 ≤ opN X.2.2.1
        · rw [if_pos o0]
          refine ⟨S, ?_, h, Fu_refl S⟩
          rw [lX12_summed, e18]
          refine h_neg (by decide) (h_bind b1 ?_)
          exact h_pos (by decide) (h_bind qo (h_neg (by first | omega | ((simp (disch := omega) only [i0, i1, i_lt, i_le, i_eq, i_add, i_sub, i_mul, i_neg, i_ofNat, i_rem, i_div, w_in, w_in2, w_cnt, w_cnt2, z01, z01', il, li, lc_ge, lc_le, lc_gt, lc_lt, lc_eq, l_ofNat, l0, l_eq, l_lt, l_le]) <;> omega)) rfl))
        · rw [if_neg o0]
          obtain ⟨S1, g1, g2, g3⟩ := q_settle hN ht (L := 1) (by omega) h.2.2.1 (okp_el hi.1) (by omega) (by omega) (by omega)
          refine ⟨S1, ?_, ⟨rtG_f h.1 g3, atT_f h.2.1 g3, g2, ?_, ?_⟩, Fu_s g3⟩
          · rw [lX12_summed, e18]
            refine h_neg (by decide) (h_bind b1 ?_)
            exact h_pos (by decide) (h_bind qo (h_pos (by first | omega | ((simp (disch := omega) only [i0, i1, i_lt, i_le, i_eq, i_add, i_sub, i_mul, i_neg, i_ofNat, i_rem, i_div, w_in, w_in2, w_cnt, w_cnt2, z01, z01', il, li, lc_ge, lc_le, lc_gt, lc_lt, lc_eq, l_ofNat, l0, l_eq, l_lt, l_le]) <;> omega)) (h_bind g1 rfl)))
          · rw [g3.2.1 18 (by omega) (by omega) (by omega), e18]
          · rw [g3.2.1 14 (by omega) (by omega) (by omega)]; exact h.2.2.2.2
    · have w' : X.2.1 = false := by
        cases hh : X.2.1 with
        | true => exact absurd hh w
        | false => rfl
      have us : uS s (kdT f n) (vlT f n) X = bgn s (kdT f n X.1) (vlT f n X.1) X := if_neg w
      rw [w'] at e18
      obtain ⟨S1, b1, b2, b3⟩ := q_bgn hN ht hs h hi (by omega) w'
      by_cases a : (bgn s (kdT f n X.1) (vlT f n X.1) X).1 = -1
      · rw [if_pos a] at b1
        refine go S1 (by rw [us]; exact b2) b3 (by rw [us]; exact a) ?_
        rw [lX12_summed, e18]
        exact h_pos (by decide) (h_bind b1 (h_pos (by decide) rfl))
      · rw [if_neg a] at b1
        obtain ⟨f1, f2, f3⟩ := bgn_f a
        rw [hc1, us, if_neg a]
        refine ⟨S1, ?_, b2, b3⟩
        rw [lX12_summed, e18]
        exact h_pos (by decide) (h_bind b1 (h_neg (by first | omega | ((simp (disch := omega) only [i0, i1, i_lt, i_le, i_eq, i_add, i_sub, i_mul, i_neg, i_ofNat, i_rem, i_div, w_in, w_in2, w_cnt, w_cnt2, z01, z01', il, li, lc_ge, lc_le, lc_gt, lc_lt, lc_eq, l_ofNat, l0, l_eq, l_lt, l_le]) <;> omega)) rfl))
end SIM
