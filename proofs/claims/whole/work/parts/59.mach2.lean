/-! ===== the class's run of a stretch; the reference's machine ===== -/
theorem itr_le {s : Nat} {cd : Nat → Int × Int} {E : eV} (hE : eG E) : ∀ (c i j : Nat) (st st' : List Int), itr (cst s cd E) c (i, st) = some (j, st') → bd6 st → i + c ≤ j ∧ bd6 st'
  | 0, i, j, st, st', h, hb => by cases h; exact ⟨by omega, hb⟩
  | c + 1, i, j, st, st', h, hb => by
    unfold itr at h
    obtain ⟨⟨i2, st2⟩, h1, h2⟩ := Option.bind_eq_some_iff.mp h
    obtain ⟨b1, b2, b3⟩ := cst_bd hE h1 hb
    have := itr_le hE c i2 j st2 st' h2 b1
    exact ⟨by omega, this.2⟩
section CRUN
variable {N : Nat} {T : yK} {o L s : Nat} {S : yS} {E : eV}
theorem cRun_itr (hE : eG E) (hC : eCl s S E) (hL1 : tLn T (o + 1) = L) (hL2 : tLn T (o + 2) = L) (ho : 281 ≤ o) {l4 : Nat} (hl : l4 ≤ L) (hL : L ≤ 300) : ∀ (c i j : Nat) (st st' : List Int) (f : Nat → Int32), itr (cst s (fun k => (rv S (o + 1) k, rv S (o + 2) k)) E) c (i, st) = some (j, st') → j ≤ l4 → st.length ≤ i → bd6 st → plS f st → ∃ f', plS f' st' ∧ ∀ n, lX1_run_T N T o (n + c) (Int32.ofInt l4) (Int32.ofInt ((st.length : Int) - 1)) (Int32.ofInt i) (ySa S 132 f) = lX1_run_T N T o n (Int32.ofInt l4) (Int32.ofInt ((st'.length : Int) - 1)) (Int32.ofInt j) (ySa S 132 f')
  | 0, i, j, st, st', f, h, hj, hlen, hb, hp => by cases h; exact ⟨f, hp, fun n => rfl⟩
  | c + 1, i, j, st, st', f, h, hj, hlen, hb, hp => by
    unfold itr at h
    obtain ⟨⟨i2, st2⟩, h1, h2⟩ := Option.bind_eq_some_iff.mp h
    obtain ⟨b1, b2, b3⟩ := cst_bd hE h1 hb
    have hle := itr_le hE c i2 j st2 st' h2 b1
    obtain ⟨f2, p2, s2⟩ := cRun_step (N := N) hE hC hL1 hL2 ho hl hL (by omega : i < l4) hlen hb hp h1
    obtain ⟨f3, p3, s3⟩ := cRun_itr hE hC hL1 hL2 ho hl hL c i2 j st2 st' f2 h2 hj (by omega) b1 p2
    exact ⟨f3, p3, fun n => by rw [show n + (c + 1) = (n + c) + 1 by omega, s2, s3]⟩
theorem cRun_val (hE : eG E) (hC : eCl s S E) (hL1 : tLn T (o + 1) = L) (hL2 : tLn T (o + 2) = L) (ho : 281 ≤ o) (hL : L ≤ 300) {i j : Nat} (hj : j ≤ L) {w : eV → Int} (h : frC s (fun k => (rv S (o + 1) k, rv S (o + 2) k)) i j w) (hN : 400 ≤ N) : ∃ f', fX1_run_T N T o (Int32.ofInt i) (Int32.ofInt j) S = some (Int32.ofInt (w E), ySa S 132 f') ∧ -1000000 ≤ w E ∧ w E ≤ 1000000 := by
  obtain ⟨hij, h⟩ := h
  obtain ⟨c, hc, h⟩ := h E hE []
  have hb0 : bd6 [] := fun v hv => by cases hv
  obtain ⟨f', p', s'⟩ := cRun_itr (N := N) (l4 := j) hE hC hL1 hL2 ho hj hL c i j [] [w E] (S.2.2.1 132) h (Nat.le_refl _) (by simp) hb0 trivial
  have hb := (bd6_cons.mp (itr_le hE c i j [] [w E] h hb0).2).1
  refine ⟨f', ?_, hb⟩
  unfold fX1_run_T
  refine h_pst ?_
  refine h_pst ?_
  rw [hL1, hL2, i_ofNat]
  have e1 : (if (if Int32.ofInt (L : Int) < Int32.ofInt (L : Int) then Int32.ofInt (L : Int) else Int32.ofInt (L : Int)) < Int32.ofInt (j : Int) then (if Int32.ofInt (L : Int) < Int32.ofInt (L : Int) then Int32.ofInt (L : Int) else Int32.ofInt (L : Int)) else Int32.ofInt (j : Int)) = Int32.ofInt (j : Int) := by
    have q1 : ¬ (Int32.ofInt (L : Int) < Int32.ofInt (L : Int)) := by first | omega | ((simp (disch := omega) only [i0, i1, i_lt, i_le, i_eq, i_add, i_sub, i_mul, i_neg, i_ofNat, i_rem, i_div, w_in, w_in2, w_cnt, w_cnt2, z01, z01', il, li, lc_ge, lc_le, lc_gt, lc_lt, lc_eq, l_ofNat, l0, l_eq, l_lt, l_le]) <;> omega)
    have q2 : ¬ (Int32.ofInt (L : Int) < Int32.ofInt (j : Int)) := by first | omega | ((simp (disch := omega) only [i0, i1, i_lt, i_le, i_eq, i_add, i_sub, i_mul, i_neg, i_ofNat, i_rem, i_div, w_in, w_in2, w_cnt, w_cnt2, z01, z01', il, li, lc_ge, lc_le, lc_gt, lc_lt, lc_eq, l_ofNat, l0, l_eq, l_lt, l_le]) <;> omega)
    rw [if_neg q1, if_neg q2]
  have e2 : (if Int32.ofInt 0 < Int32.ofInt (i : Int) then Int32.ofInt (i : Int) else Int32.ofInt 0) = Int32.ofInt (i : Int) := by
    simp (disch := omega) only [i_lt]
    split
    · rfl
    · congr 1; omega
  rw [e1, e2]
  have s2 := s' (N - c)
  rw [show N - c + c = N by omega, ySa_self] at s2
  refine s2.trans ?_
  rw [show N - c = (N - c - 1) + 1 by omega, lX1_run_T]
  refine h_pos (by first | omega | ((simp (disch := omega) only [i0, i1, i_lt, i_le, i_eq, i_add, i_sub, i_mul, i_neg, i_ofNat, i_rem, i_div, w_in, w_in2, w_cnt, w_cnt2, z01, z01', il, li, lc_ge, lc_le, lc_gt, lc_lt, lc_eq, l_ofNat, l0, l_eq, l_lt, l_le]) <;> omega)) (h_neg (by simp only [List.length_singleton]; first | omega | ((simp (disch := omega) only [i0, i1, i_lt, i_le, i_eq, i_add, i_sub, i_mul, i_neg, i_ofNat, i_rem, i_div, w_in, w_in2, w_cnt, w_cnt2, z01, z01', il, li, lc_ge, lc_le, lc_gt, lc_lt, lc_eq, l_ofNat, l0, l_eq, l_lt, l_le]) <;> omega)) ?_)
  rw [show (([w E] : List Int).length : Int) - 1 = ((0 : Nat) : Int) by simp]
  refine h_ainN (by omega) (by omega) ?_
  rw [ySa_at, show f' 0 = Int32.ofInt (w E) from p'.1]
end CRUN
/-! the reference -/
def eRf (s : Nat) (S : yS) (E : eV) : Prop := (∀ k : Int, okN s k = true → S.2.2.1 271 k.toNat = Int32.ofInt (E k.toNat)) ∧ (∀ c, c < 9 → S.2.2.1 266 (45 + c) = Int32.ofInt (E (10 + c))) ∧ S.2.2.1 266 0 = Int32.ofInt (E 30) ∧ (∀ b, b < 8 → S.2.2.1 266 (13 + b) = Int32.ofInt (E (20 + b)))
theorem eRf_one {s : Nat} {S : yS} {E : eV} {op v : Int} (h : eRf s S E) (hE : eG E) (ho : op = 2 ∨ op = 4 ∨ op = 5) (hv : -1000000 ≤ v ∧ v ≤ 1000000) : fX12_ofOne (Int32.ofInt op) (Int64.ofInt v) S = some (Int64.ofInt (one1 (oneO op) E v)) := by
  obtain ⟨-, h6, h7, h8⟩ := h
  obtain ⟨hE1, hb0, hb8⟩ := hE
  unfold fX12_ofOne
  rcases ho with rfl | rfl | rfl
  · refine h_pos (by decide) (h_neg (by decide) ?_)
    show _ = some (Int64.ofInt (if 0 ≤ v ∧ v ≤ 8 then E (10 + v.toNat) else 0))
    have hr := hE1 (10 + v.toNat)
    simp (disch := omega) only [l_ofNat, lc_lt, lc_ge]
    by_cases hc : 0 ≤ v ∧ v ≤ 8
    · rw [if_neg (by omega), if_neg (by omega), if_pos hc, li, i_add]
      refine h_ain (by omega) (by omega) (by omega) ?_
      rw [show (45 + v).toNat = 45 + v.toNat by omega, h6 _ (by omega), il (by omega) (by omega)]
    · rw [if_neg hc]
      by_cases hv0 : v < 0
      · rw [if_pos (by omega)]; rfl
      · rw [if_neg (by omega), if_pos (by omega)]; rfl
  · refine h_pos (by decide) (h_pos (by decide) ?_)
    show _ = some (Int64.ofInt (if 0 ≤ v ∧ v < E 30 then E (20 + v.toNat) else 0))
    have hr := hE1 (20 + v.toNat)
    simp (disch := omega) only [l_ofNat, h7, il, lc_lt, lc_ge]
    by_cases hc : 0 ≤ v ∧ v < E 30
    · rw [if_neg (by omega), if_neg (by omega), if_pos hc, li, i_add]
      refine h_ain (by omega) (by omega) (by omega) ?_
      rw [show (13 + v).toNat = 13 + v.toNat by omega, h8 _ (by omega), il (by omega) (by omega)]
    · rw [if_neg hc]
      by_cases hv0 : v < 0
      · rw [if_pos (by omega)]; rfl
      · rw [if_neg (by omega), if_pos (by omega)]; rfl
  · refine h_neg (by decide) ?_
    rw [l_neg]; rfl
theorem clip_i {x : Int} (h1 : -9223372036854775808 ≤ x) (h2 : x < 9223372036854775808) : fX12_clip (Int64.ofInt x) = Int64.ofInt (clp x) := by
  unfold fX12_clip clp
  simp (disch := omega) only [lc_le, lc_ge]
  repeat' split
  all_goals (congr 1; omega)
theorem r_two {S : yS} {op x y : Int} (ho : 6 ≤ op ∧ op ≤ 9) (hx : -1000000 ≤ x ∧ x ≤ 1000000) (hy : -1000000 ≤ y ∧ y ≤ 1000000) : fX12_two (Int32.ofInt op) (Int64.ofInt x) (Int64.ofInt y) S = some (Int64.ofInt (two1 (op + 23) x y)) := by
  have hm := mul_bd hx hy
  unfold fX12_two
  have hc : op = 6 ∨ op = 7 ∨ op = 8 ∨ op = 9 := by omega
  rcases hc with rfl | rfl | rfl | rfl
  · refine h_pos rfl ?_
    rw [l_add, clip_i (by omega) (by omega)]; rfl
  · refine h_neg (by decide) (h_pos rfl ?_)
    rw [l_sub, clip_i (by omega) (by omega)]; rfl
  · refine h_neg (by decide) (h_neg (by decide) (h_pos rfl ?_))
    rw [l_mul, clip_i (by omega) (by omega)]; rfl
  · refine h_neg (by decide) (h_neg (by decide) (h_neg (by decide) ?_))
    show _ = some (Int64.ofInt (x.tdiv y))
    simp (disch := omega) only [l_ofNat, lc_eq, l0, l_eq]
    by_cases h0 : y = 0
    · rw [if_neg (by omega), h0, Int.tdiv_zero]; rfl
    · have hd := tdiv_bd (y := y) hx
      rw [if_pos (by omega), if_neg h0, l_tdiv (by omega) (by omega) (by omega) (by omega), clip_i (by omega) (by omega)]
      unfold clp
      congr 2; omega
theorem r_asked {op x y : Int} (ho : 10 ≤ op ∧ op ≤ 15) (hx : -1000000 ≤ x ∧ x ≤ 1000000) (hy : -1000000 ≤ y ∧ y ≤ 1000000) : fX12_isAsked (Int32.ofInt op) (Int64.ofInt x) (Int64.ofInt y) = Int32.ofInt (two1 (cmpO op) x y) := by
  unfold fX12_isAsked
  have hc : op = 10 ∨ op = 11 ∨ op = 12 ∨ op = 13 ∨ op = 14 ∨ op = 15 := by omega
  rcases hc with rfl | rfl | rfl | rfl | rfl | rfl
  · show _ = Int32.ofInt (b01 (x < y))
    repeat (first | refine h_pos (by decide) ?_ | refine h_neg (by decide) ?_)
    simp (disch := omega) only [lc_ge, b01]
    (repeat' split) <;> first | rfl | omega | contradiction
  · show _ = Int32.ofInt (b01 (x ≤ y))
    repeat (first | refine h_pos (by decide) ?_ | refine h_neg (by decide) ?_)
    simp (disch := omega) only [lc_gt, b01]
    (repeat' split) <;> first | rfl | omega | contradiction
  · show _ = Int32.ofInt (b01 (y < x))
    repeat (first | refine h_pos (by decide) ?_ | refine h_neg (by decide) ?_)
    simp (disch := omega) only [lc_le, b01]
    (repeat' split) <;> first | rfl | omega | contradiction
  · show _ = Int32.ofInt (b01 (y ≤ x))
    repeat (first | refine h_pos (by decide) ?_ | refine h_neg (by decide) ?_)
    simp (disch := omega) only [lc_lt, b01]
    (repeat' split) <;> first | rfl | omega | contradiction
  · show _ = Int32.ofInt (b01 (x = y))
    repeat (first | refine h_pos (by decide) ?_ | refine h_neg (by decide) ?_)
    simp (disch := omega) only [lc_eq, b01]
    (repeat' split) <;> first | rfl | omega | contradiction
  · show _ = Int32.ofInt (b01 (x ≠ y))
    repeat (first | refine h_pos (by decide) ?_ | refine h_neg (by decide) ?_)
    simp (disch := omega) only [lc_eq, b01]
    (repeat' split) <;> first | rfl | omega | contradiction
theorem r_joined {op x y : Int} (ho : op = 21 ∨ op = 22) (hx : x = 0 ∨ x = 1) (hy : y = 0 ∨ y = 1) : fX12_joined (Int32.ofInt op) (Int32.ofInt x) (Int32.ofInt y) = Int32.ofInt (if op = 21 then min x y else max x y) := by
  rcases ho with rfl | rfl <;> rcases hx with rfl | rfl <;> rcases hy with rfl | rfl <;> rfl
/-- values in 272, truths in 273 -/
def rQ (S : yS) (f : Nat → Int64) (g : Nat → Int32) : yS := ySa (ySl S 272 f) 273 g
theorem rQ_l (S : yS) (f f' : Nat → Int64) (g : Nat → Int32) : ySl (rQ S f g) 272 f' = rQ S f' g := by
  have : yU (yU S.2.2.2.1 272 f) 272 f' = yU S.2.2.2.1 272 f' := by
    funext j
    unfold yU
    by_cases h : j = 272
    · rw [if_pos h, if_pos h]
    · rw [if_neg h, if_neg h, if_neg h]
  show (S.1, S.2.1, yU S.2.2.1 273 g, yU (yU S.2.2.2.1 272 f) 272 f', S.2.2.2.2) = _
  rw [this]
  rfl
theorem rQ_a (S : yS) (f : Nat → Int64) (g g' : Nat → Int32) : ySa (rQ S f g) 273 g' = rQ S f g' := ySa_ySa _ _ _ _
theorem rQ_272 (S : yS) (f : Nat → Int64) (g : Nat → Int32) : (rQ S f g).2.2.2.1 272 = f := ySl_at S 272 f
theorem rQ_273 (S : yS) (f : Nat → Int64) (g : Nat → Int32) : (rQ S f g).2.2.1 273 = g := ySa_at _ 273 g
theorem rQ_a0 (S : yS) (f : Nat → Int64) (g : Nat → Int32) {i : Nat} (h : i ≠ 273) : (rQ S f g).2.2.1 i = S.2.2.1 i := ySa_ne _ g h
theorem rQ_self (S : yS) : rQ S (S.2.2.2.1 272) (S.2.2.1 273) = S := by
  unfold rQ
  rw [ySl_self]
  exact ySa_self S 273
section RRUN
variable {N : Nat} {s t x : Nat} {S : yS} {E : eV}
set_option maxHeartbeats 2000000 in
theorem rRun_step (hE : eG E) (hC : eRf s S E) (ht : t < 4) (hx : x < 2700) {e : Nat} (hend : S.2.2.1 268 (x + 2) = Int32.ofInt e) (he : e ≤ 303) {i j : Nat} (hi : i < e) {vs vs' ts ts' : List Int} (hlen : vs.length ≤ i) (hlen2 : ts.length ≤ i) (hb : bd6 vs) (hbt : ∀ b ∈ ts, b = 0 ∨ b = 1) {f : Nat → Int64} {g : Nat → Int32} (hp : plL f vs) (hq : plS g ts) (h : rst s (fun k => (rv S 268 (681 * t + 73 + 2 * k), rv S 268 (681 * t + 73 + 2 * k + 1))) E (i, vs, ts) = some (j, vs', ts')) : ∃ f' g', plL f' vs' ∧ plS g' ts' ∧ ∀ n, lX12_summedUp N (n + 1) (Int32.ofInt x) (Int32.ofInt (681 * t + 73 : Nat)) (Int32.ofInt vs.length) (Int32.ofInt ts.length) (Int32.ofInt i) (rQ S f g) = lX12_summedUp N n (Int32.ofInt x) (Int32.ofInt (681 * t + 73 : Nat)) (Int32.ofInt vs'.length) (Int32.ofInt ts'.length) (Int32.ofInt j) (rQ S f' g') := by
  have R8 : ∀ f g k, (rQ S f g).2.2.1 268 k = Int32.ofInt (rv S 268 k) := fun f g k => rv_eq S 268 k
  have he2 : rv S 268 (x + 2) = e := by unfold rv; rw [hend, i_toInt (by omega) (by omega)]
  have o1 := rv_ge S 268 (681 * t + 73 + 2 * i)
  have o2 := rv_lt S 268 (681 * t + 73 + 2 * i)
  have a1 := rv_ge S 268 (681 * t + 73 + 2 * i + 1)
  have a2 := rv_lt S 268 (681 * t + 73 + 2 * i + 1)
  have hC' : ∀ f g, eRf s (rQ S f g) E := fun f g => hC
  have c1 : ((x : Nat) : Int) + 2 = ((x + 2 : Nat) : Int) := by omega
  have c2 : ((681 * t + 73 : Nat) : Int) + 2 * (i : Int) = ((681 * t + 73 + 2 * i : Nat) : Int) := by omega
  have c3 : ((681 * t + 73 + 2 * i : Nat) : Int) + 1 = ((681 * t + 73 + 2 * i + 1 : Nat) : Int) := by omega
  have hcd : (fun k => (rv S 268 (681 * t + 73 + 2 * k), rv S 268 (681 * t + 73 + 2 * k + 1))) i = (rv S 268 (681 * t + 73 + 2 * i), rv S 268 (681 * t + 73 + 2 * i + 1)) := rfl
  generalize (fun k => (rv S 268 (681 * t + 73 + 2 * k), rv S 268 (681 * t + 73 + 2 * k + 1))) = cd at h hcd
  generalize hop : rv S 268 (681 * t + 73 + 2 * i) = op at hcd o1 o2
  generalize har : rv S 268 (681 * t + 73 + 2 * i + 1) = ar at hcd a1 a2
  unfold rst at h
  dsimp only at h
  rw [hcd] at h
  dsimp only at h
  split at h
  · rename_i hc
    split at h
    · rename_i hr
      cases h
      refine ⟨vp_updL f vs.length (Int64.ofInt ar), g, plL_put hp, hq, fun n => ?_⟩
      rw [lX12_summedUp]
      simp only [R8, rQ_272, rQ_273, i_add, i_mul, c1, c2, c3]
      refine h_ainN (by omega) (by omega) ?_
      rw [he2]
      refine h_neg (by first | omega | ((simp (disch := omega) only [i0, i1, i_lt, i_le, i_eq, i_add, i_sub, i_mul, i_neg, i_ofNat, i_rem, i_div, w_in, w_in2, w_cnt, w_cnt2, z01, z01', il, li, lc_ge, lc_le, lc_gt, lc_lt, lc_eq, l_ofNat, l0, l_eq, l_lt, l_le]) <;> omega)) ?_
      refine h_ainN (by omega) (by omega) (h_ainN (by omega) (by omega) ?_)
      rw [hop, har, hc]
      refine h_neg (by decide) (h_neg (by decide) ?_)
      refine h_ainN (by omega) (by omega) (h_pst ?_)
      rw [il a1 a2, rQ_l, List.length_cons]
      rfl
    · cases h
  · rename_i hc0
    split at h
    · rename_i hc
      split at h
      · rename_i hr
        have hr2 := hr
        unfold okN at hr2
        have hr2 := of_decide_eq_true hr2
        cases h
        have hn := hC.1 ar hr
        have hEb := hE.1 ar.toNat
        refine ⟨vp_updL f vs.length (Int64.ofInt (E ar.toNat)), g, plL_put hp, hq, fun n => ?_⟩
        rw [lX12_summedUp]
        simp only [R8, rQ_272, rQ_273, i_add, i_mul, c1, c2, c3]
        refine h_ainN (by omega) (by omega) ?_
        rw [he2]
        refine h_neg (by first | omega | ((simp (disch := omega) only [i0, i1, i_lt, i_le, i_eq, i_add, i_sub, i_mul, i_neg, i_ofNat, i_rem, i_div, w_in, w_in2, w_cnt, w_cnt2, z01, z01', il, li, lc_ge, lc_le, lc_gt, lc_lt, lc_eq, l_ofNat, l0, l_eq, l_lt, l_le]) <;> omega)) ?_
        refine h_ainN (by omega) (by omega) (h_ainN (by omega) (by omega) ?_)
        rw [hop, har, hc]
        refine h_neg (by decide) (h_pos (by decide) ?_)
        refine h_ain (by omega) (by omega) (by omega) ?_
        refine h_ainN (by omega) (by omega) (h_pst ?_)
        rw [rQ_a0 S f g (by decide), hn, il (by omega) (by omega), rQ_l, List.length_cons]
        rfl
      · cases h
    · rename_i hc1
      split at h
      · rename_i hc
        split at h
        · rename_i y x' r b tl
          simp only [List.length_cons] at hlen hlen2
          have p1 := hp.1
          have q1 := hq.1
          simp only [List.length_cons] at p1
          have e1 : ((r.length + 1 + 1 : Nat) : Int) + -1 = ((r.length + 1 : Nat) : Int) := by omega
          have e2 : ((r.length + 1 : Nat) : Int) - 1 = (r.length : Int) := by omega
          have e3 : ((tl.length + 1 : Nat) : Int) + -1 = (tl.length : Int) := by omega
          cases h
          refine ⟨if b = 0 then vp_updL f r.length (Int64.ofInt y) else f, g, ?_, hq.2, fun n => ?_⟩
          · by_cases hb0 : b = 0
            · rw [if_pos hb0, if_pos hb0]; exact plL_put hp.2.2
            · rw [if_neg hb0, if_neg hb0]; exact hp.2
          rw [lX12_summedUp]
          simp only [R8, rQ_272, rQ_273, i_add, i_sub, i_mul, c1, c2, c3, List.length_cons, e1, e2, e3]
          refine h_ainN (by omega) (by omega) ?_
          rw [he2]
          refine h_neg (by first | omega | ((simp (disch := omega) only [i0, i1, i_lt, i_le, i_eq, i_add, i_sub, i_mul, i_neg, i_ofNat, i_rem, i_div, w_in, w_in2, w_cnt, w_cnt2, z01, z01', il, li, lc_ge, lc_le, lc_gt, lc_lt, lc_eq, l_ofNat, l0, l_eq, l_lt, l_le]) <;> omega)) ?_
          refine h_ainN (by omega) (by omega) (h_ainN (by omega) (by omega) ?_)
          rw [hop, har, hc]
          refine h_pos (by decide) (h_neg (by decide) ?_)
          refine h_ainN (by omega) (by omega) ?_
          rw [q1]
          have hb01 := hbt b (List.mem_cons_self)
          by_cases hb0 : b = 0
          · rw [if_pos hb0]
            refine h_neg (by first | omega | ((simp (disch := omega) only [i0, i1, i_lt, i_le, i_eq, i_add, i_sub, i_mul, i_neg, i_ofNat, i_rem, i_div, w_in, w_in2, w_cnt, w_cnt2, z01, z01', il, li, lc_ge, lc_le, lc_gt, lc_lt, lc_eq, l_ofNat, l0, l_eq, l_lt, l_le]) <;> omega)) ?_
            refine h_ainN (by omega) (by omega) (h_ainN (by omega) (by omega) (h_pst ?_))
            rw [p1, rQ_l]
            rfl
          · rw [if_neg hb0]
            exact h_pos (by first | omega | ((simp (disch := omega) only [i0, i1, i_lt, i_le, i_eq, i_add, i_sub, i_mul, i_neg, i_ofNat, i_rem, i_div, w_in, w_in2, w_cnt, w_cnt2, z01, z01', il, li, lc_ge, lc_le, lc_gt, lc_lt, lc_eq, l_ofNat, l0, l_eq, l_lt, l_le]) <;> omega)) rfl
        · cases h
      · rename_i hc3
        split at h
        · rename_i hc
          split at h
          · cases h
          · rename_i v r
            cases h
            simp only [List.length_cons] at hlen
            have hb2 := (bd6_cons.mp hb).1
            have e2 : ((r.length + 1 : Nat) : Int) - 1 = (r.length : Int) := by omega
            refine ⟨vp_updL f r.length (Int64.ofInt (one1 (oneO op) E v)), g, plL_put hp.2, hq, fun n => ?_⟩
            rw [lX12_summedUp]
            simp only [R8, rQ_272, rQ_273, i_add, i_sub, i_mul, c1, c2, c3, List.length_cons, e2]
            refine h_ainN (by omega) (by omega) ?_
            rw [he2]
            refine h_neg (by first | omega | ((simp (disch := omega) only [i0, i1, i_lt, i_le, i_eq, i_add, i_sub, i_mul, i_neg, i_ofNat, i_rem, i_div, w_in, w_in2, w_cnt, w_cnt2, z01, z01', il, li, lc_ge, lc_le, lc_gt, lc_lt, lc_eq, l_ofNat, l0, l_eq, l_lt, l_le]) <;> omega)) ?_
            refine h_ainN (by omega) (by omega) (h_ainN (by omega) (by omega) ?_)
            simp only [hop, har]
            refine h_pos (by first | omega | ((simp (disch := omega) only [i0, i1, i_lt, i_le, i_eq, i_add, i_sub, i_mul, i_neg, i_ofNat, i_rem, i_div, w_in, w_in2, w_cnt, w_cnt2, z01, z01', il, li, lc_ge, lc_le, lc_gt, lc_lt, lc_eq, l_ofNat, l0, l_eq, l_lt, l_le]) <;> omega)) (h_pos (by first | omega | ((simp (disch := omega) only [i0, i1, i_lt, i_le, i_eq, i_add, i_sub, i_mul, i_neg, i_ofNat, i_rem, i_div, w_in, w_in2, w_cnt, w_cnt2, z01, z01', il, li, lc_ge, lc_le, lc_gt, lc_lt, lc_eq, l_ofNat, l0, l_eq, l_lt, l_le]) <;> omega)) (h_neg (by first | omega | ((simp (disch := omega) only [i0, i1, i_lt, i_le, i_eq, i_add, i_sub, i_mul, i_neg, i_ofNat, i_rem, i_div, w_in, w_in2, w_cnt, w_cnt2, z01, z01', il, li, lc_ge, lc_le, lc_gt, lc_lt, lc_eq, l_ofNat, l0, l_eq, l_lt, l_le]) <;> omega)) ?_))
            refine h_ainN (by omega) (by omega) ?_
            rw [hp.1]
            refine h_bind (eRf_one (hC' f g) hE hc hb2) ?_
            refine h_ainN (by omega) (by omega) (h_pst ?_)
            rw [rQ_l]
            rfl
        · rename_i hc5
          split at h
          · rename_i hc
            split at h
            · rename_i y x' r
              simp only [List.length_cons] at hlen
              have hb2 := (bd6_cons.mp hb).1
              have hb3 := (bd6_cons.mp (bd6_cons.mp hb).2).1
              have p1 := hp.1
              simp only [List.length_cons] at p1
              have e1 : ((r.length + 1 + 1 : Nat) : Int) + -1 = ((r.length + 1 : Nat) : Int) := by omega
              have e2 : ((r.length + 1 : Nat) : Int) - 1 = (r.length : Int) := by omega
              cases h
              refine ⟨vp_updL f r.length (Int64.ofInt (two1 (op + 23) x' y)), g, plL_put hp.2.2, hq, fun n => ?_⟩
              rw [lX12_summedUp]
              simp only [R8, rQ_272, rQ_273, i_add, i_sub, i_mul, c1, c2, c3, List.length_cons, e1, e2]
              refine h_ainN (by omega) (by omega) ?_
              rw [he2]
              refine h_neg (by first | omega | ((simp (disch := omega) only [i0, i1, i_lt, i_le, i_eq, i_add, i_sub, i_mul, i_neg, i_ofNat, i_rem, i_div, w_in, w_in2, w_cnt, w_cnt2, z01, z01', il, li, lc_ge, lc_le, lc_gt, lc_lt, lc_eq, l_ofNat, l0, l_eq, l_lt, l_le]) <;> omega)) ?_
              refine h_ainN (by omega) (by omega) (h_ainN (by omega) (by omega) ?_)
              simp only [hop, har]
              refine h_pos (by first | omega | ((simp (disch := omega) only [i0, i1, i_lt, i_le, i_eq, i_add, i_sub, i_mul, i_neg, i_ofNat, i_rem, i_div, w_in, w_in2, w_cnt, w_cnt2, z01, z01', il, li, lc_ge, lc_le, lc_gt, lc_lt, lc_eq, l_ofNat, l0, l_eq, l_lt, l_le]) <;> omega)) (h_pos (by first | omega | ((simp (disch := omega) only [i0, i1, i_lt, i_le, i_eq, i_add, i_sub, i_mul, i_neg, i_ofNat, i_rem, i_div, w_in, w_in2, w_cnt, w_cnt2, z01, z01', il, li, lc_ge, lc_le, lc_gt, lc_lt, lc_eq, l_ofNat, l0, l_eq, l_lt, l_le]) <;> omega)) (h_pos (by first | omega | ((simp (disch := omega) only [i0, i1, i_lt, i_le, i_eq, i_add, i_sub, i_mul, i_neg, i_ofNat, i_rem, i_div, w_in, w_in2, w_cnt, w_cnt2, z01, z01', il, li, lc_ge, lc_le, lc_gt, lc_lt, lc_eq, l_ofNat, l0, l_eq, l_lt, l_le]) <;> omega)) (h_neg (by first | omega | ((simp (disch := omega) only [i0, i1, i_lt, i_le, i_eq, i_add, i_sub, i_mul, i_neg, i_ofNat, i_rem, i_div, w_in, w_in2, w_cnt, w_cnt2, z01, z01', il, li, lc_ge, lc_le, lc_gt, lc_lt, lc_eq, l_ofNat, l0, l_eq, l_lt, l_le]) <;> omega)) ?_)))
              refine h_ainN (by omega) (by omega) (h_ainN (by omega) (by omega) ?_)
              rw [p1, hp.2.1]
              refine h_bind (r_two hc hb3 hb2) ?_
              refine h_ainN (by omega) (by omega) (h_pst ?_)
              rw [rQ_l]
              rfl
            · cases h
          · rename_i hc6
            split at h
            · rename_i hc
              split at h
              · rename_i y x' r
                simp only [List.length_cons] at hlen
                have hb2 := (bd6_cons.mp hb).1
                have hb3 := (bd6_cons.mp (bd6_cons.mp hb).2).1
                have p1 := hp.1
                simp only [List.length_cons] at p1
                have e1 : ((r.length + 1 + 1 : Nat) : Int) + -2 = (r.length : Int) := by omega
                have e2 : (r.length : Int) + 1 = ((r.length + 1 : Nat) : Int) := by omega
                cases h
                have h01 := two1_01 (op := cmpO op) (x := x') (y := y) (cmpO_ne _)
                refine ⟨f, upd g ts.length (Int32.ofInt (two1 (cmpO op) x' y)), hp.2.2, plS_put hq, fun n => ?_⟩
                rw [lX12_summedUp]
                simp only [R8, rQ_272, rQ_273, i_add, i_sub, i_mul, c1, c2, c3, List.length_cons, e1, e2]
                refine h_ainN (by omega) (by omega) ?_
                rw [he2]
                refine h_neg (by first | omega | ((simp (disch := omega) only [i0, i1, i_lt, i_le, i_eq, i_add, i_sub, i_mul, i_neg, i_ofNat, i_rem, i_div, w_in, w_in2, w_cnt, w_cnt2, z01, z01', il, li, lc_ge, lc_le, lc_gt, lc_lt, lc_eq, l_ofNat, l0, l_eq, l_lt, l_le]) <;> omega)) ?_
                refine h_ainN (by omega) (by omega) (h_ainN (by omega) (by omega) ?_)
                simp only [hop, har]
                refine h_pos (by first | omega | ((simp (disch := omega) only [i0, i1, i_lt, i_le, i_eq, i_add, i_sub, i_mul, i_neg, i_ofNat, i_rem, i_div, w_in, w_in2, w_cnt, w_cnt2, z01, z01', il, li, lc_ge, lc_le, lc_gt, lc_lt, lc_eq, l_ofNat, l0, l_eq, l_lt, l_le]) <;> omega)) (h_pos (by first | omega | ((simp (disch := omega) only [i0, i1, i_lt, i_le, i_eq, i_add, i_sub, i_mul, i_neg, i_ofNat, i_rem, i_div, w_in, w_in2, w_cnt, w_cnt2, z01, z01', il, li, lc_ge, lc_le, lc_gt, lc_lt, lc_eq, l_ofNat, l0, l_eq, l_lt, l_le]) <;> omega)) (h_pos (by first | omega | ((simp (disch := omega) only [i0, i1, i_lt, i_le, i_eq, i_add, i_sub, i_mul, i_neg, i_ofNat, i_rem, i_div, w_in, w_in2, w_cnt, w_cnt2, z01, z01', il, li, lc_ge, lc_le, lc_gt, lc_lt, lc_eq, l_ofNat, l0, l_eq, l_lt, l_le]) <;> omega)) (h_pos (by first | omega | ((simp (disch := omega) only [i0, i1, i_lt, i_le, i_eq, i_add, i_sub, i_mul, i_neg, i_ofNat, i_rem, i_div, w_in, w_in2, w_cnt, w_cnt2, z01, z01', il, li, lc_ge, lc_le, lc_gt, lc_lt, lc_eq, l_ofNat, l0, l_eq, l_lt, l_le]) <;> omega)) (h_neg (by first | omega | ((simp (disch := omega) only [i0, i1, i_lt, i_le, i_eq, i_add, i_sub, i_mul, i_neg, i_ofNat, i_rem, i_div, w_in, w_in2, w_cnt, w_cnt2, z01, z01', il, li, lc_ge, lc_le, lc_gt, lc_lt, lc_eq, l_ofNat, l0, l_eq, l_lt, l_le]) <;> omega)) ?_))))
                refine h_ainN (by omega) (by omega) (h_ainN (by omega) (by omega) (h_ainN (by omega) (by omega) ?_))
                rw [p1, hp.2.1, r_asked hc hb3 hb2]
                refine h_pos (by rcases h01 with e | e <;> rw [e] <;> decide) (h_pst ?_)
                rw [rQ_a]
                rfl
              · cases h
            · rename_i hc10
              split at h
              · rename_i hc
                split at h
                · cases h
                · rename_i b tl
                  split at h
                  · rename_i hb01
                    cases h
                    simp only [List.length_cons] at hlen2
                    have e3 : ((tl.length + 1 : Nat) : Int) - 1 = (tl.length : Int) := by omega
                    refine ⟨f, upd g tl.length (Int32.ofInt (1 - b)), hp, plS_put hq.2, fun n => ?_⟩
                    rw [lX12_summedUp]
                    simp only [R8, rQ_272, rQ_273, i_add, i_sub, i_mul, c1, c2, c3, List.length_cons, e3]
                    refine h_ainN (by omega) (by omega) ?_
                    rw [he2]
                    refine h_neg (by first | omega | ((simp (disch := omega) only [i0, i1, i_lt, i_le, i_eq, i_add, i_sub, i_mul, i_neg, i_ofNat, i_rem, i_div, w_in, w_in2, w_cnt, w_cnt2, z01, z01', il, li, lc_ge, lc_le, lc_gt, lc_lt, lc_eq, l_ofNat, l0, l_eq, l_lt, l_le]) <;> omega)) ?_
                    refine h_ainN (by omega) (by omega) (h_ainN (by omega) (by omega) ?_)
                    rw [hop, har, hc]
                    refine h_pos (by decide) (h_pos (by decide) (h_pos (by decide) (h_pos (by decide) (h_pos (by decide) (h_neg (by decide) ?_)))))
                    refine h_ainN (by omega) (by omega) ?_
                    rw [hq.1]
                    rcases hb01 with rfl | rfl
                    · refine h_neg (by decide) ?_
                      refine h_ainN (by omega) (by omega) (h_pos (by decide) (h_pst ?_))
                      rw [rQ_a]
                      rfl
                    · refine h_pos (by decide) ?_
                      refine h_ainN (by omega) (by omega) (h_pos (by decide) (h_pst ?_))
                      rw [rQ_a]
                      rfl
                  · cases h
              · rename_i hc20
                split at h
                · rename_i hc
                  split at h
                  · rename_i y x' tl
                    split at h
                    · rename_i hxy
                      cases h
                      simp only [List.length_cons] at hlen2
                      have q1 := hq.1
                      simp only [List.length_cons] at q1
                      have e1 : ((tl.length + 1 + 1 : Nat) : Int) + -1 = ((tl.length + 1 : Nat) : Int) := by omega
                      have e2 : ((tl.length + 1 : Nat) : Int) - 1 = (tl.length : Int) := by omega
                      refine ⟨f, upd g tl.length (Int32.ofInt (if op = 21 then min x' y else max x' y)), hp, plS_put hq.2.2, fun n => ?_⟩
                      rw [lX12_summedUp]
                      simp only [R8, rQ_272, rQ_273, i_add, i_sub, i_mul, c1, c2, c3, List.length_cons, e1, e2]
                      refine h_ainN (by omega) (by omega) ?_
                      rw [he2]
                      refine h_neg (by first | omega | ((simp (disch := omega) only [i0, i1, i_lt, i_le, i_eq, i_add, i_sub, i_mul, i_neg, i_ofNat, i_rem, i_div, w_in, w_in2, w_cnt, w_cnt2, z01, z01', il, li, lc_ge, lc_le, lc_gt, lc_lt, lc_eq, l_ofNat, l0, l_eq, l_lt, l_le]) <;> omega)) ?_
                      refine h_ainN (by omega) (by omega) (h_ainN (by omega) (by omega) ?_)
                      simp only [hop, har]
                      refine h_pos (by first | omega | ((simp (disch := omega) only [i0, i1, i_lt, i_le, i_eq, i_add, i_sub, i_mul, i_neg, i_ofNat, i_rem, i_div, w_in, w_in2, w_cnt, w_cnt2, z01, z01', il, li, lc_ge, lc_le, lc_gt, lc_lt, lc_eq, l_ofNat, l0, l_eq, l_lt, l_le]) <;> omega)) (h_pos (by first | omega | ((simp (disch := omega) only [i0, i1, i_lt, i_le, i_eq, i_add, i_sub, i_mul, i_neg, i_ofNat, i_rem, i_div, w_in, w_in2, w_cnt, w_cnt2, z01, z01', il, li, lc_ge, lc_le, lc_gt, lc_lt, lc_eq, l_ofNat, l0, l_eq, l_lt, l_le]) <;> omega)) (h_pos (by first | omega | ((simp (disch := omega) only [i0, i1, i_lt, i_le, i_eq, i_add, i_sub, i_mul, i_neg, i_ofNat, i_rem, i_div, w_in, w_in2, w_cnt, w_cnt2, z01, z01', il, li, lc_ge, lc_le, lc_gt, lc_lt, lc_eq, l_ofNat, l0, l_eq, l_lt, l_le]) <;> omega)) (h_pos (by first | omega | ((simp (disch := omega) only [i0, i1, i_lt, i_le, i_eq, i_add, i_sub, i_mul, i_neg, i_ofNat, i_rem, i_div, w_in, w_in2, w_cnt, w_cnt2, z01, z01', il, li, lc_ge, lc_le, lc_gt, lc_lt, lc_eq, l_ofNat, l0, l_eq, l_lt, l_le]) <;> omega)) (h_pos (by first | omega | ((simp (disch := omega) only [i0, i1, i_lt, i_le, i_eq, i_add, i_sub, i_mul, i_neg, i_ofNat, i_rem, i_div, w_in, w_in2, w_cnt, w_cnt2, z01, z01', il, li, lc_ge, lc_le, lc_gt, lc_lt, lc_eq, l_ofNat, l0, l_eq, l_lt, l_le]) <;> omega)) (h_pos (by first | omega | ((simp (disch := omega) only [i0, i1, i_lt, i_le, i_eq, i_add, i_sub, i_mul, i_neg, i_ofNat, i_rem, i_div, w_in, w_in2, w_cnt, w_cnt2, z01, z01', il, li, lc_ge, lc_le, lc_gt, lc_lt, lc_eq, l_ofNat, l0, l_eq, l_lt, l_le]) <;> omega)) ?_)))))
                      refine h_ainN (by omega) (by omega) (h_ainN (by omega) (by omega) (h_ainN (by omega) (by omega) ?_))
                      rw [q1, hq.2.1, r_joined hc hxy.2 hxy.1]
                      refine h_pos (by rcases hxy with ⟨rfl | rfl, rfl | rfl⟩ <;> rcases hc with rfl | rfl <;> decide) (h_pst ?_)
                      rw [rQ_a]
                      rfl
                    · cases h
                  · cases h
                · cases h
theorem rst_itr (hE : eG E) {cd : Nat → Int × Int} : ∀ (c i j : Nat) (vs ts vs' ts' : List Int), itr (rst s cd E) c (i, vs, ts) = some (j, vs', ts') → bd6 vs → (∀ b ∈ ts, b = 0 ∨ b = 1) → j = i + c ∧ bd6 vs'
  | 0, i, j, vs, ts, vs', ts', h, hb, _ => by cases h; exact ⟨rfl, hb⟩
  | c + 1, i, j, vs, ts, vs', ts', h, hb, ht => by
    unfold itr at h
    obtain ⟨⟨i2, vs2, ts2⟩, h1, h2⟩ := Option.bind_eq_some_iff.mp h
    obtain ⟨b1, b2, b3, b4, b5⟩ := rst_bd hE h1 hb ht
    have := rst_itr hE c i2 j vs2 ts2 vs' ts' h2 b1 b2
    exact ⟨by omega, this.2⟩
theorem rRun_itr (hE : eG E) (hC : eRf s S E) (ht : t < 4) (hx : x < 2700) {e : Nat} (hend : S.2.2.1 268 (x + 2) = Int32.ofInt e) (he : e ≤ 303) : ∀ (c i j : Nat) (vs ts vs' ts' : List Int) (f : Nat → Int64) (g : Nat → Int32), itr (rst s (fun k => (rv S 268 (681 * t + 73 + 2 * k), rv S 268 (681 * t + 73 + 2 * k + 1))) E) c (i, vs, ts) = some (j, vs', ts') → j ≤ e → vs.length ≤ i → ts.length ≤ i → bd6 vs → (∀ b ∈ ts, b = 0 ∨ b = 1) → plL f vs → plS g ts → ∃ f' g', plL f' vs' ∧ plS g' ts' ∧ ∀ n, lX12_summedUp N (n + c) (Int32.ofInt x) (Int32.ofInt (681 * t + 73 : Nat)) (Int32.ofInt vs.length) (Int32.ofInt ts.length) (Int32.ofInt i) (rQ S f g) = lX12_summedUp N n (Int32.ofInt x) (Int32.ofInt (681 * t + 73 : Nat)) (Int32.ofInt vs'.length) (Int32.ofInt ts'.length) (Int32.ofInt j) (rQ S f' g')
  | 0, i, j, vs, ts, vs', ts', f, g, h, hj, _, _, _, _, hp, hq => by cases h; exact ⟨f, g, hp, hq, fun n => rfl⟩
  | c + 1, i, j, vs, ts, vs', ts', f, g, h, hj, hv, hts, hb, hbt, hp, hq => by
    unfold itr at h
    obtain ⟨⟨i2, vs2, ts2⟩, h1, h2⟩ := Option.bind_eq_some_iff.mp h
    obtain ⟨b1, b2, b3, b4, b5⟩ := rst_bd hE h1 hb hbt
    have hle := rst_itr hE c i2 j vs2 ts2 vs' ts' h2 b1 b2
    obtain ⟨f2, g2, p2, q2, s2⟩ := rRun_step (N := N) hE hC ht hx hend he (by omega : i < e) hv hts hb hbt hp hq h1
    obtain ⟨f3, g3, p3, q3, s3⟩ := rRun_itr hE hC ht hx hend he c i2 j vs2 ts2 vs' ts' f2 g2 h2 hj (by omega) (by omega) b1 b2 p2 q2
    exact ⟨f3, g3, p3, q3, fun n => by rw [show n + (c + 1) = (n + c) + 1 by omega, s2, s3]⟩
theorem rRun_val (hE : eG E) (hC : eRf s S E) (ht : t < 4) {k : Nat} (hk : k < 24) {i j : Nat} (hi : S.2.2.1 268 (681 * t + 1 + 3 * k + 1) = Int32.ofInt i) (hj : S.2.2.1 268 (681 * t + 1 + 3 * k + 2) = Int32.ofInt j) (he : j ≤ 303) {w : eV → Int} (h : frV s (fun k => (rv S 268 (681 * t + 73 + 2 * k), rv S 268 (681 * t + 73 + 2 * k + 1))) i j w) (hN : 400 ≤ N) : ∃ f' g', fX12_summedUp N (Int32.ofInt t) (Int32.ofInt k) S = some (Int64.ofInt (w E), rQ S f' g') := by
  obtain ⟨hij, h⟩ := h
  have h := h E hE [] []
  have hb0 : bd6 [] := fun v hv => by cases hv
  obtain ⟨f', g', p', q', s'⟩ := rRun_itr (N := N) (x := 681 * t + 1 + 3 * k) hE hC ht (by omega) hj he (j - i) i j [] [] [w E] [] (S.2.2.2.1 272) (S.2.2.1 273) h (Nat.le_refl _) (by simp) (by simp) hb0 (by simp) trivial trivial
  refine ⟨f', g', ?_⟩
  unfold fX12_summedUp
  refine h_pst (h_pst ?_)
  simp only [i_add, i_mul]
  rw [show (681 * (t : Int) + 1 + 3 * (k : Int)) = ((681 * t + 1 + 3 * k : Nat) : Int) by omega, show (681 * (t : Int) + 73) = ((681 * t + 73 : Nat) : Int) by omega, show (((681 * t + 1 + 3 * k : Nat) : Int) + 1) = ((681 * t + 1 + 3 * k + 1 : Nat) : Int) by omega]
  refine h_ainN (by omega) (by omega) ?_
  rw [hi]
  have s2 := s' (N - (j - i))
  rw [show N - (j - i) + (j - i) = N by omega, rQ_self] at s2
  refine s2.trans ?_
  rw [show N - (j - i) = (N - (j - i) - 1) + 1 by omega, lX12_summedUp]
  simp only [i_add]
  rw [show (((681 * t + 1 + 3 * k : Nat) : Int) + 2) = ((681 * t + 1 + 3 * k + 2 : Nat) : Int) by omega]
  refine h_ainN (by omega) (by omega) ?_
  rw [rQ_a0 S f' g' (by decide), hj]
  refine h_pos (by first | omega | ((simp (disch := omega) only [i0, i1, i_lt, i_le, i_eq, i_add, i_sub, i_mul, i_neg, i_ofNat, i_rem, i_div, w_in, w_in2, w_cnt, w_cnt2, z01, z01', il, li, lc_ge, lc_le, lc_gt, lc_lt, lc_eq, l_ofNat, l0, l_eq, l_lt, l_le]) <;> omega)) ?_
  rw [rQ_272, show f' 0 = Int64.ofInt (w E) from p'.1]
end RRUN
