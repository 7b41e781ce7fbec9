/-! ===== a law read by both; figures ===== -/
section LAW
variable {f : Nat → Int} {n t s N M : Nat} {pl : Nat → Int}
theorem law_step (hN : 2000000 ≤ N) (ht4 : t < 4) (hs : s ≤ 1) (hn : n ≤ 300) (hM : M ≤ n) (hMe : psT f n M = n) (hg : tkG (kdT f n) (vlT f n) M) {S : yS} {k z r : Nat} {c : Nat → Int × Int} (ht : tkC S (kdT f n) (vlT f n) pl M) (hc : cS S k z) (hG : gC s S) (hk : k ≤ M) (hz : z ≤ k) (hr : r ≤ k) : ∃ S1, rd N 200 0 0 (Int32.ofInt 0) S = some S1 ∧ Fr S S1 ∧ ((∃ (e : Int) (kf : Nat), (1 ≤ e ∧ e ≤ 5) ∧ kf ≤ M ∧ cB S1 M e (pl kf) ∧ ∀ Sr, rS Sr f n t s (k, false, [], 0, c, r) → ∃ Sr', lX12_summed N N Sr = some (Int32.ofInt e, Sr') ∧ atT Sr' f n kf ∧ Fu t r Sr Sr') ∨ (∃ (k' z' r' : Nat) (c' : Nat → Int × Int) (w : eV → Int), k < k' ∧ k' ≤ M ∧ cS S1 k' z' ∧ z' + k ≤ z + k' ∧ (∀ j, j < z → cdX S1 j = cdX S j) ∧ frC s (cdX S1) z z' w ∧ r ≤ r' ∧ r' ≤ k' ∧ (∀ j, j < r → c' j = c j) ∧ frV s c' r r' w ∧ ∀ Sr, rS Sr f n t s (k, false, [], 0, c, r) → ∃ Sr', lX12_summed N N Sr = some (Int32.ofInt 0, Sr') ∧ atT Sr' f n k' ∧ Fu t r Sr Sr' ∧ Sr'.1 265 13 = Int32.ofInt (r' : Int) ∧ ∀ j, j < r' → cdR Sr' t j = c' j)) := by
  have hM3 := hg.1
  obtain ⟨S1, a1, a2, a3⟩ := (rd_all (pl := pl) hg hN hs 200).1 0 S k z [] c r (by omega) (by omega) hk hz ht hc hG ⟨by show (0 : Int) < 5; omega, Or.inr (fun q => absurd q.1 (by decide))⟩
  have iv : inv (k, false, [], 0, c, r) := ⟨trivial, rfl, by show (0 : Int) ≤ 8; omega, by show r + 0 ≤ k; omega⟩
  refine ⟨S1, a1, a2, ?_⟩
  rcases a3 with a3 | a3
  · obtain ⟨e, X', b1, ⟨cn, b2⟩, b3, b4, b5⟩ := a3
    have b2 : itr (uO s (kdT f n) (vlT f n)) cn (k, false, [], 0, c, r) = some X' := b2
    obtain ⟨u1, u2⟩ := rch_uR cn _ X' b2 (by omega)
    have hX : (uS s (kdT f n) (vlT f n) X').2 = X' := by
      obtain ⟨xk, xw, Z⟩ := X'
      cases xw with
      | false =>
        rw [uS_f] at b3 ⊢
        exact (bgn_f (by omega)).2.2
      | true =>
        rw [uS_t] at b3 ⊢
        unfold bhd at b3 ⊢
        dsimp only at b3 ⊢
        split at b3
        · dsimp only at b3; omega
        · rename_i q1
          rw [if_neg q1]
          split at b3
          · rename_i q2
            rw [if_pos q2]
            split at b3
            · rename_i q3
              rw [if_pos q3]
            · dsimp only at b3; omega
          · split at b3
            · dsimp only at b3; omega
            · dsimp only at b3; omega
    refine Or.inl ⟨e, X'.1, b1, b4, b5, fun Sr hSr => ?_⟩
    have u2 : X'.1 = k + cn := u2
    obtain ⟨Sr', d1, d2, d3⟩ := q_run hN ht4 hs hn hM hMe (cn + 1) N Sr _ hSr iv hk (by omega) (by rw [u1]; omega)
    rw [u1, b3] at d1
    rw [u1, hX] at d2
    exact ⟨Sr', d1, d2.2.1, d3⟩
  · obtain ⟨k', z', Z, c', r', w, b1, b2, b3, b4, ⟨cn, b5⟩, b6, b7, b8, b9, b10, b11, b12⟩ := a3
    have st : stZ 1 Z = ([], 0, c', r') := by
      rw [← stZ_stZ (show (1 : Int) ≤ 5 by omega), b6]
      rfl
    have o1 : opN Z.1 = -1 := by rw [← stZ_opN (L := 1) (by omega), st]; rfl
    have us : uS s (kdT f n) (vlT f n) (k', true, Z) = (0, (k', true, [], 0, c', r')) := by
      rw [bh_end (btw_n b12 (by rw [o1]; decide)) (by rw [o1]; rfl) (by rw [o1]; decide), st]
    have b5 : itr (uO s (kdT f n) (vlT f n)) cn (k, false, [], 0, c, r) = some (k', true, Z) := b5
    obtain ⟨u1, u2⟩ := rch_uR cn _ _ b5 (by rw [us]; show (0 : Int) ≠ -1; omega)
    have u2 : k' = k + cn := u2
    rw [us] at u1
    have rr := b10.1
    have ru : r' ≤ k' := by
      have key : ∀ (nn : Nat) (X Y : uX), inv X → itr (uO s (kdT f n) (vlT f n)) nn X = some Y → inv Y := by
        intro nn
        induction nn with
        | zero => intro X Y h e; cases e; exact h
        | succ nn ih =>
          intro X Y h e
          unfold itr at e
          obtain ⟨X1, e1, e2⟩ := Option.bind_eq_some_iff.mp e
          unfold uO at e1
          by_cases q : (uS s (kdT f n) (vlT f n) X).1 = -1
          · rw [if_pos q] at e1
            cases e1
            exact ih _ _ (uS_inv h q) e2
          · rw [if_neg q] at e1; cases e1
      have iv2 := key cn _ _ iv b5
      obtain ⟨v1, v2, v3, v4⟩ := iv2
      have := stl_inv (L := 1) Z.1 Z.2.1 Z.2.2.1 Z.2.2.2 (by omega) v1 v2
      have e : stl 1 Z.1 Z.2.1 Z.2.2.1 Z.2.2.2 = ([], 0, c', r') := st
      rw [e] at this
      have h5 : r' + 0 = Z.2.2.2 + Z.1.length := this.2.2.2.1
      have v4 : Z.2.2.2 + Z.1.length ≤ k' := v4
      omega
    refine Or.inr ⟨k', z', r', c', w, b1, b2, b3, b4, b7, b9, by omega, ru, b8, b10, fun Sr hSr => ?_⟩
    obtain ⟨Sr', d1, d2, d3⟩ := q_run hN ht4 hs hn hM hMe (cn + 1) N Sr _ hSr iv hk (by omega) (by rw [u1]; show (0 : Int) ≠ -1; omega)
    rw [u1] at d1 d2
    exact ⟨Sr', d1, d2.2.1, d3, d2.2.2.1.2.2.2.2.1, d2.2.2.1.2.2.2.2.2⟩
/-! sorts -/
def srt (kd : Int) : Int := if kd = 18 then 0 else if kd = 19 then 1 else if kd = 20 then 2 else if kd = 9 then 3 else if kd = 21 then 4 else if kd = 22 then 5 else if kd = 23 then 6 else if kd = 0 then 7 else -1
theorem q_sort {S : yS} {kd vl : Int} (td : tD S kd vl) : fX12_sortOf S = some (Int32.ofInt (srt kd)) := by
  have w18 := q_isW td (w := 18) (by omega)
  have w19 := q_isW td (w := 19) (by omega)
  have w20 := q_isW td (w := 20) (by omega)
  have w9 := q_isW td (w := 9) (by omega)
  have w21 := q_isW td (w := 21) (by omega)
  have w22 := q_isW td (w := 22) (by omega)
  have w23 := q_isW td (w := 23) (by omega)
  have w0 := q_isW td (w := 0) (by omega)
  unfold fX12_sortOf srt
  rw [w_chance, w_brings, w_bird, w_rhyme, w_thin, w_call, w_grant, w_day]
  refine h_bind w18 ?_
  by_cases k18 : kd = 18
  · rw [if_pos (show kd = ((18 : Nat) : Int) from k18), if_pos k18]; exact h_neg (by decide) rfl
  rw [if_neg (show ¬ kd = ((18 : Nat) : Int) from k18), if_neg k18]
  refine h_pos (by decide) (h_bind w19 ?_)
  by_cases k19 : kd = 19
  · rw [if_pos (show kd = ((19 : Nat) : Int) from k19), if_pos k19]; exact h_neg (by decide) rfl
  rw [if_neg (show ¬ kd = ((19 : Nat) : Int) from k19), if_neg k19]
  refine h_pos (by decide) (h_bind w20 ?_)
  by_cases k20 : kd = 20
  · rw [if_pos (show kd = ((20 : Nat) : Int) from k20), if_pos k20]; exact h_neg (by decide) rfl
  rw [if_neg (show ¬ kd = ((20 : Nat) : Int) from k20), if_neg k20]
  refine h_pos (by decide) (h_bind w9 ?_)
  by_cases k9 : kd = 9
  · rw [if_pos (show kd = ((9 : Nat) : Int) from k9), if_pos k9]; exact h_neg (by decide) rfl
  rw [if_neg (show ¬ kd = ((9 : Nat) : Int) from k9), if_neg k9]
  refine h_pos (by decide) (h_bind w21 ?_)
  by_cases k21 : kd = 21
  · rw [if_pos (show kd = ((21 : Nat) : Int) from k21), if_pos k21]; exact h_neg (by decide) rfl
  rw [if_neg (show ¬ kd = ((21 : Nat) : Int) from k21), if_neg k21]
  refine h_pos (by decide) (h_bind w22 ?_)
  by_cases k22 : kd = 22
  · rw [if_pos (show kd = ((22 : Nat) : Int) from k22), if_pos k22]; exact h_neg (by decide) rfl
  rw [if_neg (show ¬ kd = ((22 : Nat) : Int) from k22), if_neg k22]
  refine h_pos (by decide) (h_bind w23 ?_)
  by_cases k23 : kd = 23
  · rw [if_pos (show kd = ((23 : Nat) : Int) from k23), if_pos k23]; exact h_neg (by decide) rfl
  rw [if_neg (show ¬ kd = ((23 : Nat) : Int) from k23), if_neg k23]
  refine h_pos (by decide) (h_bind w0 ?_)
  by_cases k0 : kd = 0
  · rw [if_pos (show kd = ((0 : Nat) : Int) from k0), if_pos k0]; exact h_neg (by decide) rfl
  rw [if_neg (show ¬ kd = ((0 : Nat) : Int) from k0), if_neg k0]
  exact h_pos (by decide) rfl
/-! figures -/
def fgO (lo hi kd vl : Int) : Int := if kd = 38 then (if lo ≤ vl ∧ vl ≤ hi then 0 else 2) else 1
/-- what the reading of a text may change of the reference -/
def Fw (t : Nat) (S S' : yS) : Prop := (∀ i, i ≠ 265 → S'.1 i = S.1 i) ∧ (∀ j, ¬ (7 ≤ j ∧ j ≤ 10) → ¬ (12 ≤ j ∧ j ≤ 19) → S'.1 265 j = S.1 265 j) ∧ (∀ i, i ≠ 268 → i ≠ 270 → S'.2.2.1 i = S.2.2.1 i) ∧ (∀ k, k < 681 * t ∨ 681 * t + 681 ≤ k → S'.2.2.1 268 k = S.2.2.1 268 k) ∧ S'.2.2.2 = S.2.2.2
theorem Fw_refl (S : yS) : Fw t S S := ⟨fun _ _ => rfl, fun _ _ _ => rfl, fun _ _ _ => rfl, fun _ _ => rfl, rfl⟩
theorem Fw_trans {S S1 S2 : yS} (h1 : Fw t S S1) (h2 : Fw t S1 S2) : Fw t S S2 := ⟨fun i a => (h2.1 i a).trans (h1.1 i a), fun j a b => (h2.2.1 j a b).trans (h1.2.1 j a b), fun i a b => (h2.2.2.1 i a b).trans (h1.2.2.1 i a b), fun k a => (h2.2.2.2.1 k a).trans (h1.2.2.2.1 k a), h2.2.2.2.2.trans h1.2.2.2.2⟩
theorem Fw_k {S S' : yS} (h : Fk S S') : Fw t S S' := ⟨h.1, fun j a _ => h.2.1 j a, fun i _ _ => by rw [h.2.2], fun k _ => by rw [h.2.2], by rw [h.2.2]⟩
theorem Fw_u {r : Nat} {S S' : yS} (h : Fu t r S S') : Fw t S S' := ⟨h.1, fun j a b => h.2.1 j a (by omega) (by omega), h.2.2.1, fun k a => h.2.2.2.1 k (by omega), h.2.2.2.2⟩
theorem Fw_i {S : yS} {j : Nat} {v : Int32} (h : 12 ≤ j ∧ j ≤ 19) : Fw t S (ySi S 265 j v) := ⟨fun i a => fld_o a, fun k a b => fld_ne (by omega), fun _ _ _ => rfl, fun _ _ => rfl, rfl⟩
theorem Fw_a {S : yS} {x : Nat} {v : Int32} (h : 681 * t ≤ x ∧ x < 681 * t + 681) : Fw t S (ySa S 268 (upd (S.2.2.1 268) x v)) := ⟨fun _ _ => rfl, fun _ _ _ => rfl, fun i a b => ySa_ne _ _ a, fun k a => by rw [ySa_at, upd_ne (by omega)], rfl⟩
theorem q_fig (hN : 2000000 ≤ N) {S : yS} {k x : Nat} {lo hi : Int} (ht4 : t < 4) (h1 : rtG S f n) (h2 : atT S f n k) (hx : 681 * t ≤ x ∧ x < 681 * t + 681) (hlo : 0 ≤ lo) (hhi : hi ≤ 999) (hl : -2147483648 ≤ hi) (hll : lo ≤ 999) : (fgO lo hi (kdT f n k) (vlT f n k) ≠ 0 ∧ fX12_figure N (Int32.ofInt (x : Int)) (Int32.ofInt lo) (Int32.ofInt hi) S = some (Int32.ofInt (fgO lo hi (kdT f n k) (vlT f n k)), S)) ∨ (fgO lo hi (kdT f n k) (vlT f n k) = 0 ∧ ∃ S', fX12_figure N (Int32.ofInt (x : Int)) (Int32.ofInt lo) (Int32.ofInt hi) S = some (Int32.ofInt 0, S') ∧ Fk (ySa S 268 (upd (S.2.2.1 268) x (Int32.ofInt (vlT f n k)))) S' ∧ atT S' f n (k + 1)) := by
  have td := atT_D h2
  have kr := kdT_rng (f := f) (n := n) k
  obtain ⟨cc, c1, c2, c3, c4, c5, -⟩ := tD_9 td
  unfold fX12_figure fgO
  by_cases k38 : kdT f n k = 38
  · rw [if_pos k38]
    have hk : psT f n k < n := by
      by_cases q : psT f n k < n
      · exact q
      · have := kr.2.2.1.mpr q; omega
    obtain ⟨v, v1, v2, v3, v4⟩ : ∃ v, S.1 265 10 = Int32.ofInt v ∧ 0 ≤ v ∧ v ≤ 999999 ∧ (vlT f n k ≤ 9999 ∧ v = vlT f n k ∨ vlT f n k = 10000 ∧ 10000 ≤ v) := by
      rcases td with td | td | ⟨w, td⟩ | td | td
      · omega
      · exact td.2.2
      · omega
      · omega
      · omega
    rw [c1, v1]
    by_cases q : lo ≤ vlT f n k ∧ vlT f n k ≤ hi
    · rw [if_pos q]
      right
      have ev : v = vlT f n k := by omega
      rw [ev]
      have g1 : rtG (ySa S 268 (upd (S.2.2.1 268) x (Int32.ofInt (vlT f n k)))) f n := ⟨h1.1, h1.2.1, fun j hj => by rw [ySa_ne _ _ (by omega)]; exact h1.2.2.1 j hj, h1.2.2.2⟩
      have g2 : atT (ySa S 268 (upd (S.2.2.1 268) x (Int32.ofInt (vlT f n k)))) f n k := atT_s h2 rfl rfl rfl rfl rfl
      obtain ⟨S', m1, m2, m3⟩ := q_nextT hN g1 hk g2
      refine ⟨rfl, S', h_pos (by first | omega | ((simp (disch := omega) only [i0, i1, i_lt, i_le, i_eq, i_add, i_sub, i_mul, i_neg, i_ofNat, i_rem, i_div, w_in, w_in2, w_cnt, w_cnt2, z01, z01', il, li, lc_ge, lc_le, lc_gt, lc_lt, lc_eq, l_ofNat, l0, l_eq, l_lt, l_le]) <;> omega)) (h_pos (by first | omega | ((simp (disch := omega) only [i0, i1, i_lt, i_le, i_eq, i_add, i_sub, i_mul, i_neg, i_ofNat, i_rem, i_div, w_in, w_in2, w_cnt, w_cnt2, z01, z01', il, li, lc_ge, lc_le, lc_gt, lc_lt, lc_eq, l_ofNat, l0, l_eq, l_lt, l_le]) <;> omega)) (h_ainN (by omega) (by omega) (h_pst (h_bind m1 rfl)))), m2, m3⟩
    · rw [if_neg q]
      left
      refine ⟨by decide, h_pos (by first | omega | ((simp (disch := omega) only [i0, i1, i_lt, i_le, i_eq, i_add, i_sub, i_mul, i_neg, i_ofNat, i_rem, i_div, w_in, w_in2, w_cnt, w_cnt2, z01, z01', il, li, lc_ge, lc_le, lc_gt, lc_lt, lc_eq, l_ofNat, l0, l_eq, l_lt, l_le]) <;> omega)) (h_neg (by first | omega | ((simp (disch := omega) only [i0, i1, i_lt, i_le, i_eq, i_add, i_sub, i_mul, i_neg, i_ofNat, i_rem, i_div, w_in, w_in2, w_cnt, w_cnt2, z01, z01', il, li, lc_ge, lc_le, lc_gt, lc_lt, lc_eq, l_ofNat, l0, l_eq, l_lt, l_le]) <;> omega)) rfl)⟩
  · rw [if_neg k38]
    left
    refine ⟨by decide, ?_⟩
    rw [c1]
    have : cc ≠ 1 := fun q => k38 (c5.mp q)
    exact h_neg (by first | omega | ((simp (disch := omega) only [i0, i1, i_lt, i_le, i_eq, i_add, i_sub, i_mul, i_neg, i_ofNat, i_rem, i_div, w_in, w_in2, w_cnt, w_cnt2, z01, z01', il, li, lc_ge, lc_le, lc_gt, lc_lt, lc_eq, l_ofNat, l0, l_eq, l_lt, l_le]) <;> omega)) rfl
end LAW
theorem c_num {K V pl : Nat → Int} {M k z : Nat} {S : yS} (ht : tkC S K V pl M) (hg : tkG K V M) (h : cS S k z) (hk : k ≤ M) (hz : z ≤ 300) {lo hi : Int} (hlo : 0 ≤ lo ∧ lo ≤ 999) (hhi : 0 ≤ hi ∧ hi ≤ 999) : (fgO lo hi (K k) (V k) ≠ 0 ∧ ∃ S', fX5_readNumber (Int32.ofInt lo) (Int32.ofInt hi) S = some (Int32.ofInt 0, S') ∧ cB S' M (fgO lo hi (K k) (V k)) (pl k) ∧ Fr S S') ∨ (fgO lo hi (K k) (V k) = 0 ∧ k < M ∧ lo ≤ V k ∧ V k ≤ hi ∧ fX5_readNumber (Int32.ofInt lo) (Int32.ofInt hi) S = some (Int32.ofInt (V k), ySi S 250 1 (Int32.ofInt ((k + 1 : Nat) : Int)))) := by
  have hM := hg.1
  have kr := hg.2.2.2.1 k
  have vr := hg.2.2.2.2 k
  have kd := c_kind ht hg h.1 hk
  have e255 : S.2.2.1 255 k = Int32.ofInt (V k) := (ht.2 k hk).2.2
  obtain ⟨n1, n2, n3⟩ := c_nxt h
  unfold fgO fX5_readNumber
  by_cases k38 : K k = 38
  · rw [if_pos k38]
    by_cases q : lo ≤ V k ∧ V k ≤ hi
    · rw [if_pos q]
      right
      refine ⟨rfl, ?_, q.1, q.2, h_bind kd (h_pos (by first | omega | ((simp (disch := omega) only [i0, i1, i_lt, i_le, i_eq, i_add, i_sub, i_mul, i_neg, i_ofNat, i_rem, i_div, w_in, w_in2, w_cnt, w_cnt2, z01, z01', il, li, lc_ge, lc_le, lc_gt, lc_lt, lc_eq, l_ofNat, l0, l_eq, l_lt, l_le]) <;> omega)) ?_)⟩
      · by_cases q2 : k < M
        · exact q2
        · have e1 : k = M := by omega
          have := hg.2.1
          rw [← e1] at this
          omega
      · rw [n3, h.1]
        refine h_ainN (by omega) (by omega) ?_
        rw [e255]
        exact h_pos (by first | omega | ((simp (disch := omega) only [i0, i1, i_lt, i_le, i_eq, i_add, i_sub, i_mul, i_neg, i_ofNat, i_rem, i_div, w_in, w_in2, w_cnt, w_cnt2, z01, z01', il, li, lc_ge, lc_le, lc_gt, lc_lt, lc_eq, l_ofNat, l0, l_eq, l_lt, l_le]) <;> omega)) rfl
    · rw [if_neg q]
      left
      obtain ⟨S1, d1, d2, d3⟩ := c_fail ht hg h hk hz (e := 2)
      refine ⟨by decide, S1, h_bind kd (h_pos (by first | omega | ((simp (disch := omega) only [i0, i1, i_lt, i_le, i_eq, i_add, i_sub, i_mul, i_neg, i_ofNat, i_rem, i_div, w_in, w_in2, w_cnt, w_cnt2, z01, z01', il, li, lc_ge, lc_le, lc_gt, lc_lt, lc_eq, l_ofNat, l0, l_eq, l_lt, l_le]) <;> omega)) ?_), d2, d3⟩
      rw [h.1]
      refine h_ainN (by omega) (by omega) ?_
      rw [e255]
      exact h_neg (by first | omega | ((simp (disch := omega) only [i0, i1, i_lt, i_le, i_eq, i_add, i_sub, i_mul, i_neg, i_ofNat, i_rem, i_div, w_in, w_in2, w_cnt, w_cnt2, z01, z01', il, li, lc_ge, lc_le, lc_gt, lc_lt, lc_eq, l_ofNat, l0, l_eq, l_lt, l_le]) <;> omega)) (h_bind d1 rfl)
  · rw [if_neg k38]
    left
    obtain ⟨S1, d1, d2, d3⟩ := c_fail ht hg h hk hz (e := 1)
    exact ⟨by decide, S1, h_bind kd (h_neg (by first | omega | ((simp (disch := omega) only [i0, i1, i_lt, i_le, i_eq, i_add, i_sub, i_mul, i_neg, i_ofNat, i_rem, i_div, w_in, w_in2, w_cnt, w_cnt2, z01, z01', il, li, lc_ge, lc_le, lc_gt, lc_lt, lc_eq, l_ofNat, l0, l_eq, l_lt, l_le]) <;> omega)) (h_bind d1 rfl)), d2, d3⟩
theorem b_num {K V pl : Nat → Int} {M : Nat} {S : yS} {e p : Int} (ht : tkC S K V pl M) (hg : tkG K V M) (h : cB S M e p) (he : 1 ≤ e ∧ e ≤ 6) {lo hi : Int32} : ∃ S', fX5_readNumber lo hi S = some (Int32.ofInt 0, S') ∧ cB S' M e p ∧ Fr S S' := by
  obtain ⟨S1, d1, d2, d3⟩ := b_fail ht hg h he (e2 := Int32.ofInt 1)
  refine ⟨S1, ?_, d2, d3⟩
  unfold fX5_readNumber
  exact h_bind (b_kind ht hg h) (h_neg (by decide) (h_bind d1 rfl))
