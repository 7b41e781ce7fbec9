/-! ===== a clause's body, read by both ===== -/
abbrev qT : Type := Nat → Int × Int × Int
abbrev lD : Type := Option (Nat × (eV → Int))
def qU (q : qT) (m : Nat) (x : Int × Int × Int) : qT := fun j => if j = m then x else q j
theorem qU_at {q : qT} {m : Nat} {x : Int × Int × Int} : qU q m x m = x := if_pos rfl
theorem qU_ne {q : qT} {m j : Nat} {x : Int × Int × Int} (h : j ≠ m) : qU q m x j = q j := if_neg h
def qG (x : Int × Int × Int) : Prop := (0 ≤ x.1 ∧ x.1 ≤ 7) ∧ (2 ≤ x.1 → 0 ≤ x.2.1 ∧ x.2.1 ≤ 999 ∧ (x.1 = 7 → 1 ≤ x.2.1 ∧ x.2.1 ≤ 60)) ∧ (x.1 = 2 ∨ x.1 = 3 → 0 ≤ x.2.2 ∧ x.2.2 ≤ 10)
def lwP (s : Nat) (l : lD) (q : qT) (m : Nat) (c : Nat → Int × Int) (r : Nat) : Prop := match l with
  | none => ∀ j, j < m → (q j).1 ≠ (s : Int)
  | some (k0, w) => k0 < m ∧ (q k0).1 = (s : Int) ∧ (∀ j, j < k0 → (q j).1 ≠ (s : Int)) ∧ ∃ i' j' : Nat, (q k0).2 = ((i' : Int), (j' : Int)) ∧ j' ≤ r ∧ frV s c i' j' w
def lwX (S : yS) (s : Nat) (l : lD) (z : Nat) : Prop := match l with
  | none => S.1 250 (8 + 2 * s) = Int32.ofInt (-1)
  | some (_, w) => ∃ i j : Nat, S.1 250 (8 + 2 * s) = Int32.ofInt i ∧ S.1 250 (9 + 2 * s) = Int32.ofInt j ∧ j ≤ z ∧ frC s (cdX S) i j w
theorem lwP_add {s : Nat} {l : lD} {q : qT} {m r r' : Nat} {c c' : Nat → Int × Int} {x : Int × Int × Int} (h : lwP s l q m c r) (hx : x.1 ≠ (s : Int)) (hc : ∀ j, j < r → c' j = c j) (hr : r ≤ r') : lwP s l (qU q m x) (m + 1) c' r' := by
  unfold lwP at h ⊢
  cases l with
  | none =>
    dsimp only at h ⊢
    intro j hj
    by_cases e : j = m
    · rw [e, qU_at]; exact hx
    · rw [qU_ne e]; exact h j (by omega)
  | some a =>
    obtain ⟨k0, w⟩ := a
    dsimp only at h ⊢
    obtain ⟨h1, h2, h3, i', j', h4, h5, h6⟩ := h
    refine ⟨by omega, by rw [qU_ne (by omega)]; exact h2, fun j hj => by rw [qU_ne (by omega)]; exact h3 j hj, i', j', by rw [qU_ne (by omega)]; exact h4, by omega, frV_congr h6 (fun k _ hk => hc k (by omega))⟩
theorem lwP_new {s : Nat} {q : qT} {m r' : Nat} {c c' : Nat → Int × Int} {r i' j' : Nat} {w : eV → Int} (h : lwP s none q m c r) (hf : frV s c' i' j' w) (hj : j' ≤ r') : lwP s (some (m, w)) (qU q m ((s : Int), (i' : Int), (j' : Int))) (m + 1) c' r' := by
  have h : ∀ j, j < m → (q j).1 ≠ (s : Int) := h
  refine ⟨by omega, by rw [qU_at], fun j hj => by rw [qU_ne (by omega)]; exact h j hj, i', j', by rw [qU_at], hj, hf⟩
theorem lwX_m {S S' : yS} {s : Nat} {l : lD} {z z' : Nat} (h : lwX S s l z) (h1 : S'.1 250 (8 + 2 * s) = S.1 250 (8 + 2 * s)) (h2 : S'.1 250 (9 + 2 * s) = S.1 250 (9 + 2 * s)) (hc : ∀ j, j < z → cdX S' j = cdX S j) (hz : z ≤ z') : lwX S' s l z' := by
  unfold lwX at h ⊢
  cases l with
  | none => dsimp only at h ⊢; rw [h1]; exact h
  | some a =>
    obtain ⟨k0, w⟩ := a
    dsimp only at h ⊢
    obtain ⟨i, j, a1, a2, a3, a4⟩ := h
    exact ⟨i, j, by rw [h1]; exact a1, by rw [h2]; exact a2, by omega, frC_congr a4 (fun k _ hk => hc k (by omega))⟩
def plT (f : Nat → Int) (n k : Nat) : Int := ((psT f n k : Nat) : Int)
/-- the class between two clauses -/
def jC (f : Nat → Int) (n M : Nat) (S : yS) (k z m m' : Nat) (q : qT) (l0 l1 : lD) : Prop := tkC S (kdT f n) (vlT f n) (plT f n) M ∧ cS S k z ∧ S.1 250 15 = Int32.ofInt (m : Int) ∧ (∀ j, j < m' → S.2.2.1 258 j = Int32.ofInt (vbC (q j).1) ∧ (2 ≤ (q j).1 → S.2.2.1 259 j = Int32.ofInt (q j).2.1) ∧ ((q j).1 = 2 ∨ (q j).1 = 3 → S.2.2.1 260 j = Int32.ofInt (q j).2.2)) ∧ lwX S 0 l0 z ∧ lwX S 1 l1 z
/-- the reference between two clauses -/
def jR (f : Nat → Int) (n t : Nat) (S : yS) (k m m' : Nat) (q : qT) (r : Nat) (c : Nat → Int × Int) (mq : Int) : Prop := rtG S f n ∧ atT S f n k ∧ S.1 265 12 = Int32.ofInt ((681 * t : Nat) : Int) ∧ S.1 265 13 = Int32.ofInt (r : Int) ∧ S.1 265 19 = Int32.ofInt mq ∧ S.2.2.1 268 (681 * t) = Int32.ofInt (m : Int) ∧ (∀ j, j < m' → S.2.2.1 268 (681 * t + 1 + 3 * j) = Int32.ofInt (q j).1 ∧ S.2.2.1 268 (681 * t + 1 + 3 * j + 1) = Int32.ofInt (q j).2.1 ∧ ((q j).1 ≤ 3 → S.2.2.1 268 (681 * t + 1 + 3 * j + 2) = Int32.ofInt (q j).2.2)) ∧ ∀ j, j < r → cdR S t j = c j
def Fx (S S' : yS) : Prop := (∀ i, i ≠ 250 → S'.1 i = S.1 i) ∧ (∀ i, ¬ (256 ≤ i ∧ i ≤ 260) → S'.2.2.1 i = S.2.2.1 i) ∧ S'.2.1 = S.2.1 ∧ S'.2.2.2 = S.2.2.2
theorem Fx_refl (S : yS) : Fx S S := ⟨fun _ _ => rfl, fun _ _ => rfl, rfl, rfl⟩
theorem Fx_trans {S S1 S2 : yS} (h1 : Fx S S1) (h2 : Fx S1 S2) : Fx S S2 := ⟨fun i a => (h2.1 i a).trans (h1.1 i a), fun i a => (h2.2.1 i a).trans (h1.2.1 i a), h2.2.2.1.trans h1.2.2.1, h2.2.2.2.trans h1.2.2.2⟩
theorem Fx_r {S S' : yS} (h : Fr S S') : Fx S S' := ⟨h.1, fun i a => h.2.2.1 i (by omega) (by omega), h.2.2.2.1, h.2.2.2.2⟩
theorem Fx_i {S : yS} {j : Nat} {v : Int32} : Fx S (ySi S 250 j v) := ⟨fun i a => fld_o a, fun _ _ => rfl, rfl, rfl⟩
theorem Fx_a {S : yS} {a : Nat} {g : Nat → Int32} (h : 256 ≤ a ∧ a ≤ 260) : Fx S (ySa S a g) := ⟨fun _ _ => rfl, fun i b => ySa_ne _ _ (by omega), rfl, rfl⟩
theorem tkC_c {S S' : yS} {K V pl : Nat → Int} {M : Nat} (h : tkC S K V pl M) (g : Fx S S') : tkC S' K V pl M := ⟨by rw [g.1 251 (by omega)]; exact h.1, fun j hj => by rw [g.2.1 253 (by omega), g.2.1 254 (by omega), g.2.1 255 (by omega)]; exact h.2 j hj⟩
section BODY
variable {f : Nat → Int} {n t N M : Nat} {S S' : yS} {k k' z z' m m' r : Nat} {q : qT} {l0 l1 : lD} {c : Nat → Int × Int} {mq : Int}
theorem jC_F (h : jC f n M S k z m m' q l0 l1) (g : Fr S S') (h1 : cS S' k' z') (hc : ∀ j, j < z → cdX S' j = cdX S j) (hz : z ≤ z') : jC f n M S' k' z' m m' q l0 l1 := by
  obtain ⟨a1, a2, a3, a4, a5, a6⟩ := h
  refine ⟨tkC_F a1 g, h1, ?_, fun j hj => ?_, lwX_m a5 (g.2.1 8 (by omega) (by omega) (by omega) (by omega)) (g.2.1 9 (by omega) (by omega) (by omega) (by omega)) hc hz, lwX_m a6 (g.2.1 10 (by omega) (by omega) (by omega) (by omega)) (g.2.1 11 (by omega) (by omega) (by omega) (by omega)) hc hz⟩
  · rw [g.2.1 15 (by omega) (by omega) (by omega) (by omega)]; exact a3
  · rw [g.2.2.1 258 (by omega) (by omega), g.2.2.1 259 (by omega) (by omega), g.2.2.1 260 (by omega) (by omega)]; exact a4 j hj
theorem jC_a (h : jC f n M S k z m m' q l0 l1) {a x : Nat} {v : Int32} (ha : 258 ≤ a ∧ a ≤ 260) (hx : m' ≤ x) : jC f n M (ySa S a (upd (S.2.2.1 a) x v)) k z m m' q l0 l1 := by
  obtain ⟨a1, a2, a3, a4, a5, a6⟩ := h
  have cd : ∀ j, cdX (ySa S a (upd (S.2.2.1 a) x v)) j = cdX S j := fun j => by unfold cdX rv; rw [ySa_ne _ _ (by omega), ySa_ne _ _ (by omega)]
  refine ⟨tkC_c a1 (Fx_a (by omega)), a2, a3, fun j hj => ?_, lwX_m a5 rfl rfl (fun j _ => cd j) (Nat.le_refl _), lwX_m a6 rfl rfl (fun j _ => cd j) (Nat.le_refl _)⟩
  have key : ∀ b, (ySa S a (upd (S.2.2.1 a) x v)).2.2.1 b j = S.2.2.1 b j := fun b => by
    by_cases e : b = a
    · rw [e, ySa_at, upd_ne (by omega)]
    · rw [ySa_ne _ _ e]
  rw [key, key, key]; exact a4 j hj
theorem jR_k (h : jR f n t S k m m' q r c mq) (g : Fk S S') (h1 : atT S' f n k') : jR f n t S' k' m m' q r c mq := by
  obtain ⟨a1, a2, a3, a4, a5, a6, a7, a8⟩ := h
  refine ⟨rtG_k a1 g, h1, by rw [g.2.1 12 (by omega)]; exact a3, by rw [g.2.1 13 (by omega)]; exact a4, by rw [g.2.1 19 (by omega)]; exact a5, by rw [g.2.2]; exact a6, fun j hj => by rw [g.2.2]; exact a7 j hj, fun j hj => ?_⟩
  rw [← a8 j hj]; unfold cdR rv; rw [g.2.2]
theorem jR_a (h : jR f n t S k m m' q r c mq) {x : Nat} {v : Int32} (hm : m' < 24) (hx : 681 * t + 1 + 3 * m' ≤ x ∧ x ≤ 681 * t + 1 + 3 * m' + 2) : jR f n t (ySa S 268 (upd (S.2.2.1 268) x v)) k m m' q r c mq := by
  obtain ⟨a1, a2, a3, a4, a5, a6, a7, a8⟩ := h
  refine ⟨⟨a1.1, a1.2.1, fun j hj => by rw [ySa_ne _ _ (by omega)]; exact a1.2.2.1 j hj, a1.2.2.2⟩, atT_s a2 rfl rfl rfl rfl rfl, a3, a4, a5, ?_, fun j hj => ?_, fun j hj => ?_⟩
  · rw [ySa_at, upd_ne (by omega)]; exact a6
  · rw [ySa_at, upd_ne (by omega), upd_ne (by omega), upd_ne (by omega)]; exact a7 j hj
  · rw [← a8 j hj]; unfold cdR rv; rw [ySa_at, upd_ne (by omega), upd_ne (by omega)]
theorem jR_add (h : jR f n t S k m m' q r c mq) {x : Int × Int × Int} (h0 : S.2.2.1 268 (681 * t + 1 + 3 * m') = Int32.ofInt x.1) (h1 : S.2.2.1 268 (681 * t + 1 + 3 * m' + 1) = Int32.ofInt x.2.1) (h2 : x.1 ≤ 3 → S.2.2.1 268 (681 * t + 1 + 3 * m' + 2) = Int32.ofInt x.2.2) : jR f n t S k m (m' + 1) (qU q m' x) r c mq := by
  obtain ⟨a1, a2, a3, a4, a5, a6, a7, a8⟩ := h
  refine ⟨a1, a2, a3, a4, a5, a6, fun j hj => ?_, a8⟩
  by_cases e : j = m'
  · rw [e, qU_at]; exact ⟨h0, h1, h2⟩
  · rw [qU_ne e]; exact a7 j (by omega)
theorem jC_add (h : jC f n M S k z m m' q l0 l1) {x : Int × Int × Int} (h0 : S.2.2.1 258 m' = Int32.ofInt (vbC x.1)) (h1 : 2 ≤ x.1 → S.2.2.1 259 m' = Int32.ofInt x.2.1) (h2 : x.1 = 2 ∨ x.1 = 3 → S.2.2.1 260 m' = Int32.ofInt x.2.2) : jC f n M S k z m (m' + 1) (qU q m' x) l0 l1 := by
  obtain ⟨a1, a2, a3, a4, a5, a6⟩ := h
  refine ⟨a1, a2, a3, fun j hj => ?_, a5, a6⟩
  by_cases e : j = m'
  · rw [e, qU_at]; exact ⟨h0, h1, h2⟩
  · rw [qU_ne e]; exact a4 j (by omega)
theorem cB_a {e p : Int} (h : cB S M e p) {a : Nat} {g : Nat → Int32} : cB (ySa S a g) M e p := h
/-- what both have read of a body: a fault at a token, or a clause -/
def bRs (f : Nat → Int) (n t N M : Nat) (cb : yS → Option yS) (sr : Int) (S : yS) (k z m : Nat) (q : qT) (l0 l1 : lD) (r : Nat) (c : Nat → Int × Int) (mq : Int) : Prop := ∃ S', cb S = some S' ∧ Fx S S' ∧ ((∃ (e : Int) (kf : Nat), (1 ≤ e ∧ e ≤ 5) ∧ kf ≤ M ∧ cB S' M e (plT f n kf) ∧ S'.1 250 15 = Int32.ofInt (m : Int) ∧ ∀ Sr, jR f n t Sr k m m q r c mq → Sr.2.2.1 268 (681 * t + 1 + 3 * m) = Int32.ofInt sr → Sr.1 265 14 = Int32.ofInt sr → ∃ Sr', fX12_body N (Int32.ofInt sr) (Int32.ofInt ((681 * t + 1 + 3 * m : Nat) : Int)) Sr = some (Int32.ofInt e, Sr') ∧ atT Sr' f n kf ∧ Fw t Sr Sr') ∨ (∃ (k' z' : Nat) (x : Int × Int × Int) (l0' l1' : lD) (r' : Nat) (c' : Nat → Int × Int), k < k' ∧ k' ≤ M ∧ z' + k ≤ z + k' ∧ r ≤ r' ∧ r' ≤ k' ∧ x.1 = sr ∧ qG x ∧ (∀ mm, lwP 0 l0 q m c r ∧ lwP 1 l1 q m c r → mm = m → lwP 0 l0' (qU q m x) (mm + 1) c' r' ∧ lwP 1 l1' (qU q m x) (mm + 1) c' r') ∧ (l0'.isSome = (l0.isSome || decide (sr = 0)) ∧ l1'.isSome = (l1.isSome || decide (sr = 1))) ∧ jC f n M S' k' z' m (m + 1) (qU q m x) l0' l1' ∧ ∀ Sr, jR f n t Sr k m m q r c mq → Sr.2.2.1 268 (681 * t + 1 + 3 * m) = Int32.ofInt sr → Sr.1 265 14 = Int32.ofInt sr → ∃ Sr', fX12_body N (Int32.ofInt sr) (Int32.ofInt ((681 * t + 1 + 3 * m : Nat) : Int)) Sr = some (Int32.ofInt 0, Sr') ∧ jR f n t Sr' k' m (m + 1) (qU q m x) r' c' mq ∧ Fw t Sr Sr'))
def sgC (lo hi : Int) (S : yS) : Option yS := (fX5_readNumber (Int32.ofInt lo) (Int32.ofInt hi) S).bind fun (u3, S2) => (ain 24 (S.1 250 15)).bind fun j5 => pSt (ySa S2 259 (upd (S2.2.2.1 259) j5 u3)) fun S4 => some S4
theorem sg_step (hN : 2000000 ≤ N) (ht4 : t < 4) (hg : tkG (kdT f n) (vlT f n) M) (hm : m < 24) (hk : k ≤ M) (hz : z ≤ k) (hr : r ≤ k) {lo hi sr : Int} (hlo : 0 ≤ lo ∧ lo ≤ 999) (hhi : 0 ≤ hi ∧ hi ≤ 999) (hsr : 4 ≤ sr ∧ sr ≤ 7) (h7 : sr = 7 → 1 ≤ lo ∧ hi ≤ 60) (hb : ∀ x S, fX12_body N (Int32.ofInt sr) x S = (fX12_figure N (x + Int32.ofInt 1) (Int32.ofInt lo) (Int32.ofInt hi) S).bind fun (u15, S14) => some (u15, S14)) (hC : jC f n M S k z m m q l0 l1) (hv : S.2.2.1 258 m = Int32.ofInt (vbC sr)) : bRs f n t N M (sgC lo hi) sr S k z m q l0 l1 r c mq := by
  have hM := hg.1
  have fg : fgO lo hi (kdT f n k) (vlT f n k) = 0 ∨ fgO lo hi (kdT f n k) (vlT f n k) = 1 ∨ fgO lo hi (kdT f n k) (vlT f n k) = 2 := by
    unfold fgO
    repeat' split
    all_goals omega
  have ex : Int32.ofInt ((681 * t + 1 + 3 * m : Nat) : Int) + Int32.ofInt 1 = Int32.ofInt ((681 * t + 1 + 3 * m + 1 : Nat) : Int) := by
    rw [i_add, show ((681 * t + 1 + 3 * m : Nat) : Int) + 1 = ((681 * t + 1 + 3 * m + 1 : Nat) : Int) by omega]
  rcases c_num hC.1 hg hC.2.1 hk (by omega) hlo hhi with ⟨g0, S2, g1, g2, g3⟩ | ⟨g0, gk, g1, g2, g3⟩
  · refine ⟨ySa S2 259 (upd (S2.2.2.1 259) m (Int32.ofInt 0)), ?_, Fx_trans (Fx_r g3) (Fx_a (by omega)), Or.inl ⟨_, k, by omega, hk, cB_a g2, ?_, fun Sr jr h0 h14 => ?_⟩⟩
    · unfold sgC
      refine h_bind g1 ?_
      dsimp only
      rw [hC.2.2.1]
      exact h_ainN (by omega) (by omega) rfl
    · show S2.1 250 15 = _
      rw [g3.2.1 15 (by omega) (by omega) (by omega) (by omega)]; exact hC.2.2.1
    · rw [hb, ex]
      rcases q_fig (f := f) (n := n) (t := t) (k := k) (x := 681 * t + 1 + 3 * m + 1) (lo := lo) (hi := hi) hN ht4 jr.1 jr.2.1 (by omega) (by omega) (by omega) (by omega) (by omega) with ⟨u0, u1⟩ | ⟨u0, u1⟩
      · exact ⟨Sr, h_bind u1 rfl, jr.2.1, Fw_refl Sr⟩
      · exact absurd u0 g0
  · obtain ⟨n1, n2, n3⟩ := c_nxt hC.2.1
    have j1 := jC_F hC n2 n1 (fun _ _ => rfl) (Nat.le_refl _)
    have j2 := jC_a j1 (a := 259) (x := m) (v := Int32.ofInt (vlT f n k)) (by omega) (Nat.le_refl _)
    refine ⟨_, ?_, Fx_trans (Fx_r n2) (Fx_a (by omega)), Or.inr ⟨k + 1, z, (sr, vlT f n k, 0), l0, l1, r, c, by omega, by omega, by omega, Nat.le_refl _, by omega, rfl, ⟨by dsimp only; omega, fun _ => ⟨by dsimp only; omega, by dsimp only; omega, fun e => by dsimp only at e ⊢; omega⟩, fun e => by dsimp only at e; omega⟩, fun mm ⟨p0, p1⟩ e => by rw [e]; exact ⟨lwP_add p0 (by dsimp only; omega) (fun _ _ => rfl) (Nat.le_refl _), lwP_add p1 (by dsimp only; omega) (fun _ _ => rfl) (Nat.le_refl _)⟩, ⟨by rw [decide_eq_false (by omega), Bool.or_false], by rw [decide_eq_false (by omega), Bool.or_false]⟩, jC_add j2 (x := (sr, vlT f n k, 0)) ?_ (fun _ => ?_) (fun e => by dsimp only at e; omega), fun Sr jr h0 h14 => ?_⟩⟩
    · unfold sgC
      refine h_bind g3 ?_
      dsimp only
      rw [hC.2.2.1]
      exact h_ainN (by omega) (by omega) rfl
    · rw [ySa_ne _ _ (by omega)]; exact hv
    · rw [ySa_at, upd_at]
    · rw [hb, ex]
      rcases q_fig (f := f) (n := n) (t := t) (k := k) (x := 681 * t + 1 + 3 * m + 1) (lo := lo) (hi := hi) hN ht4 jr.1 jr.2.1 (by omega) (by omega) (by omega) (by omega) (by omega) with ⟨u0, u1⟩ | ⟨u0, Sr', u1, u2, u3⟩
      · exact absurd g0 u0
      · have jr2 := jR_k (jR_a jr (x := 681 * t + 1 + 3 * m + 1) (v := Int32.ofInt (vlT f n k)) hm (by omega)) u2 u3
        refine ⟨Sr', h_bind u1 rfl, jR_add jr2 (x := (sr, vlT f n k, 0)) ?_ ?_ (fun e => by dsimp only at e; omega), Fw_trans (Fw_a (by omega)) (Fw_k u2)⟩
        · rw [u2.2.2, ySa_at, upd_ne (by omega)]; exact h0
        · rw [u2.2.2, ySa_at, upd_at]
def prC (lo hi w hi2 : Int) (S : yS) : Option yS := (fX5_readNumber (Int32.ofInt lo) (Int32.ofInt hi) S).bind fun (u13, S12) => (ain 24 (S.1 250 15)).bind fun j22 => pSt (ySa S12 259 (upd (S12.2.2.1 259) j22 u13)) fun S14 => (fX5_expect (Int32.ofInt w) S14).bind fun S16 => (fX5_readNumber (Int32.ofInt 0) (Int32.ofInt hi2) S16).bind fun (u19, S18) => (ain 24 (S16.1 250 15)).bind fun j21 => pSt (ySa S18 260 (upd (S18.2.2.1 260) j21 u19)) fun S20 => some S20
theorem pr_step (hN : 2000000 ≤ N) (ht4 : t < 4) (hg : tkG (kdT f n) (vlT f n) M) (hm : m < 24) (hk : k ≤ M) (hz : z ≤ k) (hr : r ≤ k) {lo hi hi2 sr : Int} {w : Nat} (hw : w < 25) (hlo : 0 ≤ lo ∧ lo ≤ 999) (hhi : 0 ≤ hi ∧ hi ≤ 999) (hhi2 : 0 ≤ hi2 ∧ hi2 ≤ 10) (hsr : 2 ≤ sr ∧ sr ≤ 3) (hb : ∀ x S, fX12_body N (Int32.ofInt sr) x S = (fX12_pair N x (Int32.ofInt lo) (Int32.ofInt hi) (Int64.ofInt (wcd w)) (Int32.ofInt hi2) S).bind fun (u15, S14) => some (u15, S14)) (hC : jC f n M S k z m m q l0 l1) (hv : S.2.2.1 258 m = Int32.ofInt (vbC sr)) : bRs f n t N M (prC lo hi w hi2) sr S k z m q l0 l1 r c mq := by
  have hM := hg.1
  have fg : ∀ j hh ll, fgO ll hh (kdT f n j) (vlT f n j) = 0 ∨ fgO ll hh (kdT f n j) (vlT f n j) = 1 ∨ fgO ll hh (kdT f n j) (vlT f n j) = 2 := fun j hh ll => by
    unfold fgO
    repeat' split
    all_goals omega
  have fg1 := fg k hi lo
  have ex : Int32.ofInt ((681 * t + 1 + 3 * m : Nat) : Int) + Int32.ofInt 1 = Int32.ofInt ((681 * t + 1 + 3 * m + 1 : Nat) : Int) := by
    rw [i_add, show ((681 * t + 1 + 3 * m : Nat) : Int) + 1 = ((681 * t + 1 + 3 * m + 1 : Nat) : Int) by omega]
  have ex2 : Int32.ofInt ((681 * t + 1 + 3 * m : Nat) : Int) + Int32.ofInt 2 = Int32.ofInt ((681 * t + 1 + 3 * m + 2 : Nat) : Int) := by
    rw [i_add, show ((681 * t + 1 + 3 * m : Nat) : Int) + 2 = ((681 * t + 1 + 3 * m + 2 : Nat) : Int) by omega]
  rcases c_num hC.1 hg hC.2.1 hk (by omega) hlo hhi with ⟨g0, S2, g1, g2, g3⟩ | ⟨g0, gk, g1, g2, g3⟩
  · have f1 : Fx S (ySa S2 259 (upd (S2.2.2.1 259) m (Int32.ofInt 0))) := Fx_trans (Fx_r g3) (Fx_a (by omega))
    obtain ⟨S3, d1, d2, d3⟩ := b_expect (tkC_c hC.1 f1) hg (cB_a g2) (by omega) (w := (w : Int)) (by omega)
    have f2 := Fx_trans f1 (Fx_r d3)
    obtain ⟨S4, e1, e2, e3⟩ := b_num (tkC_c hC.1 f2) hg d2 (by omega) (lo := Int32.ofInt 0) (hi := Int32.ofInt hi2)
    have m1 : S3.1 250 15 = Int32.ofInt (m : Int) := by
      rw [d3.2.1 15 (by omega) (by omega) (by omega) (by omega)]
      show S2.1 250 15 = _
      rw [g3.2.1 15 (by omega) (by omega) (by omega) (by omega)]; exact hC.2.2.1
    refine ⟨ySa S4 260 (upd (S4.2.2.1 260) m (Int32.ofInt 0)), ?_, Fx_trans f2 (Fx_trans (Fx_r e3) (Fx_a (by omega))), Or.inl ⟨_, k, by omega, hk, cB_a e2, ?_, fun Sr jr h0 h14 => ?_⟩⟩
    · unfold prC
      refine h_bind g1 ?_
      dsimp only
      rw [hC.2.2.1]
      refine h_ainN (by omega) (by omega) (h_pst (h_bind d1 (h_bind e1 ?_)))
      dsimp only
      rw [m1]
      exact h_ainN (by omega) (by omega) rfl
    · show S4.1 250 15 = _
      rw [e3.2.1 15 (by omega) (by omega) (by omega) (by omega)]; exact m1
    · rw [hb]
      unfold fX12_pair
      rw [ex]
      rcases q_fig (f := f) (n := n) (t := t) (k := k) (x := 681 * t + 1 + 3 * m + 1) (lo := lo) (hi := hi) hN ht4 jr.1 jr.2.1 (by omega) (by omega) (by omega) (by omega) (by omega) with ⟨u0, u1⟩ | ⟨u0, u1⟩
      · refine ⟨Sr, h_bind (v := (Int32.ofInt (fgO lo hi (kdT f n k) (vlT f n k)), Sr)) (h_bind u1 ?_) rfl, jr.2.1, Fw_refl Sr⟩
        dsimp only
        refine h_neg ?_ rfl
        rcases fg1 with e | e | e
        · exact absurd e g0
        · rw [e]; decide
        · rw [e]; decide
      · exact absurd u0 g0
  · obtain ⟨n1, n2, n3⟩ := c_nxt hC.2.1
    have j1 := jC_F hC n2 n1 (fun _ _ => rfl) (Nat.le_refl _)
    have j2 := jC_a j1 (a := 259) (x := m) (v := Int32.ofInt (vlT f n k)) (by omega) (Nat.le_refl _)
    have fA : Fx S _ := Fx_trans (Fx_r n2) (Fx_a (S := ySi S 250 1 (Int32.ofInt ((k + 1 : Nat) : Int))) (a := 259) (g := upd ((ySi S 250 1 (Int32.ofInt ((k + 1 : Nat) : Int))).2.2.1 259) m (Int32.ofInt (vlT f n k))) (by omega))
    have ref : ∀ Sr, jR f n t Sr k m m q r c mq → Sr.2.2.1 268 (681 * t + 1 + 3 * m) = Int32.ofInt sr → ∃ Sr', fX12_figure N (Int32.ofInt ((681 * t + 1 + 3 * m + 1 : Nat) : Int)) (Int32.ofInt lo) (Int32.ofInt hi) Sr = some (Int32.ofInt 0, Sr') ∧ jR f n t Sr' (k + 1) m m q r c mq ∧ Fw t Sr Sr' ∧ Sr'.2.2.1 268 (681 * t + 1 + 3 * m) = Int32.ofInt sr ∧ Sr'.2.2.1 268 (681 * t + 1 + 3 * m + 1) = Int32.ofInt (vlT f n k) := fun Sr jr h0 => by
      rcases q_fig (f := f) (n := n) (t := t) (k := k) (x := 681 * t + 1 + 3 * m + 1) (lo := lo) (hi := hi) hN ht4 jr.1 jr.2.1 (by omega) (by omega) (by omega) (by omega) (by omega) with ⟨u0, u1⟩ | ⟨u0, Sr', u1, u2, u3⟩
      · exact absurd g0 u0
      · refine ⟨Sr', u1, jR_k (jR_a jr (x := 681 * t + 1 + 3 * m + 1) (v := Int32.ofInt (vlT f n k)) hm (by omega)) u2 u3, Fw_trans (Fw_a (by omega)) (Fw_k u2), ?_, ?_⟩
        · rw [u2.2.2, ySa_at, upd_ne (by omega)]; exact h0
        · rw [u2.2.2, ySa_at, upd_at]
    by_cases kw : kdT f n (k + 1) = (w : Int)
    case neg =>
      obtain ⟨S3, d1, d2, d3⟩ := c_expN j2.1 hg j2.2.1 (by omega) (by omega) (w := (w : Int)) (by omega) kw
      have f2 := Fx_trans fA (Fx_r d3)
      obtain ⟨S4, e1, e2, e3⟩ := b_num (tkC_c hC.1 f2) hg d2 (by omega) (lo := Int32.ofInt 0) (hi := Int32.ofInt hi2)
      have m1 : S3.1 250 15 = Int32.ofInt (m : Int) := by
        rw [d3.2.1 15 (by omega) (by omega) (by omega) (by omega)]; exact j2.2.2.1
      refine ⟨ySa S4 260 (upd (S4.2.2.1 260) m (Int32.ofInt 0)), ?_, Fx_trans f2 (Fx_trans (Fx_r e3) (Fx_a (by omega))), Or.inl ⟨1, k + 1, by omega, by omega, cB_a e2, ?_, fun Sr jr h0 h14 => ?_⟩⟩
      · unfold prC
        refine h_bind g3 ?_
        dsimp only
        rw [hC.2.2.1]
        refine h_ainN (by omega) (by omega) (h_pst (h_bind d1 (h_bind e1 ?_)))
        dsimp only
        rw [m1]
        exact h_ainN (by omega) (by omega) rfl
      · show S4.1 250 15 = _
        rw [e3.2.1 15 (by omega) (by omega) (by omega) (by omega)]; exact m1
      · rw [hb]
        unfold fX12_pair
        rw [ex]
        obtain ⟨Sr', u1, u2, u3, -, -⟩ := ref Sr jr h0
        refine ⟨Sr', h_bind (v := (Int32.ofInt 1, Sr')) (h_bind u1 ?_) rfl, u2.2.1, u3⟩
        dsimp only
        refine h_pos (by decide) (h_bind (q_isW (atT_D u2.2.1) hw) ?_)
        rw [if_neg kw]
        exact h_neg (by decide) rfl
    have kM : k + 1 < M := by
      by_cases q2 : k + 1 < M
      · exact q2
      · have e1 : k + 1 = M := by omega
        have := hg.2.1
        rw [e1] at kw
        omega
    have hps : psT f n (k + 1) < n := by
      have kr := kdT_rng (f := f) (n := n) (k + 1)
      by_cases q2 : psT f n (k + 1) < n
      · exact q2
      · have := kr.2.2.1.mpr q2; omega
    have x1 := c_expY j2.1 hg j2.2.1 (by omega) kw
    obtain ⟨y1, y2, y3⟩ := c_nxt j2.2.1
    have j3 := jC_F j2 y2 y1 (fun _ _ => rfl) (Nat.le_refl _)
    have ref2 : ∀ Sr, jR f n t Sr k m m q r c mq → Sr.2.2.1 268 (681 * t + 1 + 3 * m) = Int32.ofInt sr → ∃ Sr', (∀ {u S5}, fX12_figure N (Int32.ofInt ((681 * t + 1 + 3 * m + 2 : Nat) : Int)) (Int32.ofInt 0) (Int32.ofInt hi2) Sr' = some (u, S5) → fX12_body N (Int32.ofInt sr) (Int32.ofInt ((681 * t + 1 + 3 * m : Nat) : Int)) Sr = some (u, S5)) ∧ jR f n t Sr' (k + 1 + 1) m m q r c mq ∧ Fw t Sr Sr' ∧ Sr'.2.2.1 268 (681 * t + 1 + 3 * m) = Int32.ofInt sr ∧ Sr'.2.2.1 268 (681 * t + 1 + 3 * m + 1) = Int32.ofInt (vlT f n k) := fun Sr jr h0 => by
      obtain ⟨Sr', u1, u2, u3, u4, u5⟩ := ref Sr jr h0
      obtain ⟨Sr2, v1, v2, v3⟩ := q_nextT hN u2.1 hps u2.2.1
      refine ⟨Sr2, fun {u S5} hu => ?_, jR_k u2 v2 v3, Fw_trans u3 (Fw_k v2), by rw [v2.2.2]; exact u4, by rw [v2.2.2]; exact u5⟩
      rw [hb]
      unfold fX12_pair
      rw [ex, ex2]
      refine h_bind (v := (u, S5)) (h_bind u1 ?_) rfl
      dsimp only
      refine h_pos (by decide) (h_bind (q_isW (atT_D u2.2.1) hw) ?_)
      rw [if_pos kw]
      exact h_pos (by decide) (h_bind v1 (h_bind hu rfl))
    have fB := Fx_trans fA (Fx_r y2)
    have fg2 := fg (k + 1 + 1) hi2 0
    rcases c_num j3.1 hg j3.2.1 (by omega) (by omega) (lo := 0) (hi := hi2) (by omega) (by omega) with ⟨i0, S4, i1, i2, i3⟩ | ⟨i0, ik, i1, i2, i3⟩
    · refine ⟨ySa S4 260 (upd (S4.2.2.1 260) m (Int32.ofInt 0)), ?_, Fx_trans fB (Fx_trans (Fx_r i3) (Fx_a (by omega))), Or.inl ⟨_, k + 1 + 1, by omega, by omega, cB_a i2, ?_, fun Sr jr h0 h14 => ?_⟩⟩
      · unfold prC
        refine h_bind g3 ?_
        dsimp only
        rw [hC.2.2.1]
        refine h_ainN (by omega) (by omega) (h_pst (h_bind x1 (h_bind i1 ?_)))
        dsimp only
        rw [j3.2.2.1]
        exact h_ainN (by omega) (by omega) rfl
      · show S4.1 250 15 = _
        rw [i3.2.1 15 (by omega) (by omega) (by omega) (by omega)]; exact j3.2.2.1
      · obtain ⟨Sr', u1, u2, u3, u4, u5⟩ := ref2 Sr jr h0
        rcases q_fig (f := f) (n := n) (t := t) (k := k + 1 + 1) (x := 681 * t + 1 + 3 * m + 2) (lo := 0) (hi := hi2) hN ht4 u2.1 u2.2.1 (by omega) (by omega) (by omega) (by omega) (by omega) with ⟨v0, v1⟩ | ⟨v0, v1⟩
        · exact ⟨Sr', u1 v1, u2.2.1, u3⟩
        · exact absurd v0 i0
    · obtain ⟨o1, o2, o3⟩ := c_nxt j3.2.1
      have j4 := jC_F j3 o2 o1 (fun _ _ => rfl) (Nat.le_refl _)
      have j5 := jC_a j4 (a := 260) (x := m) (v := Int32.ofInt (vlT f n (k + 1 + 1))) (by omega) (Nat.le_refl _)
      refine ⟨_, ?_, Fx_trans fB (Fx_trans (Fx_r o2) (Fx_a (by omega))), Or.inr ⟨k + 1 + 1 + 1, z, (sr, vlT f n k, vlT f n (k + 1 + 1)), l0, l1, r, c, by omega, by omega, by omega, Nat.le_refl _, by omega, rfl, ⟨by dsimp only; omega, fun _ => ⟨by dsimp only; omega, by dsimp only; omega, fun e => by dsimp only at e ⊢; omega⟩, fun e => by dsimp only; omega⟩, fun mm ⟨p0, p1⟩ e => by rw [e]; exact ⟨lwP_add p0 (by dsimp only; omega) (fun _ _ => rfl) (Nat.le_refl _), lwP_add p1 (by dsimp only; omega) (fun _ _ => rfl) (Nat.le_refl _)⟩, ⟨by rw [decide_eq_false (by omega), Bool.or_false], by rw [decide_eq_false (by omega), Bool.or_false]⟩, jC_add j5 (x := (sr, vlT f n k, vlT f n (k + 1 + 1))) ?_ (fun _ => ?_) (fun e => ?_), fun Sr jr h0 h14 => ?_⟩⟩
      · unfold prC
        refine h_bind g3 ?_
        dsimp only
        rw [hC.2.2.1]
        refine h_ainN (by omega) (by omega) (h_pst (h_bind x1 (h_bind i3 ?_)))
        dsimp only
        rw [j3.2.2.1]
        exact h_ainN (by omega) (by omega) rfl
      · rw [ySa_ne _ _ (by omega)]
        show (ySa _ 259 _).2.2.1 258 m = _
        rw [ySa_ne _ _ (by omega)]; exact hv
      · rw [ySa_ne _ _ (by omega)]
        show (ySa _ 259 _).2.2.1 259 m = _
        rw [ySa_at, upd_at]
      · rw [ySa_at, upd_at]
      · obtain ⟨Sr', u1, u2, u3, u4, u5⟩ := ref2 Sr jr h0
        rcases q_fig (f := f) (n := n) (t := t) (k := k + 1 + 1) (x := 681 * t + 1 + 3 * m + 2) (lo := 0) (hi := hi2) hN ht4 u2.1 u2.2.1 (by omega) (by omega) (by omega) (by omega) (by omega) with ⟨v0, v1⟩ | ⟨v0, Sr2, v1, v2, v3⟩
        · exact absurd i0 v0
        · have jr2 := jR_k (jR_a u2 (x := 681 * t + 1 + 3 * m + 2) (v := Int32.ofInt (vlT f n (k + 1 + 1))) hm (by omega)) v2 v3
          refine ⟨Sr2, u1 v1, jR_add jr2 (x := (sr, vlT f n k, vlT f n (k + 1 + 1))) ?_ ?_ (fun _ => ?_), Fw_trans u3 (Fw_trans (Fw_a (by omega)) (Fw_k v2))⟩
          · rw [v2.2.2, ySa_at, upd_ne (by omega)]; exact u4
          · rw [v2.2.2, ySa_at, upd_ne (by omega)]; exact u5
          · rw [v2.2.2, ySa_at, upd_at]
end BODY
