/-! ===== the class's reader and the machine go together: loops ===== -/
def rBd (s : Nat) (K V pl : Nat → Int) (M : Nat) (S' : yS) (X : uX) : Prop := ∃ e X', (1 ≤ e ∧ e ≤ 5) ∧ rch s K V X X' ∧ (uS s K V X').1 = e ∧ X'.1 ≤ M ∧ cB S' M e (pl X'.1)
abbrev frF : Type := (Nat → Int × Int) → Nat → Nat → (eV → Int) → Prop
def rGd (s : Nat) (K V : Nat → Int) (M : Nat) (F : frF) (A : uZ → Prop) (E : Int → Prop) (S S' : yS) (k z : Nat) (X : uX) (L : Int) (P : List Int) (o : Int) (c : Nat → Int × Int) (r : Nat) : Prop := ∃ k' z' Z c' r' w, k < k' ∧ k' ≤ M ∧ cS S' k' z' ∧ z' + k ≤ z + k' ∧ rch s K V X (k', true, Z) ∧ stZ L Z = stl L P o c' r' ∧ (∀ j, j < z → cdX S' j = cdX S j) ∧ (∀ j, j < r → c' j = c j) ∧ frC s (cdX S') z z' w ∧ F c' r r' w ∧ A Z ∧ E (K k')
def rRs (s : Nat) (K V pl : Nat → Int) (M : Nat) (F : frF) (A : uZ → Prop) (E : Int → Prop) (S S' : yS) (k z : Nat) (X : uX) (L : Int) (P : List Int) (o : Int) (c : Nat → Int × Int) (r : Nat) : Prop := Fr S S' ∧ (rBd s K V pl M S' X ∨ rGd s K V M F A E S S' k z X L P o c r)
def FV (s : Nat) : frF := fun c i j w => frV s c i j w
def FT (s : Nat) : frF := fun c i j w => frT s c i j w ∧ w01 w
def AV : uZ → Prop := fun _ => True
def AT : uZ → Prop := fun Z => isC Z.1 = true ∧ opN Z.1 = 41
theorem rBd_of {s : Nat} {K V pl : Nat → Int} {M : Nat} {S' : yS} {X Y : uX} (h : rch s K V X Y) (g : rBd s K V pl M S' Y) : rBd s K V pl M S' X := by
  obtain ⟨e, X', h1, h2, h3⟩ := g
  exact ⟨e, X', h1, rch_trans h h2, h3⟩
theorem cU_ne {c : Nat → Int × Int} {r j : Nat} {v : Int × Int} (h : j ≠ r) : cU c r v j = c j := if_neg h
theorem cU_at {c : Nat → Int × Int} {r : Nat} {v : Int × Int} : cU c r v r = v := if_pos rfl
section LPG
variable {S S' : yS} {K V pl : Nat → Int} {M N s : Nat}
theorem lpG (hg : tkG K V M) {F : frF} {A : uZ → Prop} {E1 D : Int → Prop} {L L1 : Int} {P : List Int} {o : Int} {opf : Int → Int} {cmb : Int → (eV → Int) → (eV → Int) → (eV → Int)} {lp : Nat → Int32 → yS → Option yS} {R : yS → Option yS} {G : yS → Prop}
    (hGF : ∀ S S', G S → Fr S S' → G S')
    (hD : ∀ kd, D kd → (0 ≤ opf kd ∧ rkO (opf kd) = L ∧ L ≠ 4 ∧ L < 7 ∧ opf kd ≠ 20) ∧ kd ≠ 40)
    (hB : ∀ kd Z, D kd → A Z → btw kd Z.1 = opf kd)
    (hLL : L ≤ L1) (hP : tpO P < L)
    (hFl : ∀ c i j w, F c i j w → i < j)
    (hFc : ∀ c c' i j w, F c i j w → (∀ k, i ≤ k → k < j → c' k = c k) → F c' i j w)
    (hJ : ∀ kd c i j l w1 w2 cd i' j' l', D kd → F c i j w1 → F c j l w2 → (c l).1 = opf kd → frC s cd i' j' w1 → frC s cd j' l' w2 → (cd l').1 = kd → F c i (l + 1) (cmb kd w1 w2) ∧ frC s cd i' (l' + 1) (cmb kd w1 w2))
    (hR : ∀ kd S k z c r, D kd → k ≤ M → z ≤ k → tkC S K V pl M → cS S k z → G S → ∃ S', R S = some S' ∧ rRs s K V pl M F A E1 S S' k z (k, false, opf kd :: P, o, c, r) L1 (opf kd :: P) o c r)
    (hstop : ∀ (fu : Nat) (S : yS) (k i : Nat), k ≤ M → S.1 250 1 = Int32.ofInt (k : Int) → tkC S K V pl M → i < 300 → ¬ D (K k) → lp (fu + 1) (Int32.ofInt (i : Int)) S = some S)
    (hgo : ∀ fu S S1 S2 k z i Y, k ≤ M → cS S k z → tkC S K V pl M → i < 300 → D (K k) → R (ySi S 250 1 (Int32.ofInt ((k + 1 : Nat) : Int))) = some S1 → fX5_emit (Int32.ofInt (K k)) (Int32.ofInt 0) S1 = some S2 → lp fu (Int32.ofInt ((i + 1 : Nat) : Int)) S2 = Y → lp (fu + 1) (Int32.ofInt (i : Int)) S = Y)
    {S0 : yS} {k0 z0 r0 : Nat} {X0 : uX} {c0 : Nat → Int × Int} (hz0 : z0 ≤ k0) :
    ∀ (fu : Nat) (S : yS) (k i z : Nat) (Z : uZ) (c1 : Nat → Int × Int) (r1 : Nat) (w : eV → Int), M - k + 1 < fu → i < k → k0 < k → k ≤ M → tkC S K V pl M → G S → cS S k z → z + k0 ≤ z0 + k → rch s K V X0 (k, true, Z) → stZ L Z = (P, o, c1, r1) → frC s (cdX S) z0 z w → F c1 r0 r1 w → A Z → E1 (K k) → (∀ j, j < z0 → cdX S j = cdX S0 j) → (∀ j, j < r0 → c1 j = c0 j) → ∃ S', lp fu (Int32.ofInt (i : Int)) S = some S' ∧ Fr S S' ∧ (rBd s K V pl M S' X0 ∨ rGd s K V M F A (fun kd => E1 kd ∧ ¬ D kd) S0 S' k0 z0 X0 L P o c0 r0) := by
  have hM := hg.1
  intro fu
  induction fu with
  | zero => intro S k i z Z c1 r1 w hf; omega
  | succ fu ih =>
    intro S k i z Z c1 r1 w hf hi hk0 hk ht hG hc hz hr hst hC hF hA hE hlo hlr
    by_cases hd : D (K k)
    · obtain ⟨⟨d1, d2, d3, d4, d5⟩, d6⟩ := hD _ hd
      have hkM : k < M := by
        by_cases q : k < M
        · exact q
        · have : k = M := by omega
          rw [this] at d6
          exact absurd hg.2.1 d6
      obtain ⟨n1, n2, n3⟩ := c_nxt hc
      have t1 := tkC_F ht n2
      have g1 := hGF _ _ hG n2
      obtain ⟨S1, a1, a2, a3⟩ := hR (K k) _ (k + 1) z c1 r1 hd (by omega) (by omega) t1 n1 g1
      have st : uS s K V (k, true, Z) = (-1, (k + 1, false, opf (K k) :: P, o, c1, r1)) := by
        rw [bh_btw (hB _ _ hd hA) d1, d2, if_neg d3, hst]
        rfl
      have hr1 := rch_trans hr (rch_one st)
      have t2 := tkC_F t1 a2
      have g2 := hGF _ _ g1 a2
      rcases a3 with a3 | a3
      · obtain ⟨e, X', b1, b2, b3, b4, b5⟩ := a3
        obtain ⟨S2, e1, e2, e3⟩ := b_emit b5 (a := Int32.ofInt (K k)) (b := Int32.ofInt 0)
        obtain ⟨fu', rfl⟩ : ∃ q, fu = q + 1 := ⟨fu - 1, by omega⟩
        refine ⟨S2, hgo _ S S1 S2 k z i _ hk hc ht (by omega) hd a1 e1 (hstop _ S2 M (i + 1) (Nat.le_refl _) e2.1 (tkC_F t2 e3) (by omega) (fun q => (hD _ q).2 hg.2.1)), Fr_trans n2 (Fr_trans a2 e3), Or.inl ⟨e, X', b1, rch_trans hr1 b2, b3, b4, e2⟩⟩
      · obtain ⟨k2, z2, Z2, c2, r2, w2, b1, b2, b3, b4, b5, b6, b7, b8, b9, b10, b11, b12⟩ := a3
        have kr := hg.2.2.2.1 k
        obtain ⟨S2, e1, e2, e3, e4, e5⟩ := c_emit b3 (by omega) (a := K k) (v := 0) (by omega) (by omega)
        have zz := b9.1
        have zz0 := hC.1
        have rr := hFl _ _ _ _ b10
        have rr0 := hFl _ _ _ _ hF
        have hst2 : stZ L Z2 = (P, o, cU c2 r2 (opf (K k), 0), r2 + 1) := by
          rw [← stZ_stZ hLL, b6, stl_stl hLL, stl_pop (by omega), if_neg (by omega)]
          exact stl_id (Or.inl hP)
        have cc : ∀ j, j < z → cdX S2 j = cdX S j := fun j hj => by rw [e5 j (by omega), b7 j hj]; rfl
        obtain ⟨j1, j2⟩ := hJ (K k) (cU c2 r2 (opf (K k), 0)) r0 r1 r2 w w2 (cdX S2) z0 z z2 hd (hFc _ _ _ _ _ hF (fun q _ h2 => by rw [cU_ne (by omega), b8 q (by omega)])) (hFc _ _ _ _ _ b10 (fun q _ h2 => cU_ne (by omega))) (by rw [cU_at]) (frC_congr hC (fun q _ h2 => cc q (by omega))) (frC_congr b9 (fun q _ h2 => e5 q (by omega))) (by rw [e4])
        obtain ⟨S3, m1, m2, m3⟩ := ih S2 k2 (i + 1) (z2 + 1) Z2 (cU c2 r2 (opf (K k), 0)) (r2 + 1) (cmb (K k) w w2) (by omega) (by omega) (by omega) b2 (tkC_F t2 e3) (hGF _ _ g2 e3) e2 (by omega) (rch_trans hr1 b5) hst2 j2 j1 b11 b12 (fun j hj => by rw [cc j (by omega)]; exact hlo j hj) (fun j hj => by rw [cU_ne (by omega), b8 j (by omega)]; exact hlr j hj)
        exact ⟨S3, hgo _ S S1 S2 k z i _ hk hc ht (by omega) hd a1 e1 m1, Fr_trans n2 (Fr_trans a2 (Fr_trans e3 m2)), m3⟩
    · refine ⟨S, hstop _ S k i hk hc.1 ht (by omega) hd, Fr_refl S, Or.inr ⟨k, z, Z, c1, r1, w, hk0, hk, hc, hz, hr, ?_, hlo, hlr, hC, hF, hA, hE, hd⟩⟩
      rw [hst]
      exact (stl_id (Or.inl hP)).symm
end LPG
