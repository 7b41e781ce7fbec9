/-! ===== the reference's pile, as a machine over lists ===== -/
def rkO (x : Int) : Int := if 40 ≤ x then 0 else if x = 22 then 1 else if x = 21 then 2 else if x = 20 then 3 else if 10 ≤ x then 4 else if 8 ≤ x then 6 else if 6 ≤ x then 5 else 7
def cU (c : Nat → Int × Int) (r : Nat) (v : Int × Int) : Nat → Int × Int := fun j => if j = r then v else c j
abbrev uZ : Type := List Int × Int × (Nat → Int × Int) × Nat
def stl (L : Int) : List Int → Int → (Nat → Int × Int) → Nat → uZ
  | [], o, c, r => ([], o, c, r)
  | x :: P, o, c, r => if rkO x < L then (x :: P, o, c, r) else stl L P (if rkO x = 7 ∨ x = 20 then o - 1 else o) (cU c r (x, 0)) (r + 1)
def stZ (L : Int) (z : uZ) : uZ := stl L z.1 z.2.1 z.2.2.1 z.2.2.2
def opN : List Int → Int
  | [] => -1
  | x :: P => if 40 ≤ x then x else opN P
def isC : List Int → Bool
  | [] => false
  | x :: P => if rkO x ≤ 4 then decide (rkO x = 4) else isC P
def askT : List Int → Bool
  | [] => false
  | x :: _ => decide (40 ≤ x ∨ (1 ≤ rkO x ∧ rkO x ≤ 3))
def cmK (kd : Int) : Int := if kd = 25 then 10 else if kd = 36 then 11 else if kd = 26 then 12 else if kd = 37 then 13 else if kd = 27 then 14 else if kd = 28 then 15 else -1
def btw (kd : Int) (P : List Int) : Int := if kd = 29 then 6 else if kd = 30 then 7 else if kd = 31 then 8 else if kd = 32 then 9 else if opN P = 41 then (if isC P = true then (if kd = 12 then 21 else if kd = 13 then 22 else -1) else cmK kd) else -1
def prt (op kd : Int) (P : List Int) : Int := if op = 40 then (if kd = 34 then 0 else -1) else if op = 41 then (if kd = 15 ∧ isC P = true then 42 else -1) else if op = 42 then (if kd = 16 then 43 else -1) else if op = 43 then (if kd = 17 then 0 else -1) else -1
abbrev uX : Type := Nat × Bool × uZ
def opd (x : Int) (X : uX) : Int × uX := if X.2.2.2.1 = 8 then (3, X) else (-1, (X.1 + 1, false, x :: X.2.2.1, X.2.2.2.1 + 1, X.2.2.2.2.1, X.2.2.2.2.2))
def bgn (s : Nat) (kd vl : Int) (X : uX) : Int × uX := if kd = 38 then (if 9999 < vl then (2, X) else (-1, (X.1 + 1, true, stl 7 X.2.2.1 X.2.2.2.1 (cU X.2.2.2.2.1 X.2.2.2.2.2 (0, vl)) (X.2.2.2.2.2 + 1)))) else if kd ≤ 8 then (if okN s kd = true then (-1, (X.1 + 1, true, stl 7 X.2.2.1 X.2.2.2.1 (cU X.2.2.2.2.1 X.2.2.2.2.2 (1, kd)) (X.2.2.2.2.2 + 1))) else (5, X)) else if kd = 33 then opd 40 X else if kd = 30 then opd 5 X else if kd = 9 then opd 2 X else if kd = 10 then opd 4 X else if kd = 14 then opd 41 X else if kd = 11 then (if opN X.2.2.1 = 41 ∧ askT X.2.2.1 = true then opd 20 X else (1, X)) else (1, X)
def pshZ (b : Int) (q : uZ) : uZ := (b :: q.1, q.2)
def bhd (kd : Int) (X : uX) : Int × uX := if 0 ≤ btw kd X.2.2.1 then (-1, (X.1 + 1, false, pshZ (btw kd X.2.2.1) (stZ (if rkO (btw kd X.2.2.1) = 4 then 5 else rkO (btw kd X.2.2.1)) X.2.2))) else if prt (opN X.2.2.1) kd X.2.2.1 < 0 then (if 0 ≤ opN X.2.2.1 then (1, X) else (0, (X.1, true, stZ 1 X.2.2))) else if 0 < prt (opN X.2.2.1) kd X.2.2.1 then (-1, (X.1 + 1, false, prt (opN X.2.2.1) kd X.2.2.1 :: (stZ 1 X.2.2).1.tail, (stZ 1 X.2.2).2)) else (-1, (X.1 + 1, true, if opN X.2.2.1 = 43 then stl 7 (stZ 1 X.2.2).1.tail ((stZ 1 X.2.2).2.1 - 1) (cU (stZ 1 X.2.2).2.2.1 (stZ 1 X.2.2).2.2.2 (3, 0)) ((stZ 1 X.2.2).2.2.2 + 1) else stl 7 (stZ 1 X.2.2).1.tail ((stZ 1 X.2.2).2.1 - 1) (stZ 1 X.2.2).2.2.1 (stZ 1 X.2.2).2.2.2))
def uS (s : Nat) (K V : Nat → Int) (X : uX) : Int × uX := if X.2.1 = true then bhd (K X.1) X else bgn s (K X.1) (V X.1) X
/-! settling -/
theorem rkO_rng (x : Int) : 0 ≤ rkO x ∧ rkO x ≤ 7 := by
  unfold rkO
  repeat' split
  all_goals omega
theorem rkO_40 {x : Int} : rkO x = 0 ↔ 40 ≤ x := by
  unfold rkO
  repeat' split
  all_goals omega
theorem stl_stl {a b : Int} (h : a ≤ b) : ∀ (P : List Int) (o : Int) (c : Nat → Int × Int) (r : Nat), stZ a (stl b P o c r) = stl a P o c r
  | [], _, _, _ => rfl
  | x :: P, o, c, r => by
    by_cases q : rkO x < b
    · have e : stl b (x :: P) o c r = (x :: P, o, c, r) := if_pos q
      rw [e]; rfl
    · have e : stl b (x :: P) o c r = stl b P (if rkO x = 7 ∨ x = 20 then o - 1 else o) (cU c r (x, 0)) (r + 1) := if_neg q
      have e2 : stl a (x :: P) o c r = stl a P (if rkO x = 7 ∨ x = 20 then o - 1 else o) (cU c r (x, 0)) (r + 1) := if_neg (by omega)
      rw [e, e2]
      exact stl_stl h P _ _ _
theorem stZ_stZ {a b : Int} (h : a ≤ b) (z : uZ) : stZ a (stZ b z) = stZ a z := stl_stl h _ _ _ _
theorem stl_opN {L : Int} (h : 1 ≤ L) : ∀ (P : List Int) (o : Int) (c : Nat → Int × Int) (r : Nat), opN (stl L P o c r).1 = opN P
  | [], _, _, _ => rfl
  | x :: P, o, c, r => by
    by_cases q : rkO x < L
    · have e : stl L (x :: P) o c r = (x :: P, o, c, r) := if_pos q
      rw [e]
    · have e : stl L (x :: P) o c r = stl L P (if rkO x = 7 ∨ x = 20 then o - 1 else o) (cU c r (x, 0)) (r + 1) := if_neg q
      have h40 : ¬ 40 ≤ x := fun z => by have := rkO_40.mpr z; omega
      rw [e, stl_opN h P]
      show _ = if 40 ≤ x then x else opN P
      rw [if_neg h40]
theorem stZ_opN {L : Int} (h : 1 ≤ L) (z : uZ) : opN (stZ L z).1 = opN z.1 := stl_opN h _ _ _ _
theorem stl_isC {L : Int} (h : 5 ≤ L) : ∀ (P : List Int) (o : Int) (c : Nat → Int × Int) (r : Nat), isC (stl L P o c r).1 = isC P
  | [], _, _, _ => rfl
  | x :: P, o, c, r => by
    by_cases q : rkO x < L
    · have e : stl L (x :: P) o c r = (x :: P, o, c, r) := if_pos q
      rw [e]
    · have e : stl L (x :: P) o c r = stl L P (if rkO x = 7 ∨ x = 20 then o - 1 else o) (cU c r (x, 0)) (r + 1) := if_neg q
      rw [e, stl_isC h P]
      show _ = if rkO x ≤ 4 then decide (rkO x = 4) else isC P
      rw [if_neg (by omega)]
theorem stZ_isC {L : Int} (h : 5 ≤ L) (z : uZ) : isC (stZ L z).1 = isC z.1 := stl_isC h _ _ _ _
/-- the rank on top -/
def tpO : List Int → Int
  | [] => 0
  | x :: _ => rkO x
theorem stl_id {L : Int} {P : List Int} {o : Int} {c : Nat → Int × Int} {r : Nat} (h : tpO P < L ∨ P = []) : stl L P o c r = (P, o, c, r) := by
  cases P with
  | nil => rfl
  | cons x P =>
    rcases h with h | h
    · exact if_pos h
    · cases h
theorem stl_lt {L : Int} : ∀ (P : List Int) (o : Int) (c : Nat → Int × Int) (r : Nat), tpO (stl L P o c r).1 < L ∨ (stl L P o c r).1 = []
  | [], _, _, _ => Or.inr rfl
  | x :: P, o, c, r => by
    by_cases q : rkO x < L
    · have e : stl L (x :: P) o c r = (x :: P, o, c, r) := if_pos q
      rw [e]; exact Or.inl q
    · have e : stl L (x :: P) o c r = stl L P (if rkO x = 7 ∨ x = 20 then o - 1 else o) (cU c r (x, 0)) (r + 1) := if_neg q
      rw [e]; exact stl_lt P _ _ _
theorem stl_op : ∀ (P : List Int) (o : Int) (c : Nat → Int × Int) (r : Nat), 0 ≤ opN P → ∃ Q, (stl 1 P o c r).1 = opN P :: Q
  | [], _, _, _, h => absurd h (by decide)
  | x :: P, o, c, r, h => by
    by_cases q : 40 ≤ x
    · have e : stl 1 (x :: P) o c r = (x :: P, o, c, r) := if_pos (by have := rkO_40.mpr q; omega)
      have e2 : opN (x :: P) = x := if_pos q
      rw [e, e2]; exact ⟨P, rfl⟩
    · have hr := rkO_rng x
      have e : stl 1 (x :: P) o c r = stl 1 P (if rkO x = 7 ∨ x = 20 then o - 1 else o) (cU c r (x, 0)) (r + 1) := if_neg (fun z => q (rkO_40.mp (by omega)))
      have e2 : opN (x :: P) = opN P := if_neg q
      rw [e2] at h ⊢
      rw [e]; exact stl_op P _ _ _ h
theorem opN_40 : ∀ P : List Int, 0 ≤ opN P → 40 ≤ opN P
  | [], h => absurd h (by decide)
  | x :: P, h => by
    by_cases q : 40 ≤ x
    · have e2 : opN (x :: P) = x := if_pos q
      rw [e2]; exact q
    · have e2 : opN (x :: P) = opN P := if_neg q
      rw [e2] at h ⊢; exact opN_40 P h
/-! what stays true of the pile -/
def opc (x : Int) : Bool := decide (40 ≤ x ∨ rkO x = 7 ∨ x = 20)
def ocn : List Int → Int
  | [] => 0
  | x :: P => (if opc x = true then 1 else 0) + ocn P
def tpQ (P : List Int) : Int := match P with
  | [] => 0
  | x :: _ => if opc x = true then 0 else rkO x
def okp : List Int → Prop
  | [] => True
  | x :: P => okp P ∧ (opc x = true ∨ tpQ P < rkO x) ∧ 2 ≤ x ∧ x ≤ 43
def inv (X : uX) : Prop := okp X.2.2.1 ∧ X.2.2.2.1 = ocn X.2.2.1 ∧ X.2.2.2.1 ≤ 8 ∧ X.2.2.2.2.2 + X.2.2.1.length ≤ X.1
theorem ocn_nn : ∀ P, 0 ≤ ocn P
  | [] => by decide
  | x :: P => by
    have := ocn_nn P
    show 0 ≤ (if opc x = true then 1 else 0) + ocn P
    split <;> omega
theorem tpQ_rng (P : List Int) : 0 ≤ tpQ P ∧ tpQ P ≤ 6 := by
  cases P with
  | nil => show (0 : Int) ≤ 0 ∧ (0 : Int) ≤ 6; omega
  | cons x P =>
    show 0 ≤ (if opc x = true then 0 else rkO x) ∧ (if opc x = true then 0 else rkO x) ≤ 6
    have hr := rkO_rng x
    by_cases q : opc x = true
    · rw [if_pos q]; omega
    · rw [if_neg q]
      have : ¬ (40 ≤ x ∨ rkO x = 7 ∨ x = 20) := fun z => q (decide_eq_true z)
      omega
theorem okp_len : ∀ P, okp P → (P.length : Int) ≤ 7 * ocn P + tpQ P
  | [], _ => by decide
  | x :: P, h => by
    obtain ⟨h1, h2, -⟩ := h
    have ih := okp_len P h1
    have tr := tpQ_rng P
    show ((P.length + 1 : Nat) : Int) ≤ 7 * ((if opc x = true then 1 else 0) + ocn P) + (if opc x = true then 0 else rkO x)
    by_cases q : opc x = true
    · rw [if_pos q, if_pos q]; omega
    · rw [if_neg q, if_neg q]
      rcases h2 with h2 | h2
      · exact absurd h2 q
      · omega
theorem inv_len {X : uX} (h : inv X) : X.2.2.1.length < 70 := by
  have := okp_len _ h.1
  have := tpQ_rng X.2.2.1
  have := h.2.1
  have := h.2.2.1
  omega
/-- settling keeps it -/
theorem stl_inv {L : Int} : ∀ (P : List Int) (o : Int) (c : Nat → Int × Int) (r : Nat), 1 ≤ L → okp P → o = ocn P → okp (stl L P o c r).1 ∧ (stl L P o c r).2.1 = ocn (stl L P o c r).1 ∧ (stl L P o c r).2.1 ≤ o ∧ (stl L P o c r).2.2.2 + (stl L P o c r).1.length = r + P.length ∧ (stl L P o c r).1.length ≤ P.length
  | [], o, c, r, hL, h, ho => ⟨h, ho, Int.le_refl _, rfl, Nat.le_refl _⟩
  | x :: P, o, c, r, hL, h, ho => by
    by_cases q : rkO x < L
    · have e : stl L (x :: P) o c r = (x :: P, o, c, r) := if_pos q
      rw [e]; exact ⟨h, ho, Int.le_refl _, rfl, Nat.le_refl _⟩
    · have e : stl L (x :: P) o c r = stl L P (if rkO x = 7 ∨ x = 20 then o - 1 else o) (cU c r (x, 0)) (r + 1) := if_neg q
      have h40 : ¬ 40 ≤ x := fun z => by have := rkO_40.mpr z; omega
      have ho2 : (if rkO x = 7 ∨ x = 20 then o - 1 else o) = ocn P := by
        have ho : o = (if opc x = true then 1 else 0) + ocn P := ho
        by_cases z : rkO x = 7 ∨ x = 20
        · have : opc x = true := decide_eq_true (Or.inr z)
          rw [if_pos this] at ho
          rw [if_pos z]; omega
        · have : ¬ opc x = true := fun y => (of_decide_eq_true y).elim h40 z
          rw [if_neg this] at ho
          rw [if_neg z]; omega
      rw [e]
      obtain ⟨a, b, c2, d, d2⟩ := stl_inv P _ (cU c r (x, 0)) (r + 1) hL h.1 ho2
      refine ⟨a, b, ?_, ?_, ?_⟩
      · have : (if rkO x = 7 ∨ x = 20 then o - 1 else o) ≤ o := by split <;> omega
        omega
      · rw [d]
        show r + 1 + P.length = r + (P.length + 1)
        omega
      · show (stl L P _ _ _).1.length ≤ P.length + 1
        omega
theorem stl_7 {P : List Int} {o : Int} {c : Nat → Int × Int} {r k : Nat} (h : okp P) (ho : o = ocn P) (h8 : o ≤ 8) (hk : r + P.length ≤ k) : inv (k, true, stl 7 P o c r) := by
  obtain ⟨a, b, c2, d, d2⟩ := stl_inv P o c r (L := 7) (by omega) h ho
  exact ⟨a, b, by show (stl 7 P o c r).2.1 ≤ 8; omega, by show (stl 7 P o c r).2.2.2 + (stl 7 P o c r).1.length ≤ k; omega⟩
theorem opd_inv {x : Int} {X : uX} (h : inv X) (hx : opc x = true ∧ 2 ≤ x ∧ x ≤ 43) (hq : (opd x X).1 = -1) : inv (opd x X).2 := by
  unfold opd at hq ⊢
  by_cases q : X.2.2.2.1 = 8
  · rw [if_pos q] at hq; (dsimp only at hq; omega)
  · rw [if_neg q]
    obtain ⟨a, b, c, d⟩ := h
    refine ⟨⟨a, Or.inl hx.1, hx.2⟩, ?_, ?_, ?_⟩
    · show X.2.2.2.1 + 1 = (if opc x = true then 1 else 0) + ocn X.2.2.1
      rw [if_pos hx.1]; omega
    · show X.2.2.2.1 + 1 ≤ 8
      omega
    · show X.2.2.2.2.2 + (X.2.2.1.length + 1) ≤ X.1 + 1
      omega
theorem bgn_inv {s : Nat} {kd vl : Int} {X : uX} (h : inv X) (hq : (bgn s kd vl X).1 = -1) : inv (bgn s kd vl X).2 := by
  unfold bgn at hq ⊢
  by_cases k38 : kd = 38
  · rw [if_pos k38] at hq ⊢
    by_cases v : 9999 < vl
    · rw [if_pos v] at hq; (dsimp only at hq; omega)
    · rw [if_neg v]
      exact stl_7 h.1 h.2.1 h.2.2.1 (by have := h.2.2.2; omega)
  · rw [if_neg k38] at hq ⊢
    by_cases k8 : kd ≤ 8
    · rw [if_pos k8] at hq ⊢
      by_cases v : okN s kd = true
      · rw [if_pos v]
        exact stl_7 h.1 h.2.1 h.2.2.1 (by have := h.2.2.2; omega)
      · rw [if_neg v] at hq; (dsimp only at hq; omega)
    · rw [if_neg k8] at hq ⊢
      by_cases a1 : kd = 33
      · rw [if_pos a1] at hq ⊢; exact opd_inv h (by decide) hq
      · rw [if_neg a1] at hq ⊢
        by_cases a2 : kd = 30
        · rw [if_pos a2] at hq ⊢; exact opd_inv h (by decide) hq
        · rw [if_neg a2] at hq ⊢
          by_cases a3 : kd = 9
          · rw [if_pos a3] at hq ⊢; exact opd_inv h (by decide) hq
          · rw [if_neg a3] at hq ⊢
            by_cases a4 : kd = 10
            · rw [if_pos a4] at hq ⊢; exact opd_inv h (by decide) hq
            · rw [if_neg a4] at hq ⊢
              by_cases a5 : kd = 14
              · rw [if_pos a5] at hq ⊢; exact opd_inv h (by decide) hq
              · rw [if_neg a5] at hq ⊢
                by_cases a6 : kd = 11
                · rw [if_pos a6] at hq ⊢
                  by_cases v : opN X.2.2.1 = 41 ∧ askT X.2.2.1 = true
                  · rw [if_pos v] at hq ⊢; exact opd_inv h (by decide) hq
                  · rw [if_neg v] at hq; (dsimp only at hq; omega)
                · rw [if_neg a6] at hq; (dsimp only at hq; omega)
theorem cmK_rng (kd : Int) : cmK kd = -1 ∨ (10 ≤ cmK kd ∧ cmK kd ≤ 15) := by
  unfold cmK
  repeat' split
  all_goals omega
theorem btw_all (kd : Int) (P : List Int) : (6 ≤ btw kd P ∧ btw kd P ≤ 9) ∨ btw kd P = 21 ∨ btw kd P = 22 ∨ (isC P = false ∧ 10 ≤ btw kd P ∧ btw kd P ≤ 15) ∨ btw kd P = -1 := by
  unfold btw
  by_cases k1 : kd = 29
  · rw [if_pos k1]; omega
  rw [if_neg k1]
  by_cases k2 : kd = 30
  · rw [if_pos k2]; omega
  rw [if_neg k2]
  by_cases k3 : kd = 31
  · rw [if_pos k3]; omega
  rw [if_neg k3]
  by_cases k4 : kd = 32
  · rw [if_pos k4]; omega
  rw [if_neg k4]
  by_cases k5 : opN P = 41
  · rw [if_pos k5]
    cases c : isC P with
    | true =>
      rw [if_pos rfl]
      by_cases k6 : kd = 12
      · rw [if_pos k6]; omega
      rw [if_neg k6]
      by_cases k7 : kd = 13
      · rw [if_pos k7]; omega
      · rw [if_neg k7]; omega
    | false =>
      rw [if_neg (by decide)]
      rcases cmK_rng kd with e | e
      · exact Or.inr (Or.inr (Or.inr (Or.inr e)))
      · exact Or.inr (Or.inr (Or.inr (Or.inl ⟨rfl, e⟩)))
  · rw [if_neg k5]; omega
theorem btw_rng {kd : Int} {P : List Int} (h : 0 ≤ btw kd P) : 6 ≤ btw kd P ∧ btw kd P ≤ 22 ∧ btw kd P ≠ 20 ∧ (btw kd P ≤ 15 ∨ 21 ≤ btw kd P) ∧ (10 ≤ btw kd P ∧ btw kd P ≤ 15 → isC P = false) := by
  rcases btw_all kd P with e | e | e | ⟨c, e⟩ | e
  · exact ⟨by omega, by omega, by omega, by omega, fun q => by omega⟩
  · exact ⟨by omega, by omega, by omega, by omega, fun q => by omega⟩
  · exact ⟨by omega, by omega, by omega, by omega, fun q => by omega⟩
  · exact ⟨by omega, by omega, by omega, by omega, fun _ => c⟩
  · omega
theorem bhd_inv {kd : Int} {X : uX} (h : inv X) (hq : (bhd kd X).1 = -1) : inv (bhd kd X).2 := by
  obtain ⟨h1, h2, h3, h4⟩ := h
  unfold bhd at hq ⊢
  by_cases b0 : 0 ≤ btw kd X.2.2.1
  · rw [if_pos b0]
    obtain ⟨r1, r2, r3, r4, r5⟩ := btw_rng b0
    generalize hb : btw kd X.2.2.1 = b at *
    have rb := rkO_rng b
    have rk : rkO b = 1 ∨ rkO b = 2 ∨ rkO b = 4 ∨ rkO b = 5 ∨ rkO b = 6 := by
      unfold rkO
      repeat' split
      all_goals omega
    have rk4 : rkO b = 4 ↔ 10 ≤ b ∧ b ≤ 15 := by
      unfold rkO
      repeat' split
      all_goals omega
    have nop : ¬ opc b = true := fun y => by
      have := of_decide_eq_true y
      omega
    obtain ⟨L, hL⟩ : ∃ L : Int, L = (if rkO b = 4 then 5 else rkO b) := ⟨_, rfl⟩
    rw [← hL]
    have hL1 : 1 ≤ L := by
      rw [hL]; split <;> omega
    obtain ⟨a1, a2, a3, a4, a5⟩ := stl_inv (L := L) X.2.2.1 X.2.2.2.1 X.2.2.2.2.1 X.2.2.2.2.2 hL1 h1 h2
    have tl := stl_lt (L := L) X.2.2.1 X.2.2.2.1 X.2.2.2.2.1 X.2.2.2.2.2
    have tp : tpQ (stl L X.2.2.1 X.2.2.2.1 X.2.2.2.2.1 X.2.2.2.2.2).1 < rkO b := by
      have ic : rkO b = 4 → isC (stl L X.2.2.1 X.2.2.2.1 X.2.2.2.2.1 X.2.2.2.2.2).1 = false := fun z => by
        have : L = 5 := by rw [hL, if_pos z]
        rw [this, stl_isC (by omega)]
        exact r5 (rk4.mp z)
      generalize (stl L X.2.2.1 X.2.2.2.1 X.2.2.2.2.1 X.2.2.2.2.2).1 = Q at tl ic
      cases Q with
      | nil => show (0 : Int) < rkO b; omega
      | cons y Q =>
        have ry := rkO_rng y
        show (if opc y = true then 0 else rkO y) < rkO b
        split
        · omega
        · rcases tl with tl | tl
          · have tl : rkO y < L := tl
            by_cases z : rkO b = 4
            · have := ic z
              have e : isC (y :: Q) = if rkO y ≤ 4 then decide (rkO y = 4) else isC Q := rfl
              have L5 : L = 5 := by rw [hL, if_pos z]
              rw [e, if_pos (by omega)] at this
              have := of_decide_eq_false this
              omega
            · rw [hL, if_neg z] at tl
              exact tl
          · cases tl
    refine ⟨⟨a1, Or.inr tp, by omega, by omega⟩, ?_, ?_, ?_⟩
    · show (stl L X.2.2.1 X.2.2.2.1 X.2.2.2.2.1 X.2.2.2.2.2).2.1 = (if opc b = true then 1 else 0) + ocn (stl L X.2.2.1 X.2.2.2.1 X.2.2.2.2.1 X.2.2.2.2.2).1
      rw [if_neg nop]; omega
    · show (stl L X.2.2.1 X.2.2.2.1 X.2.2.2.2.1 X.2.2.2.2.2).2.1 ≤ 8
      omega
    · show (stl L X.2.2.1 X.2.2.2.1 X.2.2.2.2.1 X.2.2.2.2.2).2.2.2 + ((stl L X.2.2.1 X.2.2.2.1 X.2.2.2.2.1 X.2.2.2.2.2).1.length + 1) ≤ X.1 + 1
      omega
  · rw [if_neg b0] at hq ⊢
    by_cases p0 : prt (opN X.2.2.1) kd X.2.2.1 < 0
    · rw [if_pos p0] at hq
      by_cases o0 : 0 ≤ opN X.2.2.1
      · rw [if_pos o0] at hq; (dsimp only at hq; omega)
      · rw [if_neg o0] at hq; (dsimp only at hq; omega)
    · rw [if_neg p0] at hq ⊢
      have o0 : 0 ≤ opN X.2.2.1 := by
        unfold prt at p0
        repeat' split at p0
        all_goals omega
      have o40 := opN_40 _ o0
      obtain ⟨Q, hQ⟩ := stl_op X.2.2.1 X.2.2.2.1 X.2.2.2.2.1 X.2.2.2.2.2 o0
      obtain ⟨a1, a2, a3, a4, a5⟩ := stl_inv (L := 1) X.2.2.1 X.2.2.2.1 X.2.2.2.2.1 X.2.2.2.2.2 (by omega) h1 h2
      have pr : prt (opN X.2.2.1) kd X.2.2.1 ≤ 43 ∧ (0 < prt (opN X.2.2.1) kd X.2.2.1 → 42 ≤ prt (opN X.2.2.1) kd X.2.2.1) := by
        unfold prt
        repeat' split
        all_goals omega
      have op1 : opc (opN X.2.2.1) = true := decide_eq_true (Or.inl o40)
      have e1 : stZ 1 X.2.2 = stl 1 X.2.2.1 X.2.2.2.1 X.2.2.2.2.1 X.2.2.2.2.2 := rfl
      generalize stl 1 X.2.2.1 X.2.2.2.1 X.2.2.2.2.1 X.2.2.2.2.2 = Z at *
      rw [hQ] at a1 a2 a4 a5
      have a2 : Z.2.1 = (if opc (opN X.2.2.1) = true then 1 else 0) + ocn Q := a2
      rw [if_pos op1] at a2
      have a4 : Z.2.2.2 + (Q.length + 1) = X.2.2.2.2.2 + X.2.2.1.length := a4
      rw [e1, hQ]
      by_cases p1 : 0 < prt (opN X.2.2.1) kd X.2.2.1
      · rw [if_pos p1]
        have op2 : opc (prt (opN X.2.2.1) kd X.2.2.1) = true := decide_eq_true (Or.inl (by omega))
        refine ⟨⟨a1.1, Or.inl op2, by omega, by omega⟩, ?_, ?_, ?_⟩
        · show Z.2.1 = (if opc (prt (opN X.2.2.1) kd X.2.2.1) = true then 1 else 0) + ocn Q
          rw [if_pos op2]; exact a2
        · show Z.2.1 ≤ 8
          omega
        · show Z.2.2.2 + (Q.length + 1) ≤ X.1 + 1
          omega
      · rw [if_neg p1]
        by_cases o43 : opN X.2.2.1 = 43
        · rw [if_pos o43]
          exact stl_7 (P := Q) a1.1 (by omega) (by omega) (by omega)
        · rw [if_neg o43]
          exact stl_7 (P := Q) a1.1 (by omega) (by omega) (by omega)
theorem uS_inv {s : Nat} {K V : Nat → Int} {X : uX} (h : inv X) (hq : (uS s K V X).1 = -1) : inv (uS s K V X).2 := by
  unfold uS at hq ⊢
  by_cases q : X.2.1 = true
  · rw [if_pos q] at hq ⊢; exact bhd_inv h hq
  · rw [if_neg q] at hq ⊢; exact bgn_inv h hq
