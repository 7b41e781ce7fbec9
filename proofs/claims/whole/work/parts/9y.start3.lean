/-! ===== what stands after the constructors ===== -/
def dI (b : Nat) (S : yS) (A : Nat → Int) : Bool := decide (S.1 (18 + b) 5 = Int32.ofInt (A 0)) && (decide (S.1 (18 + b) 8 = Int32.ofInt (A 1)) && (decide (S.1 (18 + b) 9 = Int32.ofInt (A 2)) && (decide (S.1 (18 + b) 15 = Int32.ofInt (A 5)) && decide (S.1 (119 + b) 2 = Int32.ofInt (A 4)))))
def dA (b : Nat) (S : yS) (A : Nat → Int) : Bool := cTab.all fun e => (List.range e.2.1).all fun k => decide (S.2.2.1 (e.1 + b) k = Int32.ofInt (A (e.2.2.1 + e.2.2.2.1 * k)))
def dM (q : Nat) (f : Nat → Int) (S : yS) : Bool := decide (S.1 q 0 = Int32.ofInt (f 6)) && (decide (S.1 q 1 = Int32.ofInt (f 2)) && (decide (S.1 q 2 = Int32.ofInt (f 3)) && (decide (S.1 q 3 = Int32.ofInt (f 4)) && (decide (S.1 q 4 = Int32.ofInt (f 0)) && (decide (S.1 q 5 = Int32.ofInt (f 1)) && (decide (S.1 q 8 = Int32.ofInt (f 5)) && ((List.range 8).all (fun k => decide (S.2.2.1 (q + 1) k = Int32.ofInt (f (7 + k)))) && decide (f 5 = 0))))))))
def dS (b : Nat) (A : Nat → Int) (S : yS) : Bool := (List.range 30).all (fun t => decide (S.2.2.2.2 (23 + b) t = some (24 + b + 3 * t))) && (decide (S.1 (22 + b) 2 = Int32.ofInt (A 3)) && (decide (S.1 (22 + b) 1 = Int32.ofInt 0) && decide (A 3 = 0)))
def dN (f : Nat → Int) : Bool := decide ((0 ≤ f 0 ∧ f 0 ≤ 9999) ∧ (0 ≤ f 1 ∧ f 1 < 30949) ∧ (-9999 ≤ f 2 ∧ f 2 ≤ 9999) ∧ (0 ≤ f 3 ∧ f 3 ≤ 8) ∧ (0 ≤ f 4 ∧ f 4 ≤ 9) ∧ f 5 = 0 ∧ f 6 = 0) && (List.range 8).all (fun k => decide (0 ≤ f (7 + k) ∧ f (7 + k) ≤ 9999))
def dR (A : Nat → Int) : Bool := decide (A 0 = 0 ∧ A 1 = 0 ∧ A 2 = -1 ∧ A 3 = 0 ∧ (0 ≤ A 4 ∧ A 4 ≤ 12) ∧ (0 ≤ A 5 ∧ A 5 ≤ 8)) && (cTab.all (fun e => (List.range e.2.1).all fun k => decide (e.2.2.2.2.1 ≤ A (e.2.2.1 + e.2.2.2.1 * k) ∧ A (e.2.2.1 + e.2.2.2.1 * k) ≤ e.2.2.2.2.2)) && dN (nowF A))
def dC (b : Nat) (S : yS) (A : Nat → Int) : Bool := dI b S A && (dA b S A && (dM (19 + b) (nowF A) S && (dS b A S && dR A)))
def dF (S : yS) : Bool := decide (S.1 16 9 = S.1 265 5 ∧ S.1 16 10 = S.1 265 6 ∧ S.1 265 23 = Int32.ofInt 1 ∧ S.1 251 1 = Int32.ofInt 0 ∧ S.1 265 4 = Int32.ofInt 0) && (List.range 4).all (fun t => decide (S.2.2.2.2 118 t = none ∧ S.2.2.2.2 233 t = none))
def dAll (S : yS) : Bool := dC 0 S (rv S 266) && (dC 115 S (rv S 266) && dF S)
theorem rg_all {n : Nat} {P : Nat → Bool} (h : (List.range n).all P = true) {k : Nat} (hk : k < n) : P k = true := List.all_eq_true.mp h k (List.mem_range.mpr hk)
theorem dC_c {b : Nat} {S : yS} {A : Nat → Int} (h : dC b S A = true) : cR b A S ∧ rI A ∧ A 1 = 0 := by
  unfold dC at h
  obtain ⟨hI, h⟩ := Bool.and_eq_true_iff.mp h
  obtain ⟨hA, h⟩ := Bool.and_eq_true_iff.mp h
  obtain ⟨hM, h⟩ := Bool.and_eq_true_iff.mp h
  obtain ⟨hS, hR⟩ := Bool.and_eq_true_iff.mp h
  unfold dI at hI
  obtain ⟨i1, hI⟩ := Bool.and_eq_true_iff.mp hI
  obtain ⟨i2, hI⟩ := Bool.and_eq_true_iff.mp hI
  obtain ⟨i3, hI⟩ := Bool.and_eq_true_iff.mp hI
  obtain ⟨i4, i5⟩ := Bool.and_eq_true_iff.mp hI
  unfold dM at hM
  obtain ⟨m1, hM⟩ := Bool.and_eq_true_iff.mp hM
  obtain ⟨m2, hM⟩ := Bool.and_eq_true_iff.mp hM
  obtain ⟨m3, hM⟩ := Bool.and_eq_true_iff.mp hM
  obtain ⟨m4, hM⟩ := Bool.and_eq_true_iff.mp hM
  obtain ⟨m5, hM⟩ := Bool.and_eq_true_iff.mp hM
  obtain ⟨m6, hM⟩ := Bool.and_eq_true_iff.mp hM
  obtain ⟨m7, hM⟩ := Bool.and_eq_true_iff.mp hM
  obtain ⟨m8, m9⟩ := Bool.and_eq_true_iff.mp hM
  unfold dS at hS
  obtain ⟨s1, hS⟩ := Bool.and_eq_true_iff.mp hS
  obtain ⟨s2, hS⟩ := Bool.and_eq_true_iff.mp hS
  obtain ⟨s3, s4⟩ := Bool.and_eq_true_iff.mp hS
  unfold dR at hR
  obtain ⟨r1, hR⟩ := Bool.and_eq_true_iff.mp hR
  obtain ⟨r2, r3⟩ := Bool.and_eq_true_iff.mp hR
  unfold dN at r3
  obtain ⟨n1, n2⟩ := Bool.and_eq_true_iff.mp r3
  have r1 := of_decide_eq_true r1
  have n1 := of_decide_eq_true n1
  have m9 := of_decide_eq_true m9
  have s4 := of_decide_eq_true s4
  obtain ⟨a0, a1, a2, a3, a4, a5⟩ := r1
  obtain ⟨f0, f1, f2, f3, f4, f5, f6⟩ := n1
  refine ⟨⟨⟨of_decide_eq_true i1, of_decide_eq_true i2, of_decide_eq_true i3, of_decide_eq_true i4, of_decide_eq_true i5⟩, fun e he k hk => ?_, ⟨⟨of_decide_eq_true m1, of_decide_eq_true m2, of_decide_eq_true m3, of_decide_eq_true m4, of_decide_eq_true m5, of_decide_eq_true m6, of_decide_eq_true m7⟩, fun k hk => of_decide_eq_true (rg_all m8 hk), fun k hk => by omega⟩, ⟨fun t ht => of_decide_eq_true (rg_all s1 ht), of_decide_eq_true s2, 0, by omega, of_decide_eq_true s3, fun i hi => by omega⟩⟩, ⟨⟨by omega, by omega, by omega, by omega, a4, a5⟩, fun e he k hk => ?_, fun k hk => by omega, ⟨f0, f1, f2, f3, f4, by omega, ⟨by omega, ?_⟩, fun k hk => of_decide_eq_true (rg_all n2 hk), fun k hk => by omega⟩, fun i hi => by omega⟩, a1⟩
  · exact of_decide_eq_true (rg_all (List.all_eq_true.mp hA e he) hk)
  · exact of_decide_eq_true (rg_all (List.all_eq_true.mp r2 e he) hk)
  · rw [f6, a0]; decide
theorem dAll_Rel {S : yS} {f : Nat → Int32} (h : dAll S = true) (hf : ∀ k, k < 1338 → f k = S.2.2.1 266 k) : Rel (fun _ => none) (ySa S 267 f) := by
  unfold dAll at h
  obtain ⟨h0, h⟩ := Bool.and_eq_true_iff.mp h
  obtain ⟨h1, hF⟩ := Bool.and_eq_true_iff.mp h
  obtain ⟨c0, r0, z0⟩ := dC_c h0
  obtain ⟨c1, r1, z1⟩ := dC_c h1
  have e6 : rv (ySa S 267 f) 266 = rv S 266 := rv_congr (ySa_ne S f (show 266 ≠ 267 by omega))
  have e7 : ∀ k, k < 1338 → rv (ySa S 267 f) 267 k = rv S 266 k := fun k hk => by
    rw [rv_ySa]
    unfold rf
    rw [hf k hk]
    rfl
  have cc0 : cR 0 (rv (ySa S 267 f) 266) (ySa S 267 f) := by
    rw [e6]
    exact cR_frame c0 r0 (fun i _ _ => rfl) (fun i a b _ => ySa_ne _ _ (by omega)) rfl
  have cc1 : cR 115 (rv (ySa S 267 f) 267) (ySa S 267 f) := cR_lt (cR_frame c1 r0 (fun i _ _ => rfl) (fun i a b _ => ySa_ne _ _ (by omega)) rfl) r0 e7
  have rr0 : rI (rv (ySa S 267 f) 266) := by rw [e6]; exact r0
  have rr1 : rI (rv (ySa S 267 f) 267) := rI_lt r0 e7
  have zz0 : rv (ySa S 267 f) 266 1 = 0 := by rw [e6]; exact z0
  have zz1 : rv (ySa S 267 f) 267 1 = 0 := by rw [e7 1 (by omega)]; exact z0
  unfold dF at hF
  obtain ⟨f1, f2⟩ := Bool.and_eq_true_iff.mp hF
  obtain ⟨g1, g2, g3, g4, g5⟩ := of_decide_eq_true f1
  have g6 : ∀ t, t < 4 → S.2.2.2.2 118 t = none ∧ S.2.2.2.2 233 t = none := fun t ht => of_decide_eq_true (rg_all f2 ht)
  refine ⟨cc0, cc1, rr0, rr1, tpR_0 (S := ySa S 267 f) g4 g5, ⟨g1, g2, g3⟩, ⟨by omega, ⟨fun _ => 0, fun t ht => by omega, fun t ht => by omega⟩, fun t ht => Or.inl (g6 t ht).1, fun t ht => Or.inl (g6 t ht).2⟩⟩
def zTop (st : List Value) : Bool := match st with
  | [.ref a, .ref b] => Nat.beq a 267 && Nat.beq b 266
  | _ => false
theorem zTop_e {st : List Value} (h : zTop st = true) : st = [.ref 267, .ref 266] := by
  unfold zTop at h
  split at h
  · have h := Bool.and_eq_true_iff.mp h
    rw [xbeq h.1, xbeq h.2]
  · cases h
def zChk : Bool := match zS0 with
  | some (_, st, w, L) => zTop st && (Nat.ble w 1000000 && (Nat.beq L.length 265 && (shL 16 L && dAll (ext L))))
  | none => false
