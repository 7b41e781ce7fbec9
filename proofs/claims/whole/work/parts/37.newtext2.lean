/-! ===== the text's constructor; readTape's end; the shape with one text more ===== -/
section RX2
variable {ro : xRo} {B : Nat → List Value → xH → xR → Prop} {d : Nat} {M : xMeth} {pc : Nat} {ls : xL} {st : List Value} {h : xH} {r : xR} {len ci k idx a : Nat} {kd : Int} {ps : List Nat} {fs : List Value} {v : Value}
theorem rx_gf (h1 : xAt M.2.2.2.2 pc = some (.getfield idx, len, ci, k, 0, ps)) (hc : h.2.2 a = some (.inr (ci, fs))) (hv : fs[k]? = some v) (kk : Rx ro B d M (pc + 3) ls (v :: st) h r) : Rx ro B d M pc ls (.ref a :: st) h r := by
  refine rx_step h1 ?_ kk
  show xob h a ci _ = _
  unfold xob
  rw [hc]
  show (bif Nat.beq ci ci then _ else _) = _
  rw [Nat.beq_refl]
  show (fs[k]?).bind _ = _
  rw [hv]
  rfl
theorem rx_pf (h1 : xAt M.2.2.2.2 pc = some (.putfield idx, len, ci, k, kd, ps)) (hc : h.2.2 a = some (.inr (ci, fs))) (hf : xfit kd v = true) (hl : Nat.blt k fs.length = true) (kk : Rx ro B d M (pc + 3) ls st (xUp h a (.inr (ci, fs.set k v))) r) : Rx ro B d M pc ls (v :: .ref a :: st) h r := by
  refine rx_step h1 ?_ kk
  show xob h a ci _ = _
  unfold xob
  rw [hc]
  show (bif Nat.beq ci ci then _ else _) = _
  rw [Nat.beq_refl]
  show (bif xfit kd v && Nat.blt k fs.length then _ else _) = _
  rw [hf, hl]
  rfl
end RX2
theorem tX10_init {ro : xRo} {T : yK} {z : Nat × Nat} {S : yS} {d sz cl : Nat} (hz : 281 ≤ z.1) (hsz : (S.1 250 7).toInt = sz) (h1 : sz ≤ 300) (hcl : (S.1 250 15).toInt = cl) (h2 : cl ≤ 24) : ∃ g1 g2 g3 g4 g5 : Nat → Int32, (∀ j, j < sz → g1 j = S.2.2.1 256 j) ∧ (∀ j, j < sz → g2 j = S.2.2.1 257 j) ∧ (∀ j, j < cl → g3 j = S.2.2.1 258 j) ∧ (∀ j, j < cl → g4 j = S.2.2.1 259 j) ∧ (∀ j, j < cl → g5 j = S.2.2.1 260 j) ∧ xEv ro xP xNo (d + 2) jX10_init [.ref z.1, .ref 250] (tH (yKx T) z S (xNew 10 9) []) (none, tH (yKx T) z S [.ref (z.1 + 1), .ref (z.1 + 2), .int (S.1 250 8), .int (S.1 250 9), .int (S.1 250 10), .int (S.1 250 11), .ref (z.1 + 3), .ref (z.1 + 4), .ref (z.1 + 5)] [(sz, g1), (sz, g2), (cl, g3), (cl, g4), (cl, g5)]) := by
  have hlt : ∀ a, a < 281 → a < z.1 := fun a h => by omega
  have hc : ∀ (fs : List Value) (as : List (Nat × (Nat → Int32))), (tH (yKx T) z S fs as).2.2 250 = some (.inr (5, yF S 250 0 [253, 0, 0, 0, 0, 258, 259, 0, 0, 0, 0, 0, 260, 261, 262, 0])) := fun fs as => (tH_lt (hlt 250 (by decide))).trans rfl
  obtain ⟨g1, e1, c1⟩ := tJ7_copyOf (ro := ro) (K := yKx T) (z := z) (S := S) (fs := xNew 10 9) (as := []) (d := d) (a := 256) (n := sz) (L := 300) (v := S.1 250 7) (hlt _ (by decide)) rfl rfl (by decide) hsz h1
  obtain ⟨g2, e2, c2⟩ := tJ7_copyOf (ro := ro) (K := yKx T) (z := z) (S := S) (fs := (xNew 10 9).set 0 (.ref (z.1 + 1))) (as := [(sz, g1)]) (d := d) (a := 257) (n := sz) (L := 300) (v := S.1 250 7) (hlt _ (by decide)) rfl rfl (by decide) hsz h1
  obtain ⟨g3, e3, c3⟩ := tJ7_copyOf (ro := ro) (K := yKx T) (z := z) (S := S) (fs := [.ref (z.1 + 1), .ref (z.1 + 2), .int (S.1 250 8), .int (S.1 250 9), .int (S.1 250 10), .int (S.1 250 11), .null, .null, .null]) (as := [(sz, g1), (sz, g2)]) (d := d) (a := 258) (n := cl) (L := 24) (v := S.1 250 15) (hlt _ (by decide)) rfl rfl (by decide) hcl h2
  obtain ⟨g4, e4, c4⟩ := tJ7_copyOf (ro := ro) (K := yKx T) (z := z) (S := S) (fs := [.ref (z.1 + 1), .ref (z.1 + 2), .int (S.1 250 8), .int (S.1 250 9), .int (S.1 250 10), .int (S.1 250 11), .ref (z.1 + 3), .null, .null]) (as := [(sz, g1), (sz, g2), (cl, g3)]) (d := d) (a := 259) (n := cl) (L := 24) (v := S.1 250 15) (hlt _ (by decide)) rfl rfl (by decide) hcl h2
  obtain ⟨g5, e5, c5⟩ := tJ7_copyOf (ro := ro) (K := yKx T) (z := z) (S := S) (fs := [.ref (z.1 + 1), .ref (z.1 + 2), .int (S.1 250 8), .int (S.1 250 9), .int (S.1 250 10), .int (S.1 250 11), .ref (z.1 + 3), .ref (z.1 + 4), .null]) (as := [(sz, g1), (sz, g2), (cl, g3), (cl, g4)]) (d := d) (a := 260) (n := cl) (L := 24) (v := S.1 250 15) (hlt _ (by decide)) rfl rfl (by decide) hcl h2
  refine ⟨g1, g2, g3, g4, g5, e1, e2, e3, e4, e5, ?_⟩
  refine rx_meth pX10_init rfl ?_
  iterate 2 (refine rx_step rfl rfl ?_)
  -- ops
  iterate 2 (refine rx_step rfl rfl ?_)
  refine rx_gf rfl (hc _ _) rfl ?_
  refine rx_step rfl rfl ?_
  refine rx_gf rfl (hc _ _) rfl ?_
  refine rx_call rfl rfl rfl rfl rfl c1 ?_
  refine rx_pf rfl tH_at rfl rfl ?_
  rw [tH_put]
  -- args
  iterate 2 (refine rx_step rfl rfl ?_)
  refine rx_gf rfl (hc _ _) rfl ?_
  refine rx_step rfl rfl ?_
  refine rx_gf rfl (hc _ _) rfl ?_
  refine rx_call rfl rfl rfl rfl rfl c2 ?_
  refine rx_pf rfl tH_at rfl rfl ?_
  rw [tH_put]
  -- four numbers
  iterate 2 (refine rx_step rfl rfl ?_)
  refine rx_gf rfl (hc _ _) rfl ?_
  refine rx_pf rfl tH_at rfl rfl ?_
  rw [tH_put]
  iterate 2 (refine rx_step rfl rfl ?_)
  refine rx_gf rfl (hc _ _) rfl ?_
  refine rx_pf rfl tH_at rfl rfl ?_
  rw [tH_put]
  iterate 2 (refine rx_step rfl rfl ?_)
  refine rx_gf rfl (hc _ _) rfl ?_
  refine rx_pf rfl tH_at rfl rfl ?_
  rw [tH_put]
  iterate 2 (refine rx_step rfl rfl ?_)
  refine rx_gf rfl (hc _ _) rfl ?_
  refine rx_pf rfl tH_at rfl rfl ?_
  rw [tH_put]
  -- verbs, firsts, seconds
  iterate 2 (refine rx_step rfl rfl ?_)
  refine rx_gf rfl (hc _ _) rfl ?_
  refine rx_step rfl rfl ?_
  refine rx_gf rfl (hc _ _) rfl ?_
  refine rx_call rfl rfl rfl rfl rfl c3 ?_
  refine rx_pf rfl tH_at rfl rfl ?_
  rw [tH_put]
  iterate 2 (refine rx_step rfl rfl ?_)
  refine rx_gf rfl (hc _ _) rfl ?_
  refine rx_step rfl rfl ?_
  refine rx_gf rfl (hc _ _) rfl ?_
  refine rx_call rfl rfl rfl rfl rfl c4 ?_
  refine rx_pf rfl tH_at rfl rfl ?_
  rw [tH_put]
  iterate 2 (refine rx_step rfl rfl ?_)
  refine rx_gf rfl (hc _ _) rfl ?_
  refine rx_step rfl rfl ?_
  refine rx_gf rfl (hc _ _) rfl ?_
  refine rx_call rfl rfl rfl rfl rfl c5 ?_
  refine rx_pf rfl tH_at rfl rfl ?_
  rw [tH_put]
  exact rx_ret rfl rfl
def tT (T : yK) (o n m : Nat) : yK := fun j => if j = o then some (.inl (10, [o + 1 + 2, o + 2 + 2, 0, 0, 0, 0, o + 3 + 2, o + 4 + 2, o + 5 + 2])) else if j = o + 1 ∨ j = o + 2 then some (.inr (0, n)) else if j = o + 3 ∨ j = o + 4 ∨ j = o + 5 then some (.inr (0, m)) else T j
def tZ (z : Nat × Nat) (n m : Nat) : Nat × Nat := (z.1 + 6, z.2 + 9 + (n + (n + (m + (m + (m + 0))))))
def tF (S : yS) (o : Nat) : Nat → Int32 := fun k => if k = 2 then S.1 250 8 else if k = 3 then S.1 250 9 else if k = 4 then S.1 250 10 else if k = 5 then S.1 250 11 else S.1 o k
def tS (S : yS) (o : Nat) (g1 g2 g3 g4 g5 : Nat → Int32) : yS := (yU S.1 o (tF S o), S.2.1, yU (yU (yU (yU (yU S.2.2.1 (o + 1) g1) (o + 2) g2) (o + 3) g3) (o + 4) g4) (o + 5) g5, S.2.2.2)
theorem tH_end {T : yK} {z : Nat × Nat} {S : yS} {n m : Nat} {g1 g2 g3 g4 g5 : Nat → Int32} (hz : 281 ≤ z.1) (hT : ∀ j, z.1 ≤ j → T j = none) : tH (yKx T) z S [.ref (z.1 + 1), .ref (z.1 + 2), .int (S.1 250 8), .int (S.1 250 9), .int (S.1 250 10), .int (S.1 250 11), .ref (z.1 + 3), .ref (z.1 + 4), .ref (z.1 + 5)] [(n, g1), (n, g2), (m, g3), (m, g4), (m, g5)] = yH (yKx (tT T z.1 n m)) (tZ z n m) (tS S z.1 g1 g2 g3 g4 g5) := by
  refine yH_ext rfl rfl (fun j => ?_)
  show (if j < z.1 then yE (yKx T) S j else if j = z.1 then _ else _) = _
  by_cases h1 : j < z.1
  · rw [if_pos h1]
    have hK : yKx (tT T z.1 n m) j = yKx T j := by
      by_cases h2 : j < 281
      · rw [yKx_lt h2, yKx_lt h2]
      · rw [yKx_ge (by omega), yKx_ge (by omega)]
        unfold tT
        rw [if_neg (by omega), if_neg (by omega), if_neg (by omega)]
    have hS : yE (yKx T) (tS S z.1 g1 g2 g3 g4 g5) j = yE (yKx T) S j := by
      refine yE_other ?_ rfl ?_ rfl rfl
      · exact yU_ne (by omega)
      · show yU (yU (yU (yU (yU S.2.2.1 (z.1 + 1) g1) (z.1 + 2) g2) (z.1 + 3) g3) (z.1 + 4) g4) (z.1 + 5) g5 j = _
        rw [yU_ne (by omega), yU_ne (by omega), yU_ne (by omega), yU_ne (by omega), yU_ne (by omega)]
    rw [← hS]
    unfold yE
    rw [hK]
  · rw [if_neg h1]
    have hK : yKx (tT T z.1 n m) j = tT T z.1 n m j := yKx_ge (by omega)
    unfold yE
    rw [hK]
    by_cases h2 : j = z.1
    · subst h2
      rw [if_pos rfl]
      unfold tT
      rw [if_pos rfl]
      show _ = some (Sum.inr (10, [Value.ref (z.1 + 1), .ref (z.1 + 2), .int ((tS S z.1 g1 g2 g3 g4 g5).1 z.1 2), .int ((tS S z.1 g1 g2 g3 g4 g5).1 z.1 3), .int ((tS S z.1 g1 g2 g3 g4 g5).1 z.1 4), .int ((tS S z.1 g1 g2 g3 g4 g5).1 z.1 5), .ref (z.1 + 3), .ref (z.1 + 4), .ref (z.1 + 5)]))
      have e : (tS S z.1 g1 g2 g3 g4 g5).1 z.1 = tF S z.1 := yU_eq
      rw [e]
      rfl
    · rw [if_neg h2]
      have harr : ∀ (k : Nat) (len : Nat) (g : Nat → Int32), j = z.1 + 1 + k → [(n, g1), (n, g2), (m, g3), (m, g4), (m, g5)][k]? = some (len, g) → tT T z.1 n m j = some (.inr (0, len)) → (tS S z.1 g1 g2 g3 g4 g5).2.2.1 j = g → Option.map (fun a : Nat × (Nat → Int32) => (Sum.inl (0, a.1, .inl a.2) : va_E)) [(n, g1), (n, g2), (m, g3), (m, g4), (m, g5)][j - (z.1 + 1)]? = (match tT T z.1 n m j with
          | none => none
          | some (.inl (ci, ks)) => some (.inr (ci, yF (tS S z.1 g1 g2 g3 g4 g5) j 0 ks))
          | some (.inr (t, n)) => some (.inl (t, yA (tS S z.1 g1 g2 g3 g4 g5) j t n))) := by
        intro k len g hj hg hT2 hS
        rw [hT2, show j - (z.1 + 1) = k by omega, hg]
        show some (Sum.inl (0, len, Sum.inl g)) = some (Sum.inl (0, len, Sum.inl ((tS S z.1 g1 g2 g3 g4 g5).2.2.1 j)))
        rw [hS]
      by_cases q1 : j = z.1 + 1
      · refine harr 0 n g1 (by omega) rfl (by unfold tT; rw [if_neg h2, if_pos (Or.inl q1)]) ?_
        show yU (yU (yU (yU (yU S.2.2.1 (z.1 + 1) g1) (z.1 + 2) g2) (z.1 + 3) g3) (z.1 + 4) g4) (z.1 + 5) g5 j = _
        rw [yU_ne (by omega), yU_ne (by omega), yU_ne (by omega), yU_ne (by omega), q1, yU_eq]
      by_cases q2 : j = z.1 + 2
      · refine harr 1 n g2 (by omega) rfl (by unfold tT; rw [if_neg h2, if_pos (Or.inr q2)]) ?_
        show yU (yU (yU (yU (yU S.2.2.1 (z.1 + 1) g1) (z.1 + 2) g2) (z.1 + 3) g3) (z.1 + 4) g4) (z.1 + 5) g5 j = _
        rw [yU_ne (by omega), yU_ne (by omega), yU_ne (by omega), q2, yU_eq]
      by_cases q3 : j = z.1 + 3
      · refine harr 2 m g3 (by omega) rfl (by unfold tT; rw [if_neg h2, if_neg (by omega), if_pos (Or.inl q3)]) ?_
        show yU (yU (yU (yU (yU S.2.2.1 (z.1 + 1) g1) (z.1 + 2) g2) (z.1 + 3) g3) (z.1 + 4) g4) (z.1 + 5) g5 j = _
        rw [yU_ne (by omega), yU_ne (by omega), q3, yU_eq]
      by_cases q4 : j = z.1 + 4
      · refine harr 3 m g4 (by omega) rfl (by unfold tT; rw [if_neg h2, if_neg (by omega), if_pos (Or.inr (Or.inl q4))]) ?_
        show yU (yU (yU (yU (yU S.2.2.1 (z.1 + 1) g1) (z.1 + 2) g2) (z.1 + 3) g3) (z.1 + 4) g4) (z.1 + 5) g5 j = _
        rw [yU_ne (by omega), q4, yU_eq]
      by_cases q5 : j = z.1 + 5
      · refine harr 4 m g5 (by omega) rfl (by unfold tT; rw [if_neg h2, if_neg (by omega), if_pos (Or.inr (Or.inr q5))]) ?_
        show yU (yU (yU (yU (yU S.2.2.1 (z.1 + 1) g1) (z.1 + 2) g2) (z.1 + 3) g3) (z.1 + 4) g4) (z.1 + 5) g5 j = _
        rw [q5, yU_eq]
      have hT2 : tT T z.1 n m j = none := by
        unfold tT
        rw [if_neg h2, if_neg (by omega), if_neg (by omega)]
        exact hT j (by omega)
      rw [hT2, List.getElem?_eq_none (by simp; omega)]
      rfl
/-- readTape behind its clauses -/
theorem tTapeN {ro : xRo} {T : yK} {z : Nat × Nat} {S : yS} {d : Nat} (hf : ¬ S.1 250 3 = 0) : Ry ro xNo (yKx T) z d mX5_readTape 69 [(0, .ref 250)] [] S (some .null, yH (yKx T) z S) := by
  iterate 3 (refine ry_step rfl rfl ?_)
  rw [if_pos hf]
  refine ry_step rfl rfl ?_
  exact ry_ret rfl rfl
theorem tTapeT {ro : xRo} {T : yK} {z : Nat × Nat} {S : yS} {d sz cl : Nat} (hf : S.1 250 3 = 0) (hz : 281 ≤ z.1) (hT : ∀ j, z.1 ≤ j → T j = none) (hsz : (S.1 250 7).toInt = sz) (h1 : sz ≤ 300) (hcl : (S.1 250 15).toInt = cl) (h2 : cl ≤ 24) : ∃ g1 g2 g3 g4 g5 : Nat → Int32, (∀ j, j < sz → g1 j = S.2.2.1 256 j) ∧ (∀ j, j < sz → g2 j = S.2.2.1 257 j) ∧ (∀ j, j < cl → g3 j = S.2.2.1 258 j) ∧ (∀ j, j < cl → g4 j = S.2.2.1 259 j) ∧ (∀ j, j < cl → g5 j = S.2.2.1 260 j) ∧ Ry ro xNo (yKx T) z (d + 2) mX5_readTape 69 [(0, .ref 250)] [] S (some (.ref z.1), yH (yKx (tT T z.1 sz cl)) (tZ z sz cl) (tS S z.1 g1 g2 g3 g4 g5)) := by
  obtain ⟨g1, g2, g3, g4, g5, e1, e2, e3, e4, e5, c⟩ := tX10_init (ro := ro) (T := T) (z := z) (S := S) (d := d) hz hsz h1 hcl h2
  refine ⟨g1, g2, g3, g4, g5, e1, e2, e3, e4, e5, ?_⟩
  iterate 3 (refine ry_step rfl rfl ?_)
  rw [if_neg (not_not_intro hf)]
  show Rx ro xNo (d + 2) mX5_readTape _ _ _ (yH (yKx T) z S) _
  have hKn : ∀ j, z.1 ≤ j → yKx T j = none := fun j hj => by rw [yKx_ge (by omega)]; exact hT j hj
  refine rx_step (pc' := 79) (ls' := [(0, .ref 250)]) (st' := [.ref z.1]) (h' := tH (yKx T) z S (xNew 10 9) []) rfl ?_ ?_
  · show some (79, [(0, Value.ref 250)], [Value.ref z.1], xNw (yH (yKx T) z S) 9 (.inr (10, xNew 10 9))) = _
    rw [tH_begin hKn]
  iterate 2 (refine rx_step rfl rfl ?_)
  refine rx_call rfl rfl rfl rfl rfl c ?_
  rw [tH_end hz hT]
  refine rx_step rfl rfl ?_
  exact rx_ret rfl rfl
