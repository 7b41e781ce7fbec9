/-! ===== stretches of code, put together ===== -/
theorem cst_lt {s : Nat} {cd : Nat → Int × Int} {E : eV} {i j : Nat} {st st' : List Int} (h : cst s cd E (i, st) = some (j, st')) : i < j := by
  unfold cst at h
  dsimp only at h
  repeat' split at h
  all_goals first
    | (cases h; done)
    | (cases h; omega)
theorem citr_le {s : Nat} {cd : Nat → Int × Int} {E : eV} : ∀ (c i j : Nat) (st st' : List Int), itr (cst s cd E) c (i, st) = some (j, st') → i + c ≤ j
  | 0, i, j, st, st', h => by cases h; omega
  | c + 1, i, j, st, st', h => by
    unfold itr at h
    obtain ⟨⟨i2, st2⟩, h1, h2⟩ := Option.bind_eq_some_iff.mp h
    have := cst_lt h1
    have := citr_le c i2 j st2 st' h2
    omega
theorem citr_congr {s : Nat} {cd cd' : Nat → Int × Int} {E : eV} {j : Nat} : ∀ (c i : Nat) (st st' : List Int), (∀ k, i ≤ k → k < j → cd' k = cd k) → itr (cst s cd E) c (i, st) = some (j, st') → itr (cst s cd' E) c (i, st) = some (j, st')
  | 0, i, st, st', _, h => h
  | c + 1, i, st, st', hcd, h => by
    unfold itr at h ⊢
    obtain ⟨⟨i2, st2⟩, h1, h2⟩ := Option.bind_eq_some_iff.mp h
    have b2 := cst_lt h1
    have hle := citr_le c i2 j st2 st' h2
    have e : cst s cd' E (i, st) = cst s cd E (i, st) := by
      unfold cst; dsimp only; rw [hcd i (Nat.le_refl _) (by omega)]
    rw [e, h1]
    exact citr_congr c i2 st2 st' (fun k h1 h2 => hcd k (by omega) h2) h2
theorem frC_congr {s : Nat} {cd cd' : Nat → Int × Int} {i j : Nat} {w : eV → Int} (h : frC s cd i j w) (hcd : ∀ k, i ≤ k → k < j → cd' k = cd k) : frC s cd' i j w := by
  refine ⟨h.1, fun E hE st => ?_⟩
  obtain ⟨c, h1, h2⟩ := h.2 E hE st
  exact ⟨c, h1, citr_congr c i st _ hcd h2⟩
theorem rst_j {s : Nat} {cd : Nat → Int × Int} {E : eV} {i j : Nat} {vs vs' ts ts' : List Int} (h : rst s cd E (i, vs, ts) = some (j, vs', ts')) : j = i + 1 := by
  unfold rst at h
  dsimp only at h
  repeat' split at h
  all_goals first
    | (cases h; done)
    | (cases h; rfl)
theorem ritr_congr {s : Nat} {cd cd' : Nat → Int × Int} {E : eV} {j : Nat} : ∀ (c i : Nat) (vs ts : List Int) (r : Nat × List Int × List Int), (∀ k, i ≤ k → k < i + c → cd' k = cd k) → itr (rst s cd E) c (i, vs, ts) = some r → itr (rst s cd' E) c (i, vs, ts) = some r
  | 0, i, vs, ts, r, _, h => h
  | c + 1, i, vs, ts, r, hcd, h => by
    unfold itr at h ⊢
    obtain ⟨⟨i2, vs2, ts2⟩, h1, h2⟩ := Option.bind_eq_some_iff.mp h
    have b2 := rst_j h1
    have e : rst s cd' E (i, vs, ts) = rst s cd E (i, vs, ts) := by
      unfold rst; dsimp only; rw [hcd i (Nat.le_refl _) (by omega)]
    rw [e, h1]
    exact ritr_congr (j := j) c i2 vs2 ts2 r (fun k h1 h2 => hcd k (by omega) (by omega)) h2
theorem frV_congr {s : Nat} {cd cd' : Nat → Int × Int} {i j : Nat} {w : eV → Int} (h : frV s cd i j w) (hcd : ∀ k, i ≤ k → k < j → cd' k = cd k) : frV s cd' i j w := by
  have := h.1
  exact ⟨h.1, fun E hE vs ts => ritr_congr (j := j) _ i vs ts _ (fun k h1 h2 => hcd k h1 (by omega)) (h.2 E hE vs ts)⟩
theorem frT_congr {s : Nat} {cd cd' : Nat → Int × Int} {i j : Nat} {w : eV → Int} (h : frT s cd i j w) (hcd : ∀ k, i ≤ k → k < j → cd' k = cd k) : frT s cd' i j w := by
  have := h.1
  exact ⟨h.1, fun E hE vs ts => ritr_congr (j := j) _ i vs ts _ (fun k h1 h2 => hcd k h1 (by omega)) (h.2 E hE vs ts)⟩
def w01 (w : eV → Int) : Prop := ∀ E, eG E → w E = 0 ∨ w E = 1
section FRC
variable {s : Nat} {cd : Nat → Int × Int} {i j k l : Nat} {w w1 w2 w3 : eV → Int} {op a : Int}
theorem frC_num (h : cd i = (38, a)) (ha : 0 ≤ a ∧ a ≤ 9999) : frC s cd i (i + 1) (fun _ => a) := by
  refine ⟨by omega, fun E hE st => ⟨1, by omega, itr_one ?_⟩⟩
  simp [cst, h, ha]
theorem frC_name (h : (cd i).1 = op) (ha : okN s op = true) : frC s cd i (i + 1) (fun E => E op.toNat) := by
  refine ⟨by omega, fun E hE st => ⟨1, by omega, itr_one ?_⟩⟩
  have hk := ha
  unfold okN at hk
  have hk := of_decide_eq_true hk
  unfold cst
  dsimp only
  rw [h, if_neg (by omega), if_neg (by omega), if_neg (by omega), if_neg (by omega), if_neg (by omega), if_neg (by omega), if_neg (by omega), if_pos ha]
theorem frC_one (h1 : frC s cd i j w) (h : (cd j).1 = op) (ho : op = 9 ∨ op = 10 ∨ op = 41) : frC s cd i (j + 1) (fun E => one1 op E (w E)) := by
  have := h1.1
  refine ⟨by omega, fun E hE st => ?_⟩
  obtain ⟨c, hc, h2⟩ := h1.2 E hE st
  refine ⟨c + 1, by omega, itr_add c 1 h2 (itr_one ?_)⟩
  unfold cst
  dsimp only
  rw [h, if_neg (by omega), if_neg (by omega), if_pos ho]
theorem frC_not (h1 : frC s cd i j w) (h : (cd j).1 = 11) (hw : w01 w) : frC s cd i (j + 1) (fun E => 1 - w E) := by
  have := h1.1
  refine ⟨by omega, fun E hE st => ?_⟩
  obtain ⟨c, hc, h2⟩ := h1.2 E hE st
  refine ⟨c + 1, by omega, itr_add c 1 h2 (itr_one ?_)⟩
  unfold cst
  dsimp only
  rw [h, if_neg (by omega), if_neg (by omega), if_neg (by omega), if_pos rfl, if_pos (hw E hE)]
theorem frC_two (h1 : frC s cd i j w1) (h2 : frC s cd j k w2) (h : (cd k).1 = op) (ho : (25 ≤ op ∧ op ≤ 32) ∨ op = 36 ∨ op = 37) : frC s cd i (k + 1) (fun E => two1 op (w1 E) (w2 E)) := by
  have := h1.1
  have := h2.1
  refine ⟨by omega, fun E hE st => ?_⟩
  obtain ⟨c1, hc1, e1⟩ := h1.2 E hE st
  obtain ⟨c2, hc2, e2⟩ := h2.2 E hE (w1 E :: st)
  refine ⟨c1 + (c2 + 1), by omega, itr_add c1 _ e1 (itr_add c2 1 e2 (itr_one ?_))⟩
  unfold cst
  dsimp only
  rw [h, if_neg (by omega), if_neg (by omega), if_neg (by omega), if_neg (by omega), if_neg (by omega), if_pos ho]
theorem frC_jn (h1 : frC s cd i j w1) (h2 : frC s cd j k w2) (h : (cd k).1 = op) (ho : op = 12 ∨ op = 13) (a1 : w01 w1) (a2 : w01 w2) : frC s cd i (k + 1) (fun E => if op = 12 then min (w1 E) (w2 E) else max (w1 E) (w2 E)) := by
  have := h1.1
  have := h2.1
  refine ⟨by omega, fun E hE st => ?_⟩
  obtain ⟨c1, hc1, e1⟩ := h1.2 E hE st
  obtain ⟨c2, hc2, e2⟩ := h2.2 E hE (w1 E :: st)
  refine ⟨c1 + (c2 + 1), by omega, itr_add c1 _ e1 (itr_add c2 1 e2 (itr_one ?_))⟩
  unfold cst
  dsimp only
  rw [h, if_neg (by omega), if_neg (by omega), if_neg (by omega), if_neg (by omega), if_pos ho, if_pos ⟨a2 E hE, a1 E hE⟩]
theorem frC_if (h1 : frC s cd i j w1) (hj : cd j = (15, ((k + 1 : Nat) : Int))) (h2 : frC s cd (j + 1) k w2) (hk : cd k = (16, (l : Int))) (h3 : frC s cd (k + 1) l w3) : frC s cd i l (fun E => if w1 E = 0 then w3 E else w2 E) := by
  have := h1.1
  have := h2.1
  have := h3.1
  refine ⟨by omega, fun E hE st => ?_⟩
  obtain ⟨c1, hc1, e1⟩ := h1.2 E hE st
  obtain ⟨c2, hc2, e2⟩ := h2.2 E hE st
  obtain ⟨c3, hc3, e3⟩ := h3.2 E hE st
  by_cases h0 : w1 E = 0
  · refine ⟨c1 + (1 + c3), by omega, itr_add c1 _ e1 (itr_add 1 c3 (itr_one (y := (k + 1, st)) ?_) ?_)⟩
    · unfold cst
      dsimp only
      rw [hj]
      dsimp only
      rw [if_neg (by omega), if_pos rfl, if_pos h0, if_pos (by omega)]
      rfl
    · dsimp only; rw [if_pos h0]; exact e3
  · refine ⟨c1 + (1 + (c2 + 1)), by omega, itr_add c1 _ e1 (itr_add 1 _ (itr_one (y := (j + 1, st)) ?_) (itr_add c2 1 e2 (itr_one ?_)))⟩
    · unfold cst
      dsimp only
      rw [hj]
      dsimp only
      rw [if_neg (by omega), if_pos rfl, if_neg h0]
    · unfold cst
      dsimp only
      rw [hk]
      dsimp only
      rw [if_pos rfl, if_pos (by omega), if_neg h0]
      rfl
theorem frV_num (h : cd i = (0, a)) (ha : 0 ≤ a ∧ a ≤ 9999) : frV s cd i (i + 1) (fun _ => a) := by
  refine ⟨by omega, fun E hE vs ts => ?_⟩
  rw [show i + 1 - i = 1 by omega]
  refine itr_one ?_
  simp [rst, h, ha]
theorem frV_name (h : cd i = (1, a)) (ha : okN s a = true) : frV s cd i (i + 1) (fun E => E a.toNat) := by
  refine ⟨by omega, fun E hE vs ts => ?_⟩
  rw [show i + 1 - i = 1 by omega]
  refine itr_one ?_
  simp [rst, h, ha]
theorem frV_one (h1 : frV s cd i j w) (h : (cd j).1 = op) (ho : op = 2 ∨ op = 4 ∨ op = 5) : frV s cd i (j + 1) (fun E => one1 (oneO op) E (w E)) := by
  have := h1.1
  refine ⟨by omega, fun E hE vs ts => ?_⟩
  rw [show j + 1 - i = (j - i) + 1 by omega]
  refine itr_add _ 1 (h1.2 E hE vs ts) (itr_one ?_)
  unfold rst
  dsimp only
  rw [h, if_neg (by omega), if_neg (by omega), if_neg (by omega), if_pos ho]
theorem frV_two (h1 : frV s cd i j w1) (h2 : frV s cd j k w2) (h : (cd k).1 = op) (ho : 6 ≤ op ∧ op ≤ 9) : frV s cd i (k + 1) (fun E => two1 (op + 23) (w1 E) (w2 E)) := by
  have := h1.1
  have := h2.1
  refine ⟨by omega, fun E hE vs ts => ?_⟩
  rw [show k + 1 - i = (j - i) + ((k - j) + 1) by omega]
  refine itr_add _ _ (h1.2 E hE vs ts) (itr_add _ 1 (h2.2 E hE _ ts) (itr_one ?_))
  unfold rst
  dsimp only
  rw [h, if_neg (by omega), if_neg (by omega), if_neg (by omega), if_neg (by omega), if_pos ho]
theorem frT_cmp (h1 : frV s cd i j w1) (h2 : frV s cd j k w2) (h : (cd k).1 = op) (ho : 10 ≤ op ∧ op ≤ 15) : frT s cd i (k + 1) (fun E => two1 (cmpO op) (w1 E) (w2 E)) := by
  have := h1.1
  have := h2.1
  refine ⟨by omega, fun E hE vs ts => ?_⟩
  rw [show k + 1 - i = (j - i) + ((k - j) + 1) by omega]
  refine itr_add _ _ (h1.2 E hE vs ts) (itr_add _ 1 (h2.2 E hE _ ts) (itr_one ?_))
  unfold rst
  dsimp only
  rw [h, if_neg (by omega), if_neg (by omega), if_neg (by omega), if_neg (by omega), if_neg (by omega), if_pos ho]
theorem frT_not (h1 : frT s cd i j w) (h : (cd j).1 = 20) (hw : w01 w) : frT s cd i (j + 1) (fun E => 1 - w E) := by
  have := h1.1
  refine ⟨by omega, fun E hE vs ts => ?_⟩
  rw [show j + 1 - i = (j - i) + 1 by omega]
  refine itr_add _ 1 (h1.2 E hE vs ts) (itr_one ?_)
  unfold rst
  dsimp only
  rw [h, if_neg (by omega), if_neg (by omega), if_neg (by omega), if_neg (by omega), if_neg (by omega), if_neg (by omega), if_pos rfl, if_pos (hw E hE)]
theorem frT_jn (h1 : frT s cd i j w1) (h2 : frT s cd j k w2) (h : (cd k).1 = op) (ho : op = 21 ∨ op = 22) (a1 : w01 w1) (a2 : w01 w2) : frT s cd i (k + 1) (fun E => if op = 21 then min (w1 E) (w2 E) else max (w1 E) (w2 E)) := by
  have := h1.1
  have := h2.1
  refine ⟨by omega, fun E hE vs ts => ?_⟩
  rw [show k + 1 - i = (j - i) + ((k - j) + 1) by omega]
  refine itr_add _ _ (h1.2 E hE vs ts) (itr_add _ 1 (h2.2 E hE vs _) (itr_one ?_))
  unfold rst
  dsimp only
  rw [h, if_neg (by omega), if_neg (by omega), if_neg (by omega), if_neg (by omega), if_neg (by omega), if_neg (by omega), if_neg (by omega), if_pos ho, if_pos ⟨a2 E hE, a1 E hE⟩]
theorem frV_if (h1 : frT s cd i j w1) (h2 : frV s cd j k w2) (h3 : frV s cd k l w3) (h : (cd l).1 = 3) : frV s cd i (l + 1) (fun E => if w1 E = 0 then w3 E else w2 E) := by
  have := h1.1
  have := h2.1
  have := h3.1
  refine ⟨by omega, fun E hE vs ts => ?_⟩
  rw [show l + 1 - i = (j - i) + ((k - j) + ((l - k) + 1)) by omega]
  refine itr_add _ _ (h1.2 E hE vs ts) (itr_add _ _ (h2.2 E hE vs _) (itr_add _ 1 (h3.2 E hE _ _) (itr_one ?_)))
  unfold rst
  dsimp only
  rw [h, if_neg (by omega), if_neg (by omega), if_pos rfl]
end FRC
