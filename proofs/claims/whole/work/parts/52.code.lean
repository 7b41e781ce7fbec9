/-! ===== the two codes of a law, as machines over lists ===== -/
/-- what a law may ask: 0 .. 8 names, 10 .. the rhyme, 20 .. how often each came, 30 how many birds -/
abbrev eV : Type := Nat → Int
def eG (E : eV) : Prop := (∀ k, -9999 ≤ E k ∧ E k ≤ 9999) ∧ 0 ≤ E 30 ∧ E 30 ≤ 8
def okN (s : Nat) (k : Int) : Bool := decide (0 ≤ k ∧ (k < 4 ∨ (s = 0 ∧ k < 7) ∨ (s = 1 ∧ 7 ≤ k ∧ k ≤ 8)))
def clp (x : Int) : Int := max (-1000000) (min x 1000000)
def one1 (op : Int) (E : eV) (v : Int) : Int := if op = 9 then (if 0 ≤ v ∧ v ≤ 8 then E (10 + v.toNat) else 0) else if op = 10 then (if 0 ≤ v ∧ v < E 30 then E (20 + v.toNat) else 0) else -v
def b01 (c : Prop) [Decidable c] : Int := if c then 1 else 0
def two1 (op x y : Int) : Int := if op = 29 then clp (x + y) else if op = 30 then clp (x - y) else if op = 31 then clp (x * y) else if op = 32 then x.tdiv y else if op = 25 then b01 (x < y) else if op = 26 then b01 (y < x) else if op = 27 then b01 (x = y) else if op = 28 then b01 (x ≠ y) else if op = 36 then b01 (x ≤ y) else b01 (y ≤ x)
def itr {α : Type} (f : α → Option α) : Nat → α → Option α
  | 0, x => some x
  | n + 1, x => (f x).bind (itr f n)
theorem itr_add {α : Type} {f : α → Option α} : ∀ (n m : Nat) {x y z : α}, itr f n x = some y → itr f m y = some z → itr f (n + m) x = some z
  | 0, m, x, y, z, h1, h2 => by cases h1; rw [Nat.zero_add]; exact h2
  | n + 1, m, x, y, z, h1, h2 => by
    rw [show n + 1 + m = (n + m) + 1 by omega]
    unfold itr at h1 ⊢
    obtain ⟨w, hw, h1⟩ := Option.bind_eq_some_iff.mp h1
    rw [hw]
    exact itr_add n m h1 h2
theorem itr_one {α : Type} {f : α → Option α} {x y : α} (h : f x = some y) : itr f 1 x = some y := by
  unfold itr; rw [h]; rfl
/-- the class: leaps; truth is 1 or 0 on the same pile -/
def cst (s : Nat) (cd : Nat → Int × Int) (E : eV) (c : Nat × List Int) : Option (Nat × List Int) :=
  if (cd c.1).1 = 16 then (if (c.1 : Int) + 1 ≤ (cd c.1).2 then some ((cd c.1).2.toNat, c.2) else none)
  else if (cd c.1).1 = 15 then (match c.2 with
    | [] => none
    | v :: r => if v = 0 then (if (c.1 : Int) + 1 ≤ (cd c.1).2 then some ((cd c.1).2.toNat, r) else none) else some (c.1 + 1, r))
  else if (cd c.1).1 = 9 ∨ (cd c.1).1 = 10 ∨ (cd c.1).1 = 41 then (match c.2 with
    | [] => none
    | v :: r => some (c.1 + 1, one1 (cd c.1).1 E v :: r))
  else if (cd c.1).1 = 11 then (match c.2 with
    | [] => none
    | v :: r => if v = 0 ∨ v = 1 then some (c.1 + 1, (1 - v) :: r) else none)
  else if (cd c.1).1 = 12 ∨ (cd c.1).1 = 13 then (match c.2 with
    | y :: x :: r => if (y = 0 ∨ y = 1) ∧ (x = 0 ∨ x = 1) then some (c.1 + 1, (if (cd c.1).1 = 12 then min x y else max x y) :: r) else none
    | _ => none)
  else if (25 ≤ (cd c.1).1 ∧ (cd c.1).1 ≤ 32) ∨ (cd c.1).1 = 36 ∨ (cd c.1).1 = 37 then (match c.2 with
    | y :: x :: r => some (c.1 + 1, two1 (cd c.1).1 x y :: r)
    | _ => none)
  else if (cd c.1).1 = 38 then (if 0 ≤ (cd c.1).2 ∧ (cd c.1).2 ≤ 9999 then some (c.1 + 1, (cd c.1).2 :: c.2) else none)
  else if okN s (cd c.1).1 = true then some (c.1 + 1, E (cd c.1).1.toNat :: c.2) else none
/-- the reference: values, and truths apart -/
def oneO (o : Int) : Int := if o = 2 then 9 else if o = 4 then 10 else 41
def cmpO (o : Int) : Int := if o = 10 then 25 else if o = 11 then 36 else if o = 12 then 26 else if o = 13 then 37 else if o = 14 then 27 else 28
def rst (s : Nat) (cd : Nat → Int × Int) (E : eV) (c : Nat × List Int × List Int) : Option (Nat × List Int × List Int) :=
  if (cd c.1).1 = 0 then (if 0 ≤ (cd c.1).2 ∧ (cd c.1).2 ≤ 9999 then some (c.1 + 1, (cd c.1).2 :: c.2.1, c.2.2) else none)
  else if (cd c.1).1 = 1 then (if okN s (cd c.1).2 = true then some (c.1 + 1, E (cd c.1).2.toNat :: c.2.1, c.2.2) else none)
  else if (cd c.1).1 = 3 then (match c.2.1, c.2.2 with
    | y :: x :: r, b :: t => some (c.1 + 1, (if b = 0 then y else x) :: r, t)
    | _, _ => none)
  else if (cd c.1).1 = 2 ∨ (cd c.1).1 = 4 ∨ (cd c.1).1 = 5 then (match c.2.1 with
    | [] => none
    | v :: r => some (c.1 + 1, one1 (oneO (cd c.1).1) E v :: r, c.2.2))
  else if 6 ≤ (cd c.1).1 ∧ (cd c.1).1 ≤ 9 then (match c.2.1 with
    | y :: x :: r => some (c.1 + 1, two1 ((cd c.1).1 + 23) x y :: r, c.2.2)
    | _ => none)
  else if 10 ≤ (cd c.1).1 ∧ (cd c.1).1 ≤ 15 then (match c.2.1 with
    | y :: x :: r => some (c.1 + 1, r, two1 (cmpO (cd c.1).1) x y :: c.2.2)
    | _ => none)
  else if (cd c.1).1 = 20 then (match c.2.2 with
    | [] => none
    | b :: t => if b = 0 ∨ b = 1 then some (c.1 + 1, c.2.1, (1 - b) :: t) else none)
  else if (cd c.1).1 = 21 ∨ (cd c.1).1 = 22 then (match c.2.2 with
    | y :: x :: t => if (y = 0 ∨ y = 1) ∧ (x = 0 ∨ x = 1) then some (c.1 + 1, c.2.1, (if (cd c.1).1 = 21 then min x y else max x y) :: t) else none
    | _ => none)
  else none
def bd6 (l : List Int) : Prop := ∀ v ∈ l, -1000000 ≤ v ∧ v ≤ 1000000
theorem bd6_cons {v : Int} {l : List Int} : bd6 (v :: l) ↔ (-1000000 ≤ v ∧ v ≤ 1000000) ∧ bd6 l := by
  unfold bd6
  constructor
  · intro h; exact ⟨h v (List.mem_cons_self), fun w hw => h w (List.mem_cons_of_mem _ hw)⟩
  · intro h w hw
    rcases List.mem_cons.mp hw with rfl | hw
    · exact h.1
    · exact h.2 w hw
theorem clp_bd (x : Int) : -1000000 ≤ clp x ∧ clp x ≤ 1000000 := by unfold clp; omega
theorem tdiv_bd {x y : Int} (h : -1000000 ≤ x ∧ x ≤ 1000000) : -1000000 ≤ x.tdiv y ∧ x.tdiv y ≤ 1000000 := by
  have := Int.natAbs_tdiv_le_natAbs x y
  omega
theorem b01_bd {c : Prop} [Decidable c] : b01 c = 0 ∨ b01 c = 1 := by unfold b01; split <;> simp
theorem one1_bd {op : Int} {E : eV} {v : Int} (hE : eG E) (h : -1000000 ≤ v ∧ v ≤ 1000000) : -1000000 ≤ one1 op E v ∧ one1 op E v ≤ 1000000 := by
  unfold one1
  have h1 := hE.1 (10 + v.toNat)
  have h2 := hE.1 (20 + v.toNat)
  repeat' split
  all_goals omega
theorem two1_bd {op x y : Int} (h : -1000000 ≤ x ∧ x ≤ 1000000) : -1000000 ≤ two1 op x y ∧ two1 op x y ≤ 1000000 := by
  unfold two1
  repeat' split
  all_goals first
    | exact clp_bd _
    | exact tdiv_bd h
    | (unfold b01; split <;> omega)
theorem two1_01 {op x y : Int} (h : ¬ (29 ≤ op ∧ op ≤ 32)) : two1 op x y = 0 ∨ two1 op x y = 1 := by
  unfold two1
  rw [if_neg (by omega), if_neg (by omega), if_neg (by omega), if_neg (by omega)]
  repeat' split
  all_goals exact b01_bd
theorem cmpO_ne (o : Int) : ¬ (29 ≤ cmpO o ∧ cmpO o ≤ 32) := by
  unfold cmpO
  repeat' split
  all_goals omega
theorem cst_bd {s : Nat} {cd : Nat → Int × Int} {E : eV} (hE : eG E) {i j : Nat} {st st' : List Int} (h : cst s cd E (i, st) = some (j, st')) (hb : bd6 st) : bd6 st' ∧ i < j ∧ st'.length ≤ st.length + 1 := by
  unfold cst at h
  dsimp only at h
  repeat' split at h
  all_goals first
    | (cases h; done)
    | (cases h
       try simp only [bd6_cons] at hb ⊢
       try simp only [List.length_cons]
       first
         | exact ⟨hb, by omega, by omega⟩
         | exact ⟨hb.2, by omega, by omega⟩
         | exact ⟨⟨one1_bd hE hb.1, hb.2⟩, by omega, by omega⟩
         | exact ⟨⟨two1_bd hb.2.1, hb.2.2⟩, by omega, by omega⟩
         | exact ⟨⟨by have := hE.1 (cd i).1.toNat; omega, hb⟩, by omega, by omega⟩
         | exact ⟨⟨by omega, hb⟩, by omega, by omega⟩
         | exact ⟨⟨by omega, hb.2⟩, by omega, by omega⟩
         | exact ⟨⟨by omega, hb.2.2⟩, by omega, by omega⟩)
theorem rst_bd {s : Nat} {cd : Nat → Int × Int} {E : eV} (hE : eG E) {i j : Nat} {vs vs' ts ts' : List Int} (h : rst s cd E (i, vs, ts) = some (j, vs', ts')) (hb : bd6 vs) (ht : ∀ b ∈ ts, b = 0 ∨ b = 1) : bd6 vs' ∧ (∀ b ∈ ts', b = 0 ∨ b = 1) ∧ j = i + 1 ∧ vs'.length ≤ vs.length + 1 ∧ ts'.length ≤ ts.length + 1 := by
  unfold rst at h
  dsimp only at h
  repeat' split at h
  all_goals first
    | (cases h; done)
    | (cases h
       try simp only [bd6_cons] at hb ⊢
       try simp only [List.forall_mem_cons] at ht ⊢
       try simp only [List.length_cons]
       first
         | exact ⟨⟨by omega, hb⟩, ht, by simp, by omega, by omega⟩
         | exact ⟨⟨by have := hE.1 (cd i).2.toNat; omega, hb⟩, ht, by simp, by omega, by omega⟩
         | exact ⟨⟨by split <;> omega, hb.2.2⟩, ht.2, by simp, by omega, by omega⟩
         | exact ⟨⟨one1_bd hE hb.1, hb.2⟩, ht, by simp, by omega, by omega⟩
         | exact ⟨⟨two1_bd hb.2.1, hb.2.2⟩, ht, by simp, by omega, by omega⟩
         | exact ⟨hb.2.2, ⟨two1_01 (cmpO_ne _), ht⟩, by simp, by omega, by omega⟩
         | exact ⟨⟨by omega, hb.2.2⟩, ht.2, by simp, by omega, by omega⟩
         | exact ⟨hb, ⟨by omega, ht.2⟩, by simp, by omega, by omega⟩
         | exact ⟨hb, ⟨by omega, ht.2.2⟩, by simp, by omega, by omega⟩)
/-- a stretch of the class's code that brings one value -/
def frC (s : Nat) (cd : Nat → Int × Int) (i j : Nat) (w : eV → Int) : Prop := i < j ∧ ∀ E, eG E → ∀ st, ∃ c, c ≤ j - i ∧ itr (cst s cd E) c (i, st) = some (j, w E :: st)
/-- a stretch of the reference's -/
def frV (s : Nat) (cd : Nat → Int × Int) (i j : Nat) (w : eV → Int) : Prop := i < j ∧ ∀ E, eG E → ∀ vs ts, itr (rst s cd E) (j - i) (i, vs, ts) = some (j, w E :: vs, ts)
def frT (s : Nat) (cd : Nat → Int × Int) (i j : Nat) (w : eV → Int) : Prop := i < j ∧ ∀ E, eG E → ∀ vs ts, itr (rst s cd E) (j - i) (i, vs, ts) = some (j, vs, w E :: ts)
