/-! ===== runs of the small machine ===== -/
def xMo (h : xH) (o : Option xS) : Prop := ∀ s, o = some s → h.1 ≤ s.2.2.2.1 ∧ h.2.1 ≤ s.2.2.2.2.1
theorem xMo_no {h : xH} : xMo h none := fun _ h => by cases h
theorem xMo_at {h : xH} {pc : Nat} {ls : xL} {st : List Value} : xMo h (some (pc, ls, st, h)) := fun s hs => by cases hs; exact ⟨Nat.le_refl _, Nat.le_refl _⟩
theorem xMo_up {h : xH} {pc i : Nat} {ls : xL} {st : List Value} {e : va_E} : xMo h (some (pc, ls, st, xUp h i e)) := fun s hs => by cases hs; exact ⟨Nat.le_refl _, Nat.le_refl _⟩
theorem xMo_nw {h : xH} {pc n : Nat} {ls : xL} {st : List Value} {e : va_E} : xMo h (some (pc, ls, st, xNw h n e)) := fun s hs => by cases hs; exact ⟨Nat.le_succ _, Nat.le_add_right _ _⟩
theorem xMo_i {h : xH} {st : List Value} {k : Int32 → List Value → Option xS} (hk : ∀ x r, xMo h (k x r)) : xMo h (xi st k) := fun s hs => by
  obtain ⟨x, r, -, he⟩ := xi_inv hs; exact hk x r s he
theorem xMo_ii {h : xH} {st : List Value} {k : Int32 → Int32 → List Value → Option xS} (hk : ∀ x y r, xMo h (k x y r)) : xMo h (xii st k) := fun s hs => by
  obtain ⟨x, y, r, -, he⟩ := xii_inv hs; exact hk x y r s he
theorem xMo_l {h : xH} {st : List Value} {k : Int64 → List Value → Option xS} (hk : ∀ x r, xMo h (k x r)) : xMo h (xl st k) := fun s hs => by
  obtain ⟨x, r, -, he⟩ := xl_inv hs; exact hk x r s he
theorem xMo_ll {h : xH} {st : List Value} {k : Int64 → Int64 → List Value → Option xS} (hk : ∀ x y r, xMo h (k x y r)) : xMo h (xll st k) := fun s hs => by
  obtain ⟨x, y, r, -, he⟩ := xll_inv hs; exact hk x y r s he
theorem xMo_li {h : xH} {st : List Value} {k : Int64 → Int32 → List Value → Option xS} (hk : ∀ x y r, xMo h (k x y r)) : xMo h (xli st k) := fun s hs => by
  obtain ⟨x, y, r, -, he⟩ := xli_inv hs; exact hk x y r s he
theorem xMo_a {h : xH} {st : List Value} {k : Nat → List Value → Option xS} (hk : ∀ x r, xMo h (k x r)) : xMo h (xa st k) := fun s hs => by
  obtain ⟨x, r, -, he⟩ := xa_inv hs; exact hk x r s he
theorem xMo_ai {h : xH} {st : List Value} {k : Nat → Int32 → List Value → Option xS} (hk : ∀ x y r, xMo h (k x y r)) : xMo h (xai st k) := fun s hs => by
  obtain ⟨x, y, r, -, he⟩ := xai_inv hs; exact hk x y r s he
theorem xMo_q {h : xH} {st : List Value} {k : Option Nat → List Value → Option xS} (hk : ∀ x r, xMo h (k x r)) : xMo h (xq st k) := fun s hs => by
  obtain ⟨x, r, -, he⟩ := xq_inv hs; exact hk x r s he
theorem xMo_ob {h : xH} {a ci : Nat} {k : List Value → Option xS} (hk : ∀ x, xMo h (k x)) : xMo h (xob h a ci k) := fun s hs => by
  obtain ⟨x, -, he⟩ := xob_inv hs; exact hk x s he
theorem xMo_ar {h : xH} {a t : Nat} {k : Nat → (Nat → Int32) → Option xS} (hk : ∀ x y, xMo h (k x y)) : xMo h (xar h a t k) := fun s hs => by
  obtain ⟨x, y, -, he⟩ := xar_inv hs; exact hk x y s he
theorem xMo_arl {h : xH} {a : Nat} {k : Nat → (Nat → Int64) → Option xS} (hk : ∀ x y, xMo h (k x y)) : xMo h (xarl h a k) := fun s hs => by
  obtain ⟨x, y, -, he⟩ := xarl_inv hs; exact hk x y s he
theorem xMo_arq {h : xH} {a : Nat} {k : Nat → Nat → (Nat → Option Nat) → Option xS} (hk : ∀ x y z, xMo h (k x y z)) : xMo h (xarq h a k) := fun s hs => by
  obtain ⟨x, y, z, -, -, he⟩ := xarq_inv hs; exact hk x y z s he
theorem xMo_in {h : xH} {i : Int32} {n : Nat} {k : Nat → Option xS} (hk : ∀ x, xMo h (k x)) : xMo h (xin i n k) := fun s hs => by
  obtain ⟨-, he⟩ := xin_inv hs; exact hk _ s he
theorem xMo_b {h : xH} {α : Type} {o : Option α} {k : α → Option xS} (hk : ∀ x, xMo h (k x)) : xMo h (o.bind k) := fun s hs => by
  obtain ⟨x, -, he⟩ := Option.bind_eq_some_iff.mp hs; exact hk _ s he
theorem xMo_c {h : xH} {b : Bool} {x y : Option xS} (hx : xMo h x) (hy : xMo h y) : xMo h (bif b then x else y) := by cases b <;> assumption
set_option maxHeartbeats 4000000 in
theorem xStep_mono {ro : xRo} {i : xI} {pc : Nat} {ls : xL} {st : List Value} {h : xH} : xMo h (xStep ro i pc ls st h) := by
  obtain ⟨op, len, A, B, k, ps⟩ := i
  unfold xStep
  dsimp only
  cases op <;> dsimp only <;> repeat (first
    | exact xMo_no | exact xMo_at | exact xMo_up | exact xMo_nw
    | (refine xMo_i fun _ _ => ?_) | (refine xMo_ii fun _ _ _ => ?_) | (refine xMo_l fun _ _ => ?_) | (refine xMo_ll fun _ _ _ => ?_) | (refine xMo_li fun _ _ _ => ?_)
    | (refine xMo_a fun _ _ => ?_) | (refine xMo_ai fun _ _ _ => ?_) | (refine xMo_q fun _ _ => ?_) | (refine xMo_ob fun _ => ?_) | (refine xMo_ar fun _ _ => ?_) | (refine xMo_arl fun _ _ => ?_) | (refine xMo_arq fun _ _ _ => ?_)
    | (refine xMo_in fun _ => ?_) | (refine xMo_b fun _ => ?_) | (refine xMo_c ?_ ?_) | split)
abbrev xR : Type := Option Value × xH
/-- the receiver of a call is of the class that the words speak of: its number is the sixth place; 99: a text -/
def xRcv (i : xI) (as : List Value) (h : xH) : Bool := match i.1 with
  | .invokevirtual _ => match as with
    | .ref a :: _ => match h.2.2 a with
      | some (.inr (c, _)) => Nat.beq c (i.2.2.2.2.2.getD 5 0)
      | _ => Nat.ble 2 a && Nat.ble a 4 && Nat.beq (i.2.2.2.2.2.getD 5 0) 99
    | _ => false
  | .invokespecial _ => match as with
    | .ref _ :: _ => true
    | _ => false
  | _ => true
def xRetV (ret : Option FieldType) (op : Instr) (st : List Value) : Option (Option Value) := match op with
  | .ireturn => match st with
    | [.int x] => match ret with
      | some .int => some (some (.int x))
      | some .boolean => if x = 0 ∨ x = 1 then some (some (.int x)) else none
      | some .char => if narrow .char (.int x) = .int x then some (some (.int x)) else none
      | some .byte => if narrow .byte (.int x) = .int x then some (some (.int x)) else none
      | _ => none
    | _ => none
  | .lreturn => match st with
    | [.long x] => match ret with
      | some .long => some (some (.long x))
      | _ => none
    | _ => none
  | .areturn => match st with
    | [.ref x] => match ret with
      | some (.object _) => some (some (.ref x))
      | some (.array _) => some (some (.ref x))
      | _ => none
    | [.null] => match ret with
      | some (.object _) => some (some .null)
      | some (.array _) => some (some .null)
      | _ => none
    | _ => none
  | .return_ => match st with
    | [] => match ret with
      | none => some none
      | _ => none
    | _ => none
  | _ => none
def xRun (ro : xRo) (E : Nat → List Value → xH → xR → Prop) (ret : Option FieldType) (code : xC) : Nat → Nat → xL → List Value → xH → xR → Prop
  | 0, _, _, _, _, _ => False
  | n + 1, pc, ls, st, h, r => ∃ i, xAt code pc = some i ∧
      ((∃ pc' ls' st' h', xStep ro i pc ls st h = some (pc', ls', st', h') ∧ xRun ro E ret code n pc' ls' st' h' r)
      ∨ (∃ j k v h', xCallee i = some (j, k) ∧ k ≤ st.length ∧ ((st.drop k).map fun v => v.category).sum ≤ 8 ∧ xRcv i (st.take k).reverse h = true ∧ E j (st.take k).reverse h (v, h') ∧ xRun ro E ret code n (pc + 3) ls (v.toList ++ st.drop k) h' r)
      ∨ (∃ v, xRetV ret i.1 st = some v ∧ r = (v, h)))
/-- a method's run at a depth of calls: built-in ones by B -/
def xEv (ro : xRo) (P : Nat → Option xMeth) (B : Nat → List Value → xH → xR → Prop) : Nat → Nat → List Value → xH → xR → Prop
  | 0, _, _, _, _ => False
  | d + 1, j, as, h, r => (10 ≤ d ∧ B j as h r) ∨ ∃ M n, P j = some M ∧ Nat.ble (lg_sl as).length M.2.2.1 = true ∧ xRun ro (xEv ro P B d) M.2.2.2.1 M.2.2.2.2 n 0 (lv_args 0 as) [] h r
def xLe (h : xH) (r : xR) : Prop := h.1 ≤ r.2.1 ∧ h.2.1 ≤ r.2.2.1
theorem xRun_mono {ro : xRo} {E : Nat → List Value → xH → xR → Prop} {ret : Option FieldType} {code : xC} (hE : ∀ j as h r, E j as h r → xLe h r) : ∀ n pc ls st h r, xRun ro E ret code n pc ls st h r → xLe h r := by
  intro n
  induction n with
  | zero => intro pc ls st h r hr; cases hr
  | succ n ih =>
    intro pc ls st h r hr
    obtain ⟨i, -, hr⟩ := hr
    rcases hr with ⟨pc', ls', st', h', hs, hr⟩ | ⟨j, k, v, h', -, -, -, -, he, hr⟩ | ⟨v, -, rfl⟩
    · have h1 := xStep_mono _ hs
      have h2 := ih _ _ _ _ _ hr
      exact ⟨Nat.le_trans h1.1 h2.1, Nat.le_trans h1.2 h2.2⟩
    · have h1 := hE _ _ _ _ he
      have h2 := ih _ _ _ _ _ hr
      exact ⟨Nat.le_trans h1.1 h2.1, Nat.le_trans h1.2 h2.2⟩
    · exact ⟨Nat.le_refl _, Nat.le_refl _⟩
theorem xEv_mono {ro : xRo} {P : Nat → Option xMeth} {B : Nat → List Value → xH → xR → Prop} (hB : ∀ j as h r, B j as h r → xLe h r) : ∀ d j as h r, xEv ro P B d j as h r → xLe h r := by
  intro d
  induction d with
  | zero => intro j as h r hr; cases hr
  | succ d ih =>
    intro j as h r hr
    rcases hr with ⟨-, hr⟩ | ⟨M, n, -, -, hr⟩
    · exact hB _ _ _ _ hr
    · exact xRun_mono ih _ _ _ _ _ _ hr
