/-! THE CLAIM OUT OF ONE WALK OF THE LAW'S BODY. Your part is whole_start (and what it stands on); all else here is the same for every law, but numbers. -/
def R_law : String := "MagpieAccountsLaw"
def lw_P (b : Addr) (xs : List Int32) (args : Array Value) (s : State) : Prop := args = #[.ref b] ∧ s.IntsAt b xs ∧ xs.length ≤ 3072 ∧ (Jvm.Cond.and given_1 narrow_1).before args s = true
def lw_Q (_ : Array Value) (s : State) (o : Outcome) (t : State) : Prop := o = .returned (some (.int 1)) ∧ Framed s o t [] 600000 7302250
def lw_Z (below : List Frame) (a : Array Value) (s : State) : State → Prop := fun t => ∃ o, t.status = .running ∧ Ended t below o ∧ lw_Q a s o t
/-- the law's own end, with 1 on the stack, nothing written that was there before, its room as the claim has it -/
theorem lw_ret {p : Program} {l : Launch} {e : Env} {s : State} {m : MethodId} {below : List Frame} {meth : Method} {c : Code} {b : Nat} (hx : p.tables.exec = Jvm.exec) (hb : c.code = code) (hr : meth.sig.returnType = ret) (hlocks : meth.locks = false) {pc : Nat} {H : Heap} {ls : Array Slot} (hdg : decode code pc = .ok (.ireturn, 1)) : W p l e room_1 s m #[Value.ref b] below meth c H [] 600000 7302250 (lw_Z below #[Value.ref b] s) (F0 m pc ls [.int 1]) := by
  intro T hT X
  obtain ⟨fs, hret, hrun, hended, hW, hframe⟩ := X.leave (v := some (.int 1)) (hlocks := hlocks) (fun h => by rw [hr] at h; cases h)
  have hmeth' : T.vm.method? m = some meth := X.method'
  refine ⟨T.setFrames fs, ?_, .returned (some (.int 1)), hrun, hended, rfl, ⟨_, rfl⟩, hW, hframe⟩
  jvm_step X.here [X.here.top, hx, hb, hdg, hmeth', hr, ret, narrow_b1]
  (try refine ⟨rfl, ?_⟩); (try refine ⟨rfl, ?_⟩)
  first | (intro acts; rw [hret _ acts rfl rfl rfl]) | rw [hret _ _ rfl rfl rfl]
  exact Steps.refl _
/-- what holds at the law's entry: the machine, the code, the tables' words (any of lw_tbl by 'hts w (by decide +kernel)'), the script of L ints xs at the cell b, what the Statement gives of the start (any of its parts by flat_of_before) -/
def lw_At (p : Program) (s : State) (m : MethodId) (meth : Method) (c : Code) (b L : Nat) (xs : Nat → Int32) : Prop :=
  p.tables.exec = Jvm.exec ∧ c.code = code ∧ meth.sig.returnType = ret ∧ c.maxLocals = 4 ∧ s.vm.findClass R_law = some m.cls ∧ (∀ w ∈ lw_tbl, w.before #[Value.ref b] s = true) ∧ va_X b L xs s s.heap ∧ b < s.heap.size ∧ meth.locks = false ∧ (Jvm.Cond.and given_1 narrow_1).before #[Value.ref b] s = true
/-! ===== the law's start: what the Statement gives, as the small machine's world ===== -/
def xGp : Nat → Int32 := fun j => ([34, 21, 13, 8, 5, 3, 2, 1] : List Int32).getD j 0
def xRoL (L : Nat) (xs : Nat → Int32) (F : Bool) : xRo := fun i => match i with
  | 0 => some (L, xs)
  | 1 => some (8, xGp)
  | 8 => bif F then some (0, fun _ => 0) else none
  | _ => none
def xSt0 : String := "day   fund  last  gone  numberodds  periodcount thing rhyme came  not   and   or    if    then  else  end   chancebringsbird  thin  call  grant by    "
def xSt1 : String := "<>=#+-*/();"
def xSt2 : String := "012301320213023103120321102310321203123013021320201320312103213023012310301230213102312032013210"
def xTm : Nat → Term := fun i => match i with
  | 0 => .string RX9 74
  | 1 => .string RX9 67
  | _ => .string RX4 50
def xFl : List Jvm.Cond := flatC (Jvm.Cond.and given_1 narrow_1)
def xEl2 (i j : Nat) : Jvm.Cond := Cond.eq (.elem (.field (xTm i) "java/lang/String" "value" "[B") (.int (Int32.ofNat j))) (.int (([xBy0, xBy1, xBy2].getD i []).getD j 0))
theorem xfl0 : (xFl.drop 50).take 150 = (List.range 150).map (xEl2 0) := by decide +kernel
theorem xfl1 : (xFl.drop 204).take 11 = (List.range 11).map (xEl2 1) := by decide +kernel
theorem xfl2 : (xFl.drop 220).take 96 = (List.range 96).map (xEl2 2) := by decide +kernel
theorem xflg : (xFl.drop 12).take 8 = (List.range 8).map (fun j => Cond.eq (.elem (.static "MagpieAccounts" "GAME_PARTS" "[I") (.int (Int32.ofNat j))) (.int (xGp j))) := by decide +kernel
theorem xflm {K N : Nat} {f : Nat → Jvm.Cond} (h : (xFl.drop K).take N = (List.range N).map f) {j : Nat} (hj : j < N) : f j ∈ xFl := by
  have h1 : f j ∈ (xFl.drop K).take N := by rw [h]; exact List.mem_map.mpr ⟨j, List.mem_range.mpr hj, rfl⟩
  exact List.mem_of_mem_drop (List.mem_of_mem_take h1)
theorem xfla {k : Nat} {w : Jvm.Cond} (h : xFl[k]? = some w) : w ∈ xFl := List.mem_of_getElem? h
theorem x3 {P : Nat → Prop} (h0 : P 0) (h1 : P 1) (h2 : P 2) : ∀ i, i < 3 → P i := fun i hi => match i, hi with
  | 0, _ => h0
  | 1, _ => h1
  | 2, _ => h2
set_option maxRecDepth 100000 in
set_option maxHeartbeats 4000000 in
theorem xworld {p : Program} {s : State} {m : MethodId} {meth : Method} {c : Code} {b L : Nat} {xs : Nat → Int32} (C0 : lw_At p s m meth c b L xs) : ∃ g : xG, g.1 = s.heap.size ∧ g.2.1 0 = b ∧ ∃ F : Bool, xK g (xRoL L xs F) s s.heap := by
  obtain ⟨hx, hb, hr, hml, hown, hts, hX, hbl, hlocks, hgv⟩ := id C0
  have hfl : ∀ w ∈ xFl, w.before #[Value.ref b] s = true := fun w hw => flat_of_before _ hgv w hw
  have hA : ∀ a : Nat, a < s.heap.size → ¬ (fun q : Nat => s.heap.size ≤ q) a := fun a h => Nat.not_le.mpr h
  obtain ⟨c0, i0, k0⟩ := u_known (C := RX0) (T := TX0) (N := 16) (n := 16) hts inX0 (hts (.instantiable RX0 16) (List.mem_of_getElem? (i := 149) (by decide +kernel)))
  obtain ⟨c1, i1, k1⟩ := u_known (C := RX1) (T := TX1) (N := 4) (n := 4) hts inX1 (hts (.instantiable RX1 4) (List.mem_of_getElem? (i := 143) (by decide +kernel)))
  obtain ⟨c2, i2, k2⟩ := u_known (C := RX2) (T := TX2) (N := 9) (n := 9) hts inX2 (hts (.instantiable RX2 9) (List.mem_of_getElem? (i := 155) (by decide +kernel)))
  obtain ⟨c3, i3, k3⟩ := u_known (C := RX3) (T := TX3) (N := 3) (n := 3) hts inX3 (hts (.instantiable RX3 3) (List.mem_of_getElem? (i := 226) (by decide +kernel)))
  obtain ⟨c4, i4, k4⟩ := u_known (C := RX4) (T := TX4) (N := 5) (n := 5) hts inX4 (hts (.instantiable RX4 5) (List.mem_of_getElem? (i := 255) (by decide +kernel)))
  obtain ⟨c5, i5, k5⟩ := u_known (C := RX5) (T := TX5) (N := 16) (n := 16) hts inX5 (hts (.instantiable RX5 16) (List.mem_of_getElem? (i := 365) (by decide +kernel)))
  obtain ⟨c6, i6, k6⟩ := u_known (C := RX6) (T := TX6) (N := 1) (n := 1) hts inX6 (hts (.instantiable RX6 1) (List.mem_of_getElem? (i := 244) (by decide +kernel)))
  obtain ⟨c7, i7, k7⟩ := u_known (C := RX7) (T := TX7) (N := 3) (n := 3) hts inX7 (hts (.instantiable RX7 3) (List.mem_of_getElem? (i := 464) (by decide +kernel)))
  obtain ⟨c8, i8, k8⟩ := u_known (C := RX8) (T := TX8) (N := 3) (n := 3) hts inX8 (hts (.instantiable RX8 3) (List.mem_of_getElem? (i := 204) (by decide +kernel)))
  obtain ⟨c9, i9, k9⟩ := u_known (C := RX9) (T := TX9) (N := 6) (n := 6) hts inX9 (hts (.instantiable RX9 6) (List.mem_of_getElem? (i := 371) (by decide +kernel)))
  obtain ⟨c10, i10, k10⟩ := u_known (C := RX10) (T := TX10) (N := 9) (n := 9) hts inX10 (hts (.instantiable RX10 9) (List.mem_of_getElem? (i := 782) (by decide +kernel)))
  obtain ⟨c11, i11, k11⟩ := u_known (C := RX11) (T := TX11) (N := 11) (n := 11) hts inX11 (hts (.instantiable RX11 11) (List.mem_of_getElem? (i := 135) (by decide +kernel)))
  obtain ⟨c12, i12, k12⟩ := u_known (C := RX12) (T := TX12) (N := 32) (n := 32) hts inX12 (hts (.instantiable RX12 32) (List.mem_of_getElem? (i := 1475) (by decide +kernel)))
  obtain ⟨dC, dI, hKc⟩ : ∃ (dC : Nat → ClassId) (dI : Nat → Nat → Nat), ∀ (k : Nat) (q : vw_C), vwCl[k]? = some q → u_Kn s q.1 q.2.1 q.2.2 (dC k) (dI k) := by
    refine ⟨fun k => [c0, c1, c2, c3, c4, c5, c6, c7, c8, c9, c10, c11, c12].getD k 0, fun k => [i0, i1, i2, i3, i4, i5, i6, i7, i8, i9, i10, i11, i12].getD k (fun _ => 0), ?_⟩
    intro k q hq
    match k, hq with
    | 0, hq => cases hq; exact k0
    | 1, hq => cases hq; exact k1
    | 2, hq => cases hq; exact k2
    | 3, hq => cases hq; exact k3
    | 4, hq => cases hq; exact k4
    | 5, hq => cases hq; exact k5
    | 6, hq => cases hq; exact k6
    | 7, hq => cases hq; exact k7
    | 8, hq => cases hq; exact k8
    | 9, hq => cases hq; exact k9
    | 10, hq => cases hq; exact k10
    | 11, hq => cases hq; exact k11
    | 12, hq => cases hq; exact k12
    | k + 13, hq => simp [vwCl] at hq
  obtain ⟨a0, kA0, cm0, f0, e0, d0⟩ := Cond.arrayClass_spec (args := #[Value.ref b]) (first := s) (o := none) (s := s) (idx := []) (hts (.arrayClass .int) (List.mem_of_getElem? (i := 202) (by decide +kernel)))
  obtain ⟨a1, kA1, cm1, f1, e1, d1⟩ := Cond.arrayClass_spec (args := #[Value.ref b]) (first := s) (o := none) (s := s) (idx := []) (hts (.arrayClass .long) (List.mem_of_getElem? (i := 480) (by decide +kernel)))
  obtain ⟨a2, kA2, cm2, f2, e2, d2⟩ := Cond.arrayClass_spec (args := #[Value.ref b]) (first := s) (o := none) (s := s) (idx := []) (hts (.arrayClass .boolean) (List.mem_of_getElem? (i := 242) (by decide +kernel)))
  obtain ⟨cm3, a3, kA3, f3, -, e3, d3, n3⟩ := Cond.arrayOver_spec (args := #[Value.ref b]) (first := s) (o := none) (s := s) (idx := []) (hts (.arrayOver (.object RX2)) (List.mem_of_getElem? (i := 210) (by decide +kernel)))
  obtain ⟨cm4, a4, kA4, f4, -, e4, d4, n4⟩ := Cond.arrayOver_spec (args := #[Value.ref b]) (first := s) (o := none) (s := s) (idx := []) (hts (.arrayOver (.object RX10)) (List.mem_of_getElem? (i := 224) (by decide +kernel)))
  obtain ⟨t, ht, hT⟩ := va_Tof (args := #[Value.ref b]) (s := s) (tm := .static "MagpieAccounts" "GAME_PARTS" "[I") (ty := .int) (N := 8) (f := fun j => .int (xGp j)) (A := fun q : Nat => s.heap.size ≤ q) (by decide) (hfl _ (xfla (k := 10) (by decide +kernel))) (va_eqt (hfl _ (xfla (k := 11) (by decide +kernel)))) (fun j hj => va_eqt (hfl _ (xflm xflg hj))) hA
  obtain ⟨adK, adV, hS, hev⟩ := vk_Sof (args := #[Value.ref b]) (s := s) (N := 3) (tm := xTm) (len := [150, 11, 96]) (byt := [xBy0, xBy1, xBy2]) (A := fun q : Nat => s.heap.size ≤ q) (by decide)
    (x3 (hfl _ (xfla (k := 46) (by decide +kernel))) (hfl _ (xfla (k := 200) (by decide +kernel))) (hfl _ (xfla (k := 216) (by decide +kernel))))
    (x3 (hfl _ (xfla (k := 47) (by decide +kernel))) (hfl _ (xfla (k := 201) (by decide +kernel))) (hfl _ (xfla (k := 217) (by decide +kernel))))
    (x3 (hfl _ (xfla (k := 48) (by decide +kernel))) (hfl _ (xfla (k := 202) (by decide +kernel))) (hfl _ (xfla (k := 218) (by decide +kernel))))
    (x3 (hfl _ (xfla (k := 49) (by decide +kernel))) (hfl _ (xfla (k := 203) (by decide +kernel))) (hfl _ (xfla (k := 219) (by decide +kernel))))
    (x3 (fun j hj => hfl _ (xflm xfl0 hj)) (fun j hj => hfl _ (xflm xfl1 hj)) (fun j hj => hfl _ (xflm xfl2 hj)))
    (by
      have n01 : (Cond.not (Cond.eq (xTm 0) (xTm 1))).before #[Value.ref b] s = true := hfl _ (xfla (k := 215) (by decide +kernel))
      have n02 : (Cond.not (Cond.eq (xTm 0) (xTm 2))).before #[Value.ref b] s = true := hfl _ (xfla (k := 316) (by decide +kernel))
      have n12 : (Cond.not (Cond.eq (xTm 1) (xTm 2))).before #[Value.ref b] s = true := hfl _ (xfla (k := 317) (by decide +kernel))
      intro i j hi hj hij
      match i, j, hi, hj, hij with
      | 0, 0, _, _, h => exact absurd rfl h
      | 0, 1, _, _, _ => exact Or.inl n01
      | 0, 2, _, _, _ => exact Or.inl n02
      | 1, 0, _, _, _ => exact Or.inr n01
      | 1, 1, _, _, h => exact absurd rfl h
      | 1, 2, _, _, _ => exact Or.inl n12
      | 2, 0, _, _, _ => exact Or.inr n02
      | 2, 1, _, _, _ => exact Or.inr n12
      | 2, 2, _, _, h => exact absurd rfl h
    ) hA
  obtain ⟨tf, F, hF⟩ : ∃ (tf : Nat) (F : Bool), va_Z "jdk/internal/util/Preconditions" "SIOOBE_FORMATTER" "Ljava/util/function/BiFunction;" (match xRoL L xs F 8 with
    | some _ => .ref tf
    | none => .null) (fun q : Nat => s.heap.size ≤ q) s s.heap := by
    rcases va_Zqof (hts (.laysStatic "jdk/internal/util/Preconditions" "SIOOBE_FORMATTER" "Ljava/util/function/BiFunction;") (List.mem_of_getElem? (i := 591) (by decide +kernel))) (hts (.initialized "jdk/internal/util/Preconditions") (List.mem_of_getElem? (i := 126) (by decide +kernel))) (hfl _ (xfla (k := 5) (by decide +kernel))) hA with h | ⟨tf, h⟩
    · exact ⟨0, false, h⟩
    · exact ⟨tf, true, h⟩
  refine ⟨(s.heap.size, (fun i : Nat => if i = 0 then b else if i = 1 then t else if i < 5 then adK (i - 2) else if i < 8 then adV (i - 5) else tf), fun k => [a0, a1, a2, a3, a4].getD k 0, dC, dI), rfl, rfl, F, ⟨hKc, fun k q hk => ?_⟩, fun w hw => ?_, va_AO.of (hts (.arrayOver (.object RX2)) (List.mem_of_getElem? (i := 210) (by decide +kernel))), va_AO.of (hts (.arrayOver (.object RX10)) (List.mem_of_getElem? (i := 224) (by decide +kernel))), fun i n f hi2 hro => ?_, va_Zof (hts (.laysStatic "MagpieAccounts" "GAME_PARTS" "[I") (List.mem_of_getElem? (i := 1400) (by decide +kernel))) (hts (.initialized "MagpieAccounts") (List.mem_of_getElem? (i := 112) (by decide +kernel))) ht hA, ?_⟩
  · match k, hk with
    | 0, hk => cases hk; exact ⟨fun N z => ⟨(fun k h => by cases h), kA0, e0, cm0, d0⟩, f0⟩
    | 1, hk => cases hk; exact ⟨fun N z => ⟨(fun k h => by cases h), kA1, e1, cm1, d1⟩, f1⟩
    | 2, hk => cases hk; exact ⟨fun N z => ⟨(fun k h => by cases h), kA2, e2, cm2, d2⟩, f2⟩
    | 3, hk => cases hk; exact ⟨fun N z => ⟨(fun k h => by cases h), kA3, e3, cm3, d3⟩, kA3, cm3, e3, d3, f3, n3⟩
    | 4, hk => cases hk; exact ⟨fun N z => ⟨(fun k h => by cases h), kA4, e4, cm4, d4⟩, kA4, cm4, e4, d4, f4, n4⟩
    | k + 5, hk => simp [xTys] at hk
  · have h := hts w (List.mem_filter.mp hw).1
    obtain ⟨a, i, y, z, rfl⟩ := xNests_ok hw
    exact va_Nw.of rfl h
  · match i, hro with
    | 0, hro =>
      cases hro
      obtain ⟨scr, h1, h2, h3, h4, h5⟩ := hX
      exact ⟨scr, h1, h2, h3, by omega, by rw [h4] <;> rfl, h5, hA b hbl⟩
    | 1, hro => cases hro; exact hT
    | i + 2, _ => omega
  · refine ⟨⟨xSt0, vk_R.of (hts (.stringRef RX9 74 xSt0) (List.mem_of_getElem? (i := 573) (by decide +kernel))) (hev 0 (by decide))⟩, ⟨xSt1, vk_R.of (hts (.stringRef RX9 67 xSt1) (List.mem_of_getElem? (i := 632) (by decide +kernel))) (hev 1 (by decide))⟩, ⟨xSt2, vk_R.of (hts (.stringRef RX4 50 xSt2) (List.mem_of_getElem? (i := 1327) (by decide +kernel))) (hev 2 (by decide))⟩, ?_, va_Zof (hts (.laysStatic "java/lang/String" "COMPACT_STRINGS" "Z") (List.mem_of_getElem? (i := 583) (by decide +kernel))) (hts (.initialized "java/lang/String") (List.mem_of_getElem? (i := 124) (by decide +kernel))) (va_eqi (hfl _ (xfla (k := 4) (by decide +kernel)))) hA, hF, va_Nw.of rfl (hts (.castable "[I" "java/lang/Cloneable") (List.mem_of_getElem? (i := 795) (by decide +kernel)))⟩
    obtain ⟨hS1, hS2⟩ := hS
    exact ⟨x3 (hS1 0 (by decide)) (hS1 1 (by decide)) (hS1 2 (by decide)), fun i j hi hj e => hS2 i j hi hj (by
      revert e
      show (if 2 + i = 0 then b else if 2 + i = 1 then t else if 2 + i < 5 then adK (2 + i - 2) else if 2 + i < 8 then adV (2 + i - 5) else tf) = (if 2 + j = 0 then b else if 2 + j = 1 then t else if 2 + j < 5 then adK (2 + j - 2) else if 2 + j < 8 then adV (2 + j - 5) else tf) → _
      rw [if_neg (by omega), if_neg (by omega), if_pos (by omega), if_neg (by omega), if_neg (by omega), if_pos (by omega), show 2 + i - 2 = i by omega, show 2 + j - 2 = j by omega]
      exact id)⟩
/-- what is left of the claim: the small machine's run of the law -/
def xNo : Nat → List Value → xH → xR → Prop := fun _ _ _ _ => False
def xLawRuns : Prop := ∀ (L : Nat) (xs : Nat → Int32) (F : Bool), L ≤ 3072 → ∃ (n : Nat) (h' : xH), xRun (xRoL L xs F) (xEv (xRoL L xs F) xP xNo 690) (some .boolean) kL_law n 0 [(0, .ref 0)] [] (16, 0, fun _ => none) (some (.int 1), h') ∧ h'.1 ≤ 600016 ∧ h'.2.1 ≤ 7302250
theorem xstart (hLaw : xLawRuns) {p : Program} {e : Env} {s : State} {m : MethodId} {below : List Frame} {meth : Method} {c : Code} (l : Launch) {b L : Nat} {xs : Nat → Int32} (hL : L ≤ 3072) (C0 : lw_At p s m meth c b L xs) : W p l e room_1 s m #[Value.ref b] below meth c s.heap [] 0 0 (lw_Z below #[Value.ref b] s) (entryFrame m ([Value.ref b] : List Value).toArray 4) := by
  obtain ⟨g, hg1, hg0, F, hK⟩ := xworld C0
  obtain ⟨hx, hb, hr, hml, hown, hts, hX, hbl, hlocks, hgv⟩ := id C0
  obtain ⟨n, h', hrun, hc1, hc2⟩ := hLaw L xs F hL
  have hts2 : ∀ w ∈ xTb, w.before #[Value.ref b] s = true := fun w hw => hts w (List.mem_filter.mp hw).1
  have hE : ∀ j as h r, xEv (xRoL L xs F) xP xNo 690 j as h r → xLe h r ∧ ∀ M, xP j = some M → xMet l g (xRoL L xs F) 690 M as h r := fun j as h r q => xev_sound (fun j as h r z => absurd z id) xP_ok xP_cw 690 j as h r q
  have hck : ∀ l ∈ kL_law, ∀ q ∈ l, xChk RL "law" cL_law 4 q.1 q.2 = true ∧ xChkC xP RL q.2 = true := by
    intro l hl q hq
    have h1 := ck_law l hl q hq
    simp only [Bool.and_eq_true] at h1
    exact h1
  have hnm : meth.name = meth.name := rfl
  have hl := lv_entry ([.ref b]) (n := 4) (Nat.le_of_ble_eq_true rfl)
  rw [lg_entry_eq]
  have hW0 : xW g (16, 0, fun _ => none) s.heap := ⟨Nat.le_refl _, by rw [hg1], fun i e h => by cases h⟩
  have hlE : lv_has ((lg_sl [Value.ref b] ++ List.replicate (4 - (lg_sl [Value.ref b]).length) Slot.unset).toArray) 4 (xTl g [(0, .ref 0)]) := by
    have : xTl g [(0, Value.ref 0)] = [(0, Value.ref b)] := by
      show [(0, Value.ref (xad g 0))] = _
      unfold xad
      rw [if_pos (by decide), hg0]
    rw [this]
    exact hl
  have X : xCx p s m #[Value.ref b] meth c g (xRoL L xs F) RL "law" cL_law 4 := ⟨hx, hb, hml, hown, hts2, fun h => absurd h (by decide), hK⟩
  refine xrun_gen (R := room_1) X (d := 690) (Nat.le_of_ble_eq_true rfl) (Nat.le_of_ble_eq_true rfl) (K1 := h'.1 - 16) (K2 := h'.2.1) (show h'.1 - 16 ≤ 600000 by omega) (show h'.2.1 ≤ 7302250 by omega) hE hck xP_cw (r := (some (.int 1), h')) ?_ n 0 [(0, .ref 0)] [] (16, 0, fun _ => none) hrun s.heap [] 0 0 _ hW0 hlE va_S.rf ?_ ?_
  · intro pc i st H locs cells slots Ls hd hlen hv hW hS e1 e2
    have hst : i.1 = .ireturn ∧ st = [.int 1] := by
      obtain ⟨op, len, A, B, k, ps⟩ := i
      unfold xRetV at hv
      dsimp only at hv ⊢
      cases op with
      | ireturn =>
        dsimp only at hv
        split at hv
        · split at hv
          · cases hv; exact ⟨rfl, rfl⟩
          · cases hv
        · cases hv
      | lreturn => dsimp only at hv; split at hv <;> cases hv
      | areturn => dsimp only at hv; split at hv <;> cases hv
      | return_ => dsimp only at hv; split at hv <;> cases hv
      | _ => cases hv
    obtain ⟨hi1, hst⟩ := hst
    subst hst
    rw [hi1] at hd hlen
    have hlen1 : i.2.1 = 1 := xbeq hlen
    rw [hlen1] at hd
    refine va_forget (fun q hq => ?_) ?_
    · have := hS.2.2 q hq
      rw [← hg1]
      exact this
    · refine W.widen (k := 600000) (n := 7302250) (by omega) (by omega) ?_
      exact lw_ret hx hb hr hlocks hd
  · have hle : 16 ≤ h'.1 := (xRun_mono (fun j as h r q => (hE j as h r q).1) _ _ _ _ _ _ hrun).1
    show 0 + h'.1 = h'.1 - 16 + 16
    omega
  · show 0 + h'.2.1 = h'.2.1 + 0
    omega

