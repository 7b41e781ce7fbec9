/-! ===== methods that touch nothing: their answers, by program ===== -/
def fX5_opensOne (v0 : Int32) : Int32 := (if v0 = (Int32.ofInt 33) then (Int32.ofInt 1) else (if v0 = (Int32.ofInt 30) then (Int32.ofInt 1) else (if v0 = (Int32.ofInt 9) then (Int32.ofInt 1) else (if v0 = (Int32.ofInt 10) then (Int32.ofInt 1) else (if ¬ v0 = (Int32.ofInt 14) then (Int32.ofInt 0) else (Int32.ofInt 1))))))
theorem zX5_opensOne {v0 : Int32} : fX5_opensOne v0 = 0 ∨ fX5_opensOne v0 = 1 := by
  unfold fX5_opensOne
  repeat' (first | exact Or.inl rfl | exact Or.inr rfl | split)
theorem tX5_opensOne {ro : xRo} {K : yK} {S : yS} {d : Nat} {v0 : Int32} : yEv ro xNo K (d + 1) jX5_opensOne [.int v0] S (some (.int (fX5_opensOne v0))) S := by
  refine ry_meth pX5_opensOne rfl (fun z => ?_)
  unfold fX5_opensOne
  iterate 3 (refine ry_step rfl rfl ?_)
  refine ry_ite (fun hc => ?_) (fun hc => ?_)
  · iterate 2 (refine ry_step rfl rfl ?_)
    exact ry_ret rfl (xRetZ (by first | exact Or.inl rfl | exact Or.inr rfl))
  · iterate 3 (refine ry_step rfl rfl ?_)
    refine ry_ite (fun hc => ?_) (fun hc => ?_)
    · iterate 2 (refine ry_step rfl rfl ?_)
      exact ry_ret rfl (xRetZ (by first | exact Or.inl rfl | exact Or.inr rfl))
    · iterate 3 (refine ry_step rfl rfl ?_)
      refine ry_ite (fun hc => ?_) (fun hc => ?_)
      · iterate 2 (refine ry_step rfl rfl ?_)
        exact ry_ret rfl (xRetZ (by first | exact Or.inl rfl | exact Or.inr rfl))
      · iterate 3 (refine ry_step rfl rfl ?_)
        refine ry_ite (fun hc => ?_) (fun hc => ?_)
        · iterate 2 (refine ry_step rfl rfl ?_)
          exact ry_ret rfl (xRetZ (by first | exact Or.inl rfl | exact Or.inr rfl))
        · iterate 3 (refine ry_step rfl rfl ?_)
          refine ry_ite (fun hc => ?_) (fun hc => ?_)
          · iterate 1 (refine ry_step rfl rfl ?_)
            exact ry_ret rfl (xRetZ (by first | exact Or.inl rfl | exact Or.inr rfl))
          · iterate 2 (refine ry_step rfl rfl ?_)
            exact ry_ret rfl (xRetZ (by first | exact Or.inl rfl | exact Or.inr rfl))
def fX11_deeper (v0 : Int32) : Int32 := ((v0 * (Int32.ofInt 2)) / (Int32.ofInt 3))
theorem tX11_deeper {ro : xRo} {K : yK} {S : yS} {d : Nat} {v0 : Int32} : yEv ro xNo K (d + 1) jX11_deeper [.int v0] S (some (.int (fX11_deeper v0))) S := by
  refine ry_meth pX11_deeper rfl (fun z => ?_)
  unfold fX11_deeper
  iterate 5 (refine ry_step rfl rfl ?_)
  exact ry_ret rfl rfl
def fX11_within (v0 : Int32) (v1 : Int32) (v2 : Int32) : Int32 := (if v0 < v1 then (Int32.ofInt 0) else (if v2 < v0 then (Int32.ofInt 0) else (Int32.ofInt 1)))
theorem zX11_within {v0 : Int32} {v1 : Int32} {v2 : Int32} : fX11_within v0 v1 v2 = 0 ∨ fX11_within v0 v1 v2 = 1 := by
  unfold fX11_within
  repeat' (first | exact Or.inl rfl | exact Or.inr rfl | split)
theorem tX11_within {ro : xRo} {K : yK} {S : yS} {d : Nat} {v0 : Int32} {v1 : Int32} {v2 : Int32} : yEv ro xNo K (d + 1) jX11_within [.int v0, .int v1, .int v2] S (some (.int (fX11_within v0 v1 v2))) S := by
  refine ry_meth pX11_within rfl (fun z => ?_)
  unfold fX11_within
  iterate 3 (refine ry_step rfl rfl ?_)
  refine ry_ite (fun hc => ?_) (fun hc => ?_)
  · iterate 1 (refine ry_step rfl rfl ?_)
    exact ry_ret rfl (xRetZ (by first | exact Or.inl rfl | exact Or.inr rfl))
  · iterate 3 (refine ry_step rfl rfl ?_)
    refine ry_ite (fun hc => ?_) (fun hc => ?_)
    · iterate 1 (refine ry_step rfl rfl ?_)
      exact ry_ret rfl (xRetZ (by first | exact Or.inl rfl | exact Or.inr rfl))
    · iterate 2 (refine ry_step rfl rfl ?_)
      exact ry_ret rfl (xRetZ (by first | exact Or.inl rfl | exact Or.inr rfl))
def fX11_held (v0 : Int32) (v1 : Int32) (v2 : Int32) : Int32 := (if v1 ≤ v0 then (if v0 ≤ v2 then v0 else v2) else v1)
theorem tX11_held {ro : xRo} {K : yK} {S : yS} {d : Nat} {v0 : Int32} {v1 : Int32} {v2 : Int32} : yEv ro xNo K (d + 1) jX11_held [.int v0, .int v1, .int v2] S (some (.int (fX11_held v0 v1 v2))) S := by
  refine ry_meth pX11_held rfl (fun z => ?_)
  unfold fX11_held
  iterate 3 (refine ry_step rfl rfl ?_)
  refine ry_ite (fun hc => ?_) (fun hc => ?_)
  · iterate 3 (refine ry_step rfl rfl ?_)
    refine ry_ite (fun hc => ?_) (fun hc => ?_)
    · iterate 1 (refine ry_step rfl rfl ?_)
      exact ry_ret rfl rfl
    · iterate 2 (refine ry_step rfl rfl ?_)
      exact ry_ret rfl rfl
  · iterate 1 (refine ry_step rfl rfl ?_)
    exact ry_ret rfl rfl
def fX11_isCount (v0 : Int32) : Int32 := (if v0 < 0 then (Int32.ofInt 0) else (if (Int32.ofInt 9) ≤ v0 then (Int32.ofInt 0) else (Int32.ofInt 1)))
theorem zX11_isCount {v0 : Int32} : fX11_isCount v0 = 0 ∨ fX11_isCount v0 = 1 := by
  unfold fX11_isCount
  repeat' (first | exact Or.inl rfl | exact Or.inr rfl | split)
theorem tX11_isCount {ro : xRo} {K : yK} {S : yS} {d : Nat} {v0 : Int32} : yEv ro xNo K (d + 1) jX11_isCount [.int v0] S (some (.int (fX11_isCount v0))) S := by
  refine ry_meth pX11_isCount rfl (fun z => ?_)
  unfold fX11_isCount
  iterate 2 (refine ry_step rfl rfl ?_)
  refine ry_ite (fun hc => ?_) (fun hc => ?_)
  · iterate 1 (refine ry_step rfl rfl ?_)
    exact ry_ret rfl (xRetZ (by first | exact Or.inl rfl | exact Or.inr rfl))
  · iterate 3 (refine ry_step rfl rfl ?_)
    refine ry_ite (fun hc => ?_) (fun hc => ?_)
    · iterate 1 (refine ry_step rfl rfl ?_)
      exact ry_ret rfl (xRetZ (by first | exact Or.inl rfl | exact Or.inr rfl))
    · iterate 2 (refine ry_step rfl rfl ?_)
      exact ry_ret rfl (xRetZ (by first | exact Or.inl rfl | exact Or.inr rfl))
def fX11_isParish (v0 : Int32) : Int32 := (fX11_within v0 (Int32.ofInt 0) (Int32.ofInt 4))
theorem zX11_isParish {v0 : Int32} : fX11_isParish v0 = 0 ∨ fX11_isParish v0 = 1 := by
  unfold fX11_isParish
  repeat' (first | exact Or.inl rfl | exact Or.inr rfl | exact zX11_within | split)
theorem tX11_isParish {ro : xRo} {K : yK} {S : yS} {d : Nat} {v0 : Int32} : yEv ro xNo K (d + 2) jX11_isParish [.int v0] S (some (.int (fX11_isParish v0))) S := by
  refine ry_meth pX11_isParish rfl (fun z => ?_)
  unfold fX11_isParish
  iterate 3 (refine ry_step rfl rfl ?_)
  refine ry_call rfl rfl rfl rfl rfl tX11_within ?_
  exact ry_ret rfl (xRetZ zX11_within)
def fX11_isCause (v0 : Int32) : Int32 := (fX11_within v0 (Int32.ofInt 0) (Int32.ofInt 3))
theorem zX11_isCause {v0 : Int32} : fX11_isCause v0 = 0 ∨ fX11_isCause v0 = 1 := by
  unfold fX11_isCause
  repeat' (first | exact Or.inl rfl | exact Or.inr rfl | exact zX11_within | split)
theorem tX11_isCause {ro : xRo} {K : yK} {S : yS} {d : Nat} {v0 : Int32} : yEv ro xNo K (d + 2) jX11_isCause [.int v0] S (some (.int (fX11_isCause v0))) S := by
  refine ry_meth pX11_isCause rfl (fun z => ?_)
  unfold fX11_isCause
  iterate 3 (refine ry_step rfl rfl ?_)
  refine ry_call rfl rfl rfl rfl rfl tX11_within ?_
  exact ry_ret rfl (xRetZ zX11_within)
def fX11_isIn (v0 : Int32) (v1 : Int32) : Int32 := (if ¬ ((v0 >>> (v1 &&& 31)) &&& (Int32.ofInt 1)) = (Int32.ofInt 1) then (Int32.ofInt 0) else (Int32.ofInt 1))
theorem zX11_isIn {v0 : Int32} {v1 : Int32} : fX11_isIn v0 v1 = 0 ∨ fX11_isIn v0 v1 = 1 := by
  unfold fX11_isIn
  repeat' (first | exact Or.inl rfl | exact Or.inr rfl | split)
theorem tX11_isIn {ro : xRo} {K : yK} {S : yS} {d : Nat} {v0 : Int32} {v1 : Int32} : yEv ro xNo K (d + 1) jX11_isIn [.int v0, .int v1] S (some (.int (fX11_isIn v0 v1))) S := by
  refine ry_meth pX11_isIn rfl (fun z => ?_)
  unfold fX11_isIn
  iterate 7 (refine ry_step rfl rfl ?_)
  refine ry_ite (fun hc => ?_) (fun hc => ?_)
  · iterate 1 (refine ry_step rfl rfl ?_)
    exact ry_ret rfl (xRetZ (by first | exact Or.inl rfl | exact Or.inr rfl))
  · iterate 2 (refine ry_step rfl rfl ?_)
    exact ry_ret rfl (xRetZ (by first | exact Or.inl rfl | exact Or.inr rfl))
def fX12_isIn (v0 : Int32) (v1 : Int32) (v2 : Int32) : Int32 := (if v0 < v1 then (Int32.ofInt 0) else (if v2 < v0 then (Int32.ofInt 0) else (Int32.ofInt 1)))
theorem zX12_isIn {v0 : Int32} {v1 : Int32} {v2 : Int32} : fX12_isIn v0 v1 v2 = 0 ∨ fX12_isIn v0 v1 v2 = 1 := by
  unfold fX12_isIn
  repeat' (first | exact Or.inl rfl | exact Or.inr rfl | split)
theorem tX12_isIn {ro : xRo} {K : yK} {S : yS} {d : Nat} {v0 : Int32} {v1 : Int32} {v2 : Int32} : yEv ro xNo K (d + 1) jX12_isIn [.int v0, .int v1, .int v2] S (some (.int (fX12_isIn v0 v1 v2))) S := by
  refine ry_meth pX12_isIn rfl (fun z => ?_)
  unfold fX12_isIn
  iterate 3 (refine ry_step rfl rfl ?_)
  refine ry_ite (fun hc => ?_) (fun hc => ?_)
  · iterate 1 (refine ry_step rfl rfl ?_)
    exact ry_ret rfl (xRetZ (by first | exact Or.inl rfl | exact Or.inr rfl))
  · iterate 3 (refine ry_step rfl rfl ?_)
    refine ry_ite (fun hc => ?_) (fun hc => ?_)
    · iterate 1 (refine ry_step rfl rfl ?_)
      exact ry_ret rfl (xRetZ (by first | exact Or.inl rfl | exact Or.inr rfl))
    · iterate 2 (refine ry_step rfl rfl ?_)
      exact ry_ret rfl (xRetZ (by first | exact Or.inl rfl | exact Or.inr rfl))
def fX12_held (v0 : Int64) (v1 : Int32) (v2 : Int32) : Int32 := (if 0 ≤ (lg_cmp v0 (Int32.toInt64 v1)) then (if (lg_cmp v0 (Int32.toInt64 v2)) ≤ 0 then (Int64.toInt32 v0) else v2) else v1)
theorem tX12_held {ro : xRo} {K : yK} {S : yS} {d : Nat} {v0 : Int64} {v1 : Int32} {v2 : Int32} : yEv ro xNo K (d + 1) jX12_held [.long v0, .int v1, .int v2] S (some (.int (fX12_held v0 v1 v2))) S := by
  refine ry_meth pX12_held rfl (fun z => ?_)
  unfold fX12_held
  iterate 5 (refine ry_step rfl rfl ?_)
  refine ry_ite (fun hc => ?_) (fun hc => ?_)
  · iterate 5 (refine ry_step rfl rfl ?_)
    refine ry_ite (fun hc => ?_) (fun hc => ?_)
    · iterate 2 (refine ry_step rfl rfl ?_)
      exact ry_ret rfl rfl
    · iterate 2 (refine ry_step rfl rfl ?_)
      exact ry_ret rfl rfl
  · iterate 2 (refine ry_step rfl rfl ?_)
    exact ry_ret rfl rfl
def fX12_has (v0 : Int32) (v1 : Int32) : Int32 := (if ¬ ((v0 >>> (v1 &&& 31)) &&& (Int32.ofInt 1)) = (Int32.ofInt 1) then (Int32.ofInt 0) else (Int32.ofInt 1))
theorem zX12_has {v0 : Int32} {v1 : Int32} : fX12_has v0 v1 = 0 ∨ fX12_has v0 v1 = 1 := by
  unfold fX12_has
  repeat' (first | exact Or.inl rfl | exact Or.inr rfl | split)
theorem tX12_has {ro : xRo} {K : yK} {S : yS} {d : Nat} {v0 : Int32} {v1 : Int32} : yEv ro xNo K (d + 1) jX12_has [.int v0, .int v1] S (some (.int (fX12_has v0 v1))) S := by
  refine ry_meth pX12_has rfl (fun z => ?_)
  unfold fX12_has
  iterate 7 (refine ry_step rfl rfl ?_)
  refine ry_ite (fun hc => ?_) (fun hc => ?_)
  · iterate 1 (refine ry_step rfl rfl ?_)
    exact ry_ret rfl (xRetZ (by first | exact Or.inl rfl | exact Or.inr rfl))
  · iterate 2 (refine ry_step rfl rfl ?_)
    exact ry_ret rfl (xRetZ (by first | exact Or.inl rfl | exact Or.inr rfl))
def fX12_isCount (v0 : Int32) : Int32 := (fX12_isIn v0 (Int32.ofInt 0) (Int32.ofInt 8))
theorem zX12_isCount {v0 : Int32} : fX12_isCount v0 = 0 ∨ fX12_isCount v0 = 1 := by
  unfold fX12_isCount
  repeat' (first | exact Or.inl rfl | exact Or.inr rfl | exact zX12_isIn | split)
theorem tX12_isCount {ro : xRo} {K : yK} {S : yS} {d : Nat} {v0 : Int32} : yEv ro xNo K (d + 2) jX12_isCount [.int v0] S (some (.int (fX12_isCount v0))) S := by
  refine ry_meth pX12_isCount rfl (fun z => ?_)
  unfold fX12_isCount
  iterate 3 (refine ry_step rfl rfl ?_)
  refine ry_call rfl rfl rfl rfl rfl tX12_isIn ?_
  exact ry_ret rfl (xRetZ zX12_isIn)
def fX12_isLetterByte (v0 : Int32) : Int32 := (if v0 < (Int32.ofInt 97) then (if v0 < (Int32.ofInt 65) then (Int32.ofInt 0) else (if (Int32.ofInt 90) < v0 then (Int32.ofInt 0) else (Int32.ofInt 1))) else (if v0 ≤ (Int32.ofInt 122) then (Int32.ofInt 1) else (if v0 < (Int32.ofInt 65) then (Int32.ofInt 0) else (if (Int32.ofInt 90) < v0 then (Int32.ofInt 0) else (Int32.ofInt 1)))))
theorem zX12_isLetterByte {v0 : Int32} : fX12_isLetterByte v0 = 0 ∨ fX12_isLetterByte v0 = 1 := by
  unfold fX12_isLetterByte
  repeat' (first | exact Or.inl rfl | exact Or.inr rfl | split)
theorem tX12_isLetterByte {ro : xRo} {K : yK} {S : yS} {d : Nat} {v0 : Int32} : yEv ro xNo K (d + 1) jX12_isLetterByte [.int v0] S (some (.int (fX12_isLetterByte v0))) S := by
  refine ry_meth pX12_isLetterByte rfl (fun z => ?_)
  unfold fX12_isLetterByte
  iterate 3 (refine ry_step rfl rfl ?_)
  refine ry_ite (fun hc => ?_) (fun hc => ?_)
  · iterate 3 (refine ry_step rfl rfl ?_)
    refine ry_ite (fun hc => ?_) (fun hc => ?_)
    · iterate 1 (refine ry_step rfl rfl ?_)
      exact ry_ret rfl (xRetZ (by first | exact Or.inl rfl | exact Or.inr rfl))
    · iterate 3 (refine ry_step rfl rfl ?_)
      refine ry_ite (fun hc => ?_) (fun hc => ?_)
      · iterate 1 (refine ry_step rfl rfl ?_)
        exact ry_ret rfl (xRetZ (by first | exact Or.inl rfl | exact Or.inr rfl))
      · iterate 2 (refine ry_step rfl rfl ?_)
        exact ry_ret rfl (xRetZ (by first | exact Or.inl rfl | exact Or.inr rfl))
  · iterate 3 (refine ry_step rfl rfl ?_)
    refine ry_ite (fun hc => ?_) (fun hc => ?_)
    · iterate 2 (refine ry_step rfl rfl ?_)
      exact ry_ret rfl (xRetZ (by first | exact Or.inl rfl | exact Or.inr rfl))
    · iterate 3 (refine ry_step rfl rfl ?_)
      refine ry_ite (fun hc => ?_) (fun hc => ?_)
      · iterate 1 (refine ry_step rfl rfl ?_)
        exact ry_ret rfl (xRetZ (by first | exact Or.inl rfl | exact Or.inr rfl))
      · iterate 3 (refine ry_step rfl rfl ?_)
        refine ry_ite (fun hc => ?_) (fun hc => ?_)
        · iterate 1 (refine ry_step rfl rfl ?_)
          exact ry_ret rfl (xRetZ (by first | exact Or.inl rfl | exact Or.inr rfl))
        · iterate 2 (refine ry_step rfl rfl ?_)
          exact ry_ret rfl (xRetZ (by first | exact Or.inl rfl | exact Or.inr rfl))
def fX12_isFigure (v0 : Int32) : Int32 := (if v0 < (Int32.ofInt 48) then (Int32.ofInt 0) else (if (Int32.ofInt 57) < v0 then (Int32.ofInt 0) else (Int32.ofInt 1)))
theorem zX12_isFigure {v0 : Int32} : fX12_isFigure v0 = 0 ∨ fX12_isFigure v0 = 1 := by
  unfold fX12_isFigure
  repeat' (first | exact Or.inl rfl | exact Or.inr rfl | split)
theorem tX12_isFigure {ro : xRo} {K : yK} {S : yS} {d : Nat} {v0 : Int32} : yEv ro xNo K (d + 1) jX12_isFigure [.int v0] S (some (.int (fX12_isFigure v0))) S := by
  refine ry_meth pX12_isFigure rfl (fun z => ?_)
  unfold fX12_isFigure
  iterate 3 (refine ry_step rfl rfl ?_)
  refine ry_ite (fun hc => ?_) (fun hc => ?_)
  · iterate 1 (refine ry_step rfl rfl ?_)
    exact ry_ret rfl (xRetZ (by first | exact Or.inl rfl | exact Or.inr rfl))
  · iterate 3 (refine ry_step rfl rfl ?_)
    refine ry_ite (fun hc => ?_) (fun hc => ?_)
    · iterate 1 (refine ry_step rfl rfl ?_)
      exact ry_ret rfl (xRetZ (by first | exact Or.inl rfl | exact Or.inr rfl))
    · iterate 2 (refine ry_step rfl rfl ?_)
      exact ry_ret rfl (xRetZ (by first | exact Or.inl rfl | exact Or.inr rfl))
def fX12_w2 (v0 : Int32) (v1 : Int32) : Int64 := (((Int32.toInt64 v0) <<< (Int32.toInt64 (Int32.ofInt 8) &&& 63)) ||| (Int32.toInt64 v1))
theorem tX12_w2 {ro : xRo} {K : yK} {S : yS} {d : Nat} {v0 : Int32} {v1 : Int32} : yEv ro xNo K (d + 1) jX12_w2 [.int v0, .int v1] S (some (.long (fX12_w2 v0 v1))) S := by
  refine ry_meth pX12_w2 rfl (fun z => ?_)
  unfold fX12_w2
  iterate 7 (refine ry_step rfl rfl ?_)
  exact ry_ret rfl rfl
def fX12_w3 (v0 : Int32) (v1 : Int32) (v2 : Int32) : Int64 := (((fX12_w2 v0 v1) <<< (Int32.toInt64 (Int32.ofInt 8) &&& 63)) ||| (Int32.toInt64 v2))
theorem tX12_w3 {ro : xRo} {K : yK} {S : yS} {d : Nat} {v0 : Int32} {v1 : Int32} {v2 : Int32} : yEv ro xNo K (d + 2) jX12_w3 [.int v0, .int v1, .int v2] S (some (.long (fX12_w3 v0 v1 v2))) S := by
  refine ry_meth pX12_w3 rfl (fun z => ?_)
  unfold fX12_w3
  iterate 2 (refine ry_step rfl rfl ?_)
  refine ry_call rfl rfl rfl rfl rfl tX12_w2 ?_
  iterate 5 (refine ry_step rfl rfl ?_)
  exact ry_ret rfl rfl
def fX12_w4 (v0 : Int32) (v1 : Int32) (v2 : Int32) (v3 : Int32) : Int64 := (((fX12_w3 v0 v1 v2) <<< (Int32.toInt64 (Int32.ofInt 8) &&& 63)) ||| (Int32.toInt64 v3))
theorem tX12_w4 {ro : xRo} {K : yK} {S : yS} {d : Nat} {v0 : Int32} {v1 : Int32} {v2 : Int32} {v3 : Int32} : yEv ro xNo K (d + 3) jX12_w4 [.int v0, .int v1, .int v2, .int v3] S (some (.long (fX12_w4 v0 v1 v2 v3))) S := by
  refine ry_meth pX12_w4 rfl (fun z => ?_)
  unfold fX12_w4
  iterate 3 (refine ry_step rfl rfl ?_)
  refine ry_call rfl rfl rfl rfl rfl tX12_w3 ?_
  iterate 5 (refine ry_step rfl rfl ?_)
  exact ry_ret rfl rfl
def fX12_w5 (v0 : Int32) (v1 : Int32) (v2 : Int32) (v3 : Int32) (v4 : Int32) : Int64 := (((fX12_w4 v0 v1 v2 v3) <<< (Int32.toInt64 (Int32.ofInt 8) &&& 63)) ||| (Int32.toInt64 v4))
theorem tX12_w5 {ro : xRo} {K : yK} {S : yS} {d : Nat} {v0 : Int32} {v1 : Int32} {v2 : Int32} {v3 : Int32} {v4 : Int32} : yEv ro xNo K (d + 4) jX12_w5 [.int v0, .int v1, .int v2, .int v3, .int v4] S (some (.long (fX12_w5 v0 v1 v2 v3 v4))) S := by
  refine ry_meth pX12_w5 rfl (fun z => ?_)
  unfold fX12_w5
  iterate 4 (refine ry_step rfl rfl ?_)
  refine ry_call rfl rfl rfl rfl rfl tX12_w4 ?_
  iterate 5 (refine ry_step rfl rfl ?_)
  exact ry_ret rfl rfl
def fX12_w6 (v0 : Int32) (v1 : Int32) (v2 : Int32) (v3 : Int32) (v4 : Int32) (v5 : Int32) : Int64 := (((fX12_w5 v0 v1 v2 v3 v4) <<< (Int32.toInt64 (Int32.ofInt 8) &&& 63)) ||| (Int32.toInt64 v5))
theorem tX12_w6 {ro : xRo} {K : yK} {S : yS} {d : Nat} {v0 : Int32} {v1 : Int32} {v2 : Int32} {v3 : Int32} {v4 : Int32} {v5 : Int32} : yEv ro xNo K (d + 5) jX12_w6 [.int v0, .int v1, .int v2, .int v3, .int v4, .int v5] S (some (.long (fX12_w6 v0 v1 v2 v3 v4 v5))) S := by
  refine ry_meth pX12_w6 rfl (fun z => ?_)
  unfold fX12_w6
  iterate 5 (refine ry_step rfl rfl ?_)
  refine ry_call rfl rfl rfl rfl rfl tX12_w5 ?_
  iterate 5 (refine ry_step rfl rfl ?_)
  exact ry_ret rfl rfl
def fX12_rank (v0 : Int32) : Int32 := (if v0 < (Int32.ofInt 40) then (if ¬ v0 = (Int32.ofInt 22) then (if ¬ v0 = (Int32.ofInt 21) then (if ¬ v0 = (Int32.ofInt 20) then (if v0 < (Int32.ofInt 10) then (if v0 < (Int32.ofInt 8) then (if v0 < (Int32.ofInt 6) then (Int32.ofInt 7) else (Int32.ofInt 5)) else (Int32.ofInt 6)) else (Int32.ofInt 4)) else (Int32.ofInt 3)) else (Int32.ofInt 2)) else (Int32.ofInt 1)) else (Int32.ofInt 0))
theorem tX12_rank {ro : xRo} {K : yK} {S : yS} {d : Nat} {v0 : Int32} : yEv ro xNo K (d + 1) jX12_rank [.int v0] S (some (.int (fX12_rank v0))) S := by
  refine ry_meth pX12_rank rfl (fun z => ?_)
  unfold fX12_rank
  iterate 3 (refine ry_step rfl rfl ?_)
  refine ry_ite (fun hc => ?_) (fun hc => ?_)
  · iterate 3 (refine ry_step rfl rfl ?_)
    refine ry_ite (fun hc => ?_) (fun hc => ?_)
    · iterate 3 (refine ry_step rfl rfl ?_)
      refine ry_ite (fun hc => ?_) (fun hc => ?_)
      · iterate 3 (refine ry_step rfl rfl ?_)
        refine ry_ite (fun hc => ?_) (fun hc => ?_)
        · iterate 3 (refine ry_step rfl rfl ?_)
          refine ry_ite (fun hc => ?_) (fun hc => ?_)
          · iterate 3 (refine ry_step rfl rfl ?_)
            refine ry_ite (fun hc => ?_) (fun hc => ?_)
            · iterate 3 (refine ry_step rfl rfl ?_)
              refine ry_ite (fun hc => ?_) (fun hc => ?_)
              · iterate 1 (refine ry_step rfl rfl ?_)
                exact ry_ret rfl rfl
              · iterate 2 (refine ry_step rfl rfl ?_)
                exact ry_ret rfl rfl
            · iterate 2 (refine ry_step rfl rfl ?_)
              exact ry_ret rfl rfl
          · iterate 2 (refine ry_step rfl rfl ?_)
            exact ry_ret rfl rfl
        · iterate 2 (refine ry_step rfl rfl ?_)
          exact ry_ret rfl rfl
      · iterate 2 (refine ry_step rfl rfl ?_)
        exact ry_ret rfl rfl
    · iterate 2 (refine ry_step rfl rfl ?_)
      exact ry_ret rfl rfl
  · iterate 2 (refine ry_step rfl rfl ?_)
    exact ry_ret rfl rfl
def fX12_clip (v0 : Int64) : Int64 := (if (lg_cmp v0 (Int64.ofInt 1000000)) ≤ 0 then (if 0 ≤ (lg_cmp v0 (Int64.ofInt (-1000000))) then v0 else (Int64.ofInt (-1000000))) else (Int64.ofInt 1000000))
theorem tX12_clip {ro : xRo} {K : yK} {S : yS} {d : Nat} {v0 : Int64} : yEv ro xNo K (d + 1) jX12_clip [.long v0] S (some (.long (fX12_clip v0))) S := by
  refine ry_meth pX12_clip rfl (fun z => ?_)
  unfold fX12_clip
  iterate 4 (refine ry_step rfl rfl ?_)
  refine ry_itel (fun hc => ?_) (fun hc => ?_)
  · iterate 4 (refine ry_step rfl rfl ?_)
    refine ry_itel (fun hc => ?_) (fun hc => ?_)
    · iterate 1 (refine ry_step rfl rfl ?_)
      exact ry_ret rfl rfl
    · iterate 2 (refine ry_step rfl rfl ?_)
      exact ry_ret rfl rfl
  · iterate 2 (refine ry_step rfl rfl ?_)
    exact ry_ret rfl rfl
def fX12_isAsked (v0 : Int32) (v1 : Int64) (v2 : Int64) : Int32 := (if ¬ v0 = (Int32.ofInt 10) then (if ¬ v0 = (Int32.ofInt 11) then (if ¬ v0 = (Int32.ofInt 12) then (if ¬ v0 = (Int32.ofInt 13) then (if ¬ v0 = (Int32.ofInt 14) then (if (lg_cmp v1 v2) = 0 then (Int32.ofInt 0) else (Int32.ofInt 1)) else (if ¬ (lg_cmp v1 v2) = 0 then (Int32.ofInt 0) else (Int32.ofInt 1))) else (if (lg_cmp v1 v2) < 0 then (Int32.ofInt 0) else (Int32.ofInt 1))) else (if (lg_cmp v1 v2) ≤ 0 then (Int32.ofInt 0) else (Int32.ofInt 1))) else (if 0 < (lg_cmp v1 v2) then (Int32.ofInt 0) else (Int32.ofInt 1))) else (if 0 ≤ (lg_cmp v1 v2) then (Int32.ofInt 0) else (Int32.ofInt 1)))
theorem zX12_isAsked {v0 : Int32} {v1 : Int64} {v2 : Int64} : fX12_isAsked v0 v1 v2 = 0 ∨ fX12_isAsked v0 v1 v2 = 1 := by
  unfold fX12_isAsked
  repeat' (first | exact Or.inl rfl | exact Or.inr rfl | split)
theorem tX12_isAsked {ro : xRo} {K : yK} {S : yS} {d : Nat} {v0 : Int32} {v1 : Int64} {v2 : Int64} : yEv ro xNo K (d + 1) jX12_isAsked [.int v0, .long v1, .long v2] S (some (.int (fX12_isAsked v0 v1 v2))) S := by
  refine ry_meth pX12_isAsked rfl (fun z => ?_)
  unfold fX12_isAsked
  iterate 3 (refine ry_step rfl rfl ?_)
  refine ry_ite (fun hc => ?_) (fun hc => ?_)
  · iterate 3 (refine ry_step rfl rfl ?_)
    refine ry_ite (fun hc => ?_) (fun hc => ?_)
    · iterate 3 (refine ry_step rfl rfl ?_)
      refine ry_ite (fun hc => ?_) (fun hc => ?_)
      · iterate 3 (refine ry_step rfl rfl ?_)
        refine ry_ite (fun hc => ?_) (fun hc => ?_)
        · iterate 3 (refine ry_step rfl rfl ?_)
          refine ry_ite (fun hc => ?_) (fun hc => ?_)
          · iterate 4 (refine ry_step rfl rfl ?_)
            refine ry_ite (fun hc => ?_) (fun hc => ?_)
            · iterate 1 (refine ry_step rfl rfl ?_)
              exact ry_ret rfl (xRetZ (by first | exact Or.inl rfl | exact Or.inr rfl))
            · iterate 2 (refine ry_step rfl rfl ?_)
              exact ry_ret rfl (xRetZ (by first | exact Or.inl rfl | exact Or.inr rfl))
          · iterate 4 (refine ry_step rfl rfl ?_)
            refine ry_ite (fun hc => ?_) (fun hc => ?_)
            · iterate 2 (refine ry_step rfl rfl ?_)
              exact ry_ret rfl (xRetZ (by first | exact Or.inl rfl | exact Or.inr rfl))
            · iterate 2 (refine ry_step rfl rfl ?_)
              exact ry_ret rfl (xRetZ (by first | exact Or.inl rfl | exact Or.inr rfl))
        · iterate 4 (refine ry_step rfl rfl ?_)
          refine ry_ite (fun hc => ?_) (fun hc => ?_)
          · iterate 2 (refine ry_step rfl rfl ?_)
            exact ry_ret rfl (xRetZ (by first | exact Or.inl rfl | exact Or.inr rfl))
          · iterate 2 (refine ry_step rfl rfl ?_)
            exact ry_ret rfl (xRetZ (by first | exact Or.inl rfl | exact Or.inr rfl))
      · iterate 4 (refine ry_step rfl rfl ?_)
        refine ry_ite (fun hc => ?_) (fun hc => ?_)
        · iterate 2 (refine ry_step rfl rfl ?_)
          exact ry_ret rfl (xRetZ (by first | exact Or.inl rfl | exact Or.inr rfl))
        · iterate 2 (refine ry_step rfl rfl ?_)
          exact ry_ret rfl (xRetZ (by first | exact Or.inl rfl | exact Or.inr rfl))
    · iterate 4 (refine ry_step rfl rfl ?_)
      refine ry_ite (fun hc => ?_) (fun hc => ?_)
      · iterate 2 (refine ry_step rfl rfl ?_)
        exact ry_ret rfl (xRetZ (by first | exact Or.inl rfl | exact Or.inr rfl))
      · iterate 2 (refine ry_step rfl rfl ?_)
        exact ry_ret rfl (xRetZ (by first | exact Or.inl rfl | exact Or.inr rfl))
  · iterate 4 (refine ry_step rfl rfl ?_)
    refine ry_ite (fun hc => ?_) (fun hc => ?_)
    · iterate 2 (refine ry_step rfl rfl ?_)
      exact ry_ret rfl (xRetZ (by first | exact Or.inl rfl | exact Or.inr rfl))
    · iterate 2 (refine ry_step rfl rfl ?_)
      exact ry_ret rfl (xRetZ (by first | exact Or.inl rfl | exact Or.inr rfl))
def fX12_joined (v0 : Int32) (v1 : Int32) (v2 : Int32) : Int32 := (if ¬ v0 = (Int32.ofInt 21) then (if ¬ v1 = 0 then (Int32.ofInt 1) else (if v2 = 0 then (Int32.ofInt 0) else (Int32.ofInt 1))) else (if v1 = 0 then (Int32.ofInt 0) else (if v2 = 0 then (Int32.ofInt 0) else (Int32.ofInt 1))))
theorem zX12_joined {v0 : Int32} {v1 : Int32} {v2 : Int32} : fX12_joined v0 v1 v2 = 0 ∨ fX12_joined v0 v1 v2 = 1 := by
  unfold fX12_joined
  repeat' (first | exact Or.inl rfl | exact Or.inr rfl | split)
theorem tX12_joined {ro : xRo} {K : yK} {S : yS} {d : Nat} {v0 : Int32} {v1 : Int32} {v2 : Int32} : yEv ro xNo K (d + 1) jX12_joined [.int v0, .int v1, .int v2] S (some (.int (fX12_joined v0 v1 v2))) S := by
  refine ry_meth pX12_joined rfl (fun z => ?_)
  unfold fX12_joined
  iterate 3 (refine ry_step rfl rfl ?_)
  refine ry_ite (fun hc => ?_) (fun hc => ?_)
  · iterate 2 (refine ry_step rfl rfl ?_)
    refine ry_ite (fun hc => ?_) (fun hc => ?_)
    · iterate 2 (refine ry_step rfl rfl ?_)
      exact ry_ret rfl (xRetZ (by first | exact Or.inl rfl | exact Or.inr rfl))
    · iterate 2 (refine ry_step rfl rfl ?_)
      refine ry_ite (fun hc => ?_) (fun hc => ?_)
      · iterate 1 (refine ry_step rfl rfl ?_)
        exact ry_ret rfl (xRetZ (by first | exact Or.inl rfl | exact Or.inr rfl))
      · iterate 2 (refine ry_step rfl rfl ?_)
        exact ry_ret rfl (xRetZ (by first | exact Or.inl rfl | exact Or.inr rfl))
  · iterate 2 (refine ry_step rfl rfl ?_)
    refine ry_ite (fun hc => ?_) (fun hc => ?_)
    · iterate 2 (refine ry_step rfl rfl ?_)
      exact ry_ret rfl (xRetZ (by first | exact Or.inl rfl | exact Or.inr rfl))
    · iterate 2 (refine ry_step rfl rfl ?_)
      refine ry_ite (fun hc => ?_) (fun hc => ?_)
      · iterate 2 (refine ry_step rfl rfl ?_)
        exact ry_ret rfl (xRetZ (by first | exact Or.inl rfl | exact Or.inr rfl))
      · iterate 2 (refine ry_step rfl rfl ?_)
        exact ry_ret rfl (xRetZ (by first | exact Or.inl rfl | exact Or.inr rfl))
def fX12_areOdds (v0 : Int32) : Int32 := (fX12_isIn v0 (Int32.ofInt 0) (Int32.ofInt 10))
theorem zX12_areOdds {v0 : Int32} : fX12_areOdds v0 = 0 ∨ fX12_areOdds v0 = 1 := by
  unfold fX12_areOdds
  repeat' (first | exact Or.inl rfl | exact Or.inr rfl | exact zX12_isIn | split)
theorem tX12_areOdds {ro : xRo} {K : yK} {S : yS} {d : Nat} {v0 : Int32} : yEv ro xNo K (d + 2) jX12_areOdds [.int v0] S (some (.int (fX12_areOdds v0))) S := by
  refine ry_meth pX12_areOdds rfl (fun z => ?_)
  unfold fX12_areOdds
  iterate 3 (refine ry_step rfl rfl ?_)
  refine ry_call rfl rfl rfl rfl rfl tX12_isIn ?_
  exact ry_ret rfl (xRetZ zX12_isIn)
def fX12_isCause (v0 : Int32) : Int32 := (fX12_isIn v0 (Int32.ofInt 0) (Int32.ofInt 3))
theorem zX12_isCause {v0 : Int32} : fX12_isCause v0 = 0 ∨ fX12_isCause v0 = 1 := by
  unfold fX12_isCause
  repeat' (first | exact Or.inl rfl | exact Or.inr rfl | exact zX12_isIn | split)
theorem tX12_isCause {ro : xRo} {K : yK} {S : yS} {d : Nat} {v0 : Int32} : yEv ro xNo K (d + 2) jX12_isCause [.int v0] S (some (.int (fX12_isCause v0))) S := by
  refine ry_meth pX12_isCause rfl (fun z => ?_)
  unfold fX12_isCause
  iterate 3 (refine ry_step rfl rfl ?_)
  refine ry_call rfl rfl rfl rfl rfl tX12_isIn ?_
  exact ry_ret rfl (xRetZ zX12_isIn)
def fX12_areTimes (v0 : Int32) (v1 : Int32) : Int32 := (if (fX12_isIn v0 (Int32.ofInt 0) (Int32.ofInt 99)) = 0 then (Int32.ofInt 0) else (if (fX12_isIn v1 (Int32.ofInt 0) (Int32.ofInt 50)) = 0 then (Int32.ofInt 0) else (Int32.ofInt 1)))
theorem zX12_areTimes {v0 : Int32} {v1 : Int32} : fX12_areTimes v0 v1 = 0 ∨ fX12_areTimes v0 v1 = 1 := by
  unfold fX12_areTimes
  repeat' (first | exact Or.inl rfl | exact Or.inr rfl | exact zX12_isIn | split)
theorem tX12_areTimes {ro : xRo} {K : yK} {S : yS} {d : Nat} {v0 : Int32} {v1 : Int32} : yEv ro xNo K (d + 2) jX12_areTimes [.int v0, .int v1] S (some (.int (fX12_areTimes v0 v1))) S := by
  refine ry_meth pX12_areTimes rfl (fun z => ?_)
  unfold fX12_areTimes
  iterate 3 (refine ry_step rfl rfl ?_)
  refine ry_call rfl rfl rfl rfl rfl tX12_isIn ?_
  iterate 1 (refine ry_step rfl rfl ?_)
  refine ry_ite (fun hc => ?_) (fun hc => ?_)
  · iterate 1 (refine ry_step rfl rfl ?_)
    exact ry_ret rfl (xRetZ (by first | exact Or.inl rfl | exact Or.inr rfl))
  · iterate 3 (refine ry_step rfl rfl ?_)
    refine ry_call rfl rfl rfl rfl rfl tX12_isIn ?_
    iterate 1 (refine ry_step rfl rfl ?_)
    refine ry_ite (fun hc => ?_) (fun hc => ?_)
    · iterate 1 (refine ry_step rfl rfl ?_)
      exact ry_ret rfl (xRetZ (by first | exact Or.inl rfl | exact Or.inr rfl))
    · iterate 2 (refine ry_step rfl rfl ?_)
      exact ry_ret rfl (xRetZ (by first | exact Or.inl rfl | exact Or.inr rfl))
def fX12_isGuess (v0 : Int32) : Int32 := (fX12_isIn v0 (Int32.ofInt 0) (Int32.ofInt 999))
theorem zX12_isGuess {v0 : Int32} : fX12_isGuess v0 = 0 ∨ fX12_isGuess v0 = 1 := by
  unfold fX12_isGuess
  repeat' (first | exact Or.inl rfl | exact Or.inr rfl | exact zX12_isIn | split)
theorem tX12_isGuess {ro : xRo} {K : yK} {S : yS} {d : Nat} {v0 : Int32} : yEv ro xNo K (d + 2) jX12_isGuess [.int v0] S (some (.int (fX12_isGuess v0))) S := by
  refine ry_meth pX12_isGuess rfl (fun z => ?_)
  unfold fX12_isGuess
  iterate 3 (refine ry_step rfl rfl ?_)
  refine ry_call rfl rfl rfl rfl rfl tX12_isIn ?_
  exact ry_ret rfl (xRetZ zX12_isIn)
def fX12_winAt (v0 : Int32) (v1 : Int32) : Int32 := (if v1 ≤ (Int32.ofInt 80) then (((Int32.ofInt 81) * v0) + v1) else (((Int32.ofInt 81) * v0) + (Int32.ofInt 80)))
theorem tX12_winAt {ro : xRo} {K : yK} {S : yS} {d : Nat} {v0 : Int32} {v1 : Int32} : yEv ro xNo K (d + 1) jX12_winAt [.int v0, .int v1] S (some (.int (fX12_winAt v0 v1))) S := by
  refine ry_meth pX12_winAt rfl (fun z => ?_)
  unfold fX12_winAt
  iterate 6 (refine ry_step rfl rfl ?_)
  refine ry_ite (fun hc => ?_) (fun hc => ?_)
  · iterate 2 (refine ry_step rfl rfl ?_)
    exact ry_ret rfl rfl
  · iterate 3 (refine ry_step rfl rfl ?_)
    exact ry_ret rfl rfl
def fJ6_bitCount_0f7a4 (v0 : Int32) : Int32 := ((((((((v0 - ((v0.toUInt32 >>> (Int32.toUInt32 (Int32.ofInt 1) &&& Int32.toUInt32 31)).toInt32 &&& (Int32.ofInt 1431655765))) &&& (Int32.ofInt 858993459)) + (((v0 - ((v0.toUInt32 >>> (Int32.toUInt32 (Int32.ofInt 1) &&& Int32.toUInt32 31)).toInt32 &&& (Int32.ofInt 1431655765))).toUInt32 >>> (Int32.toUInt32 (Int32.ofInt 2) &&& Int32.toUInt32 31)).toInt32 &&& (Int32.ofInt 858993459))) + ((((v0 - ((v0.toUInt32 >>> (Int32.toUInt32 (Int32.ofInt 1) &&& Int32.toUInt32 31)).toInt32 &&& (Int32.ofInt 1431655765))) &&& (Int32.ofInt 858993459)) + (((v0 - ((v0.toUInt32 >>> (Int32.toUInt32 (Int32.ofInt 1) &&& Int32.toUInt32 31)).toInt32 &&& (Int32.ofInt 1431655765))).toUInt32 >>> (Int32.toUInt32 (Int32.ofInt 2) &&& Int32.toUInt32 31)).toInt32 &&& (Int32.ofInt 858993459))).toUInt32 >>> (Int32.toUInt32 (Int32.ofInt 4) &&& Int32.toUInt32 31)).toInt32) &&& (Int32.ofInt 252645135)) + ((((((v0 - ((v0.toUInt32 >>> (Int32.toUInt32 (Int32.ofInt 1) &&& Int32.toUInt32 31)).toInt32 &&& (Int32.ofInt 1431655765))) &&& (Int32.ofInt 858993459)) + (((v0 - ((v0.toUInt32 >>> (Int32.toUInt32 (Int32.ofInt 1) &&& Int32.toUInt32 31)).toInt32 &&& (Int32.ofInt 1431655765))).toUInt32 >>> (Int32.toUInt32 (Int32.ofInt 2) &&& Int32.toUInt32 31)).toInt32 &&& (Int32.ofInt 858993459))) + ((((v0 - ((v0.toUInt32 >>> (Int32.toUInt32 (Int32.ofInt 1) &&& Int32.toUInt32 31)).toInt32 &&& (Int32.ofInt 1431655765))) &&& (Int32.ofInt 858993459)) + (((v0 - ((v0.toUInt32 >>> (Int32.toUInt32 (Int32.ofInt 1) &&& Int32.toUInt32 31)).toInt32 &&& (Int32.ofInt 1431655765))).toUInt32 >>> (Int32.toUInt32 (Int32.ofInt 2) &&& Int32.toUInt32 31)).toInt32 &&& (Int32.ofInt 858993459))).toUInt32 >>> (Int32.toUInt32 (Int32.ofInt 4) &&& Int32.toUInt32 31)).toInt32) &&& (Int32.ofInt 252645135)).toUInt32 >>> (Int32.toUInt32 (Int32.ofInt 8) &&& Int32.toUInt32 31)).toInt32) + (((((((v0 - ((v0.toUInt32 >>> (Int32.toUInt32 (Int32.ofInt 1) &&& Int32.toUInt32 31)).toInt32 &&& (Int32.ofInt 1431655765))) &&& (Int32.ofInt 858993459)) + (((v0 - ((v0.toUInt32 >>> (Int32.toUInt32 (Int32.ofInt 1) &&& Int32.toUInt32 31)).toInt32 &&& (Int32.ofInt 1431655765))).toUInt32 >>> (Int32.toUInt32 (Int32.ofInt 2) &&& Int32.toUInt32 31)).toInt32 &&& (Int32.ofInt 858993459))) + ((((v0 - ((v0.toUInt32 >>> (Int32.toUInt32 (Int32.ofInt 1) &&& Int32.toUInt32 31)).toInt32 &&& (Int32.ofInt 1431655765))) &&& (Int32.ofInt 858993459)) + (((v0 - ((v0.toUInt32 >>> (Int32.toUInt32 (Int32.ofInt 1) &&& Int32.toUInt32 31)).toInt32 &&& (Int32.ofInt 1431655765))).toUInt32 >>> (Int32.toUInt32 (Int32.ofInt 2) &&& Int32.toUInt32 31)).toInt32 &&& (Int32.ofInt 858993459))).toUInt32 >>> (Int32.toUInt32 (Int32.ofInt 4) &&& Int32.toUInt32 31)).toInt32) &&& (Int32.ofInt 252645135)) + ((((((v0 - ((v0.toUInt32 >>> (Int32.toUInt32 (Int32.ofInt 1) &&& Int32.toUInt32 31)).toInt32 &&& (Int32.ofInt 1431655765))) &&& (Int32.ofInt 858993459)) + (((v0 - ((v0.toUInt32 >>> (Int32.toUInt32 (Int32.ofInt 1) &&& Int32.toUInt32 31)).toInt32 &&& (Int32.ofInt 1431655765))).toUInt32 >>> (Int32.toUInt32 (Int32.ofInt 2) &&& Int32.toUInt32 31)).toInt32 &&& (Int32.ofInt 858993459))) + ((((v0 - ((v0.toUInt32 >>> (Int32.toUInt32 (Int32.ofInt 1) &&& Int32.toUInt32 31)).toInt32 &&& (Int32.ofInt 1431655765))) &&& (Int32.ofInt 858993459)) + (((v0 - ((v0.toUInt32 >>> (Int32.toUInt32 (Int32.ofInt 1) &&& Int32.toUInt32 31)).toInt32 &&& (Int32.ofInt 1431655765))).toUInt32 >>> (Int32.toUInt32 (Int32.ofInt 2) &&& Int32.toUInt32 31)).toInt32 &&& (Int32.ofInt 858993459))).toUInt32 >>> (Int32.toUInt32 (Int32.ofInt 4) &&& Int32.toUInt32 31)).toInt32) &&& (Int32.ofInt 252645135)).toUInt32 >>> (Int32.toUInt32 (Int32.ofInt 8) &&& Int32.toUInt32 31)).toInt32).toUInt32 >>> (Int32.toUInt32 (Int32.ofInt 16) &&& Int32.toUInt32 31)).toInt32) &&& (Int32.ofInt 63))
theorem tJ6_bitCount_0f7a4 {ro : xRo} {K : yK} {S : yS} {d : Nat} {v0 : Int32} : yEv ro xNo K (d + 1) jJ6_bitCount_0f7a4 [.int v0] S (some (.int (fJ6_bitCount_0f7a4 v0))) S := by
  refine ry_meth pJ6_bitCount_0f7a4 rfl (fun z => ?_)
  unfold fJ6_bitCount_0f7a4
  iterate 41 (refine ry_step rfl rfl ?_)
  exact ry_ret rfl rfl
def fJ1_canEncode_9a6ad (v0 : Int32) : Int32 := (if v0 < 0 then (Int32.ofInt 0) else (if (Int32.ofInt 255) < v0 then (Int32.ofInt 0) else (Int32.ofInt 1)))
theorem zJ1_canEncode_9a6ad {v0 : Int32} : fJ1_canEncode_9a6ad v0 = 0 ∨ fJ1_canEncode_9a6ad v0 = 1 := by
  unfold fJ1_canEncode_9a6ad
  repeat' (first | exact Or.inl rfl | exact Or.inr rfl | split)
theorem tJ1_canEncode_9a6ad {ro : xRo} {K : yK} {S : yS} {d : Nat} {v0 : Int32} : yEv ro xNo K (d + 1) jJ1_canEncode_9a6ad [.int v0] S (some (.int (fJ1_canEncode_9a6ad v0))) S := by
  refine ry_meth pJ1_canEncode_9a6ad rfl (fun z => ?_)
  unfold fJ1_canEncode_9a6ad
  iterate 2 (refine ry_step rfl rfl ?_)
  refine ry_ite (fun hc => ?_) (fun hc => ?_)
  · iterate 1 (refine ry_step rfl rfl ?_)
    exact ry_ret rfl (xRetZ (by first | exact Or.inl rfl | exact Or.inr rfl))
  · iterate 3 (refine ry_step rfl rfl ?_)
    refine ry_ite (fun hc => ?_) (fun hc => ?_)
    · iterate 1 (refine ry_step rfl rfl ?_)
      exact ry_ret rfl (xRetZ (by first | exact Or.inl rfl | exact Or.inr rfl))
    · iterate 2 (refine ry_step rfl rfl ?_)
      exact ry_ret rfl (xRetZ (by first | exact Or.inl rfl | exact Or.inr rfl))
def fX1_isOfOne (v0 : Int32) : Int32 := (if ¬ (fX11_within v0 (Int32.ofInt 9) (Int32.ofInt 11)) = 0 then (Int32.ofInt 1) else (if ¬ v0 = (Int32.ofInt 41) then (Int32.ofInt 0) else (Int32.ofInt 1)))
theorem zX1_isOfOne {v0 : Int32} : fX1_isOfOne v0 = 0 ∨ fX1_isOfOne v0 = 1 := by
  unfold fX1_isOfOne
  repeat' (first | exact Or.inl rfl | exact Or.inr rfl | exact zX11_within | split)
theorem tX1_isOfOne {ro : xRo} {K : yK} {S : yS} {d : Nat} {v0 : Int32} : yEv ro xNo K (d + 2) jX1_isOfOne [.int v0] S (some (.int (fX1_isOfOne v0))) S := by
  refine ry_meth pX1_isOfOne rfl (fun z => ?_)
  unfold fX1_isOfOne
  iterate 3 (refine ry_step rfl rfl ?_)
  refine ry_call rfl rfl rfl rfl rfl tX11_within ?_
  iterate 1 (refine ry_step rfl rfl ?_)
  refine ry_ite (fun hc => ?_) (fun hc => ?_)
  · iterate 2 (refine ry_step rfl rfl ?_)
    exact ry_ret rfl (xRetZ (by first | exact Or.inl rfl | exact Or.inr rfl))
  · iterate 3 (refine ry_step rfl rfl ?_)
    refine ry_ite (fun hc => ?_) (fun hc => ?_)
    · iterate 1 (refine ry_step rfl rfl ?_)
      exact ry_ret rfl (xRetZ (by first | exact Or.inl rfl | exact Or.inr rfl))
    · iterate 2 (refine ry_step rfl rfl ?_)
      exact ry_ret rfl (xRetZ (by first | exact Or.inl rfl | exact Or.inr rfl))
def fX1_isOfTwo (v0 : Int32) : Int32 := (if ¬ (fX11_within v0 (Int32.ofInt 25) (Int32.ofInt 37)) = 0 then (Int32.ofInt 1) else (if v0 = (Int32.ofInt 12) then (Int32.ofInt 1) else (if ¬ v0 = (Int32.ofInt 13) then (Int32.ofInt 0) else (Int32.ofInt 1))))
theorem zX1_isOfTwo {v0 : Int32} : fX1_isOfTwo v0 = 0 ∨ fX1_isOfTwo v0 = 1 := by
  unfold fX1_isOfTwo
  repeat' (first | exact Or.inl rfl | exact Or.inr rfl | exact zX11_within | split)
theorem tX1_isOfTwo {ro : xRo} {K : yK} {S : yS} {d : Nat} {v0 : Int32} : yEv ro xNo K (d + 2) jX1_isOfTwo [.int v0] S (some (.int (fX1_isOfTwo v0))) S := by
  refine ry_meth pX1_isOfTwo rfl (fun z => ?_)
  unfold fX1_isOfTwo
  iterate 3 (refine ry_step rfl rfl ?_)
  refine ry_call rfl rfl rfl rfl rfl tX11_within ?_
  iterate 1 (refine ry_step rfl rfl ?_)
  refine ry_ite (fun hc => ?_) (fun hc => ?_)
  · iterate 2 (refine ry_step rfl rfl ?_)
    exact ry_ret rfl (xRetZ (by first | exact Or.inl rfl | exact Or.inr rfl))
  · iterate 3 (refine ry_step rfl rfl ?_)
    refine ry_ite (fun hc => ?_) (fun hc => ?_)
    · iterate 2 (refine ry_step rfl rfl ?_)
      exact ry_ret rfl (xRetZ (by first | exact Or.inl rfl | exact Or.inr rfl))
    · iterate 3 (refine ry_step rfl rfl ?_)
      refine ry_ite (fun hc => ?_) (fun hc => ?_)
      · iterate 1 (refine ry_step rfl rfl ?_)
        exact ry_ret rfl (xRetZ (by first | exact Or.inl rfl | exact Or.inr rfl))
      · iterate 2 (refine ry_step rfl rfl ?_)
        exact ry_ret rfl (xRetZ (by first | exact Or.inl rfl | exact Or.inr rfl))
def fX5_isVerb (v0 : Int32) : Int32 := (if ¬ (fX11_within v0 (Int32.ofInt 18) (Int32.ofInt 23)) = 0 then (Int32.ofInt 1) else (if v0 = (Int32.ofInt 9) then (Int32.ofInt 1) else (if ¬ v0 = 0 then (Int32.ofInt 0) else (Int32.ofInt 1))))
theorem zX5_isVerb {v0 : Int32} : fX5_isVerb v0 = 0 ∨ fX5_isVerb v0 = 1 := by
  unfold fX5_isVerb
  repeat' (first | exact Or.inl rfl | exact Or.inr rfl | exact zX11_within | split)
theorem tX5_isVerb {ro : xRo} {K : yK} {S : yS} {d : Nat} {v0 : Int32} : yEv ro xNo K (d + 2) jX5_isVerb [.int v0] S (some (.int (fX5_isVerb v0))) S := by
  refine ry_meth pX5_isVerb rfl (fun z => ?_)
  unfold fX5_isVerb
  iterate 3 (refine ry_step rfl rfl ?_)
  refine ry_call rfl rfl rfl rfl rfl tX11_within ?_
  iterate 1 (refine ry_step rfl rfl ?_)
  refine ry_ite (fun hc => ?_) (fun hc => ?_)
  · iterate 2 (refine ry_step rfl rfl ?_)
    exact ry_ret rfl (xRetZ (by first | exact Or.inl rfl | exact Or.inr rfl))
  · iterate 3 (refine ry_step rfl rfl ?_)
    refine ry_ite (fun hc => ?_) (fun hc => ?_)
    · iterate 2 (refine ry_step rfl rfl ?_)
      exact ry_ret rfl (xRetZ (by first | exact Or.inl rfl | exact Or.inr rfl))
    · iterate 2 (refine ry_step rfl rfl ?_)
      refine ry_ite (fun hc => ?_) (fun hc => ?_)
      · iterate 1 (refine ry_step rfl rfl ?_)
        exact ry_ret rfl (xRetZ (by first | exact Or.inl rfl | exact Or.inr rfl))
      · iterate 2 (refine ry_step rfl rfl ?_)
        exact ry_ret rfl (xRetZ (by first | exact Or.inl rfl | exact Or.inr rfl))
def fX9_isLetter (v0 : Int32) : Int32 := (if ¬ (fX11_within v0 (Int32.ofInt 97) (Int32.ofInt 122)) = 0 then (Int32.ofInt 1) else (if (fX11_within v0 (Int32.ofInt 65) (Int32.ofInt 90)) = 0 then (Int32.ofInt 0) else (Int32.ofInt 1)))
theorem zX9_isLetter {v0 : Int32} : fX9_isLetter v0 = 0 ∨ fX9_isLetter v0 = 1 := by
  unfold fX9_isLetter
  repeat' (first | exact Or.inl rfl | exact Or.inr rfl | exact zX11_within | split)
theorem tX9_isLetter {ro : xRo} {K : yK} {S : yS} {d : Nat} {v0 : Int32} : yEv ro xNo K (d + 2) jX9_isLetter [.int v0] S (some (.int (fX9_isLetter v0))) S := by
  refine ry_meth pX9_isLetter rfl (fun z => ?_)
  unfold fX9_isLetter
  iterate 3 (refine ry_step rfl rfl ?_)
  refine ry_call rfl rfl rfl rfl rfl tX11_within ?_
  iterate 1 (refine ry_step rfl rfl ?_)
  refine ry_ite (fun hc => ?_) (fun hc => ?_)
  · iterate 2 (refine ry_step rfl rfl ?_)
    exact ry_ret rfl (xRetZ (by first | exact Or.inl rfl | exact Or.inr rfl))
  · iterate 3 (refine ry_step rfl rfl ?_)
    refine ry_call rfl rfl rfl rfl rfl tX11_within ?_
    iterate 1 (refine ry_step rfl rfl ?_)
    refine ry_ite (fun hc => ?_) (fun hc => ?_)
    · iterate 1 (refine ry_step rfl rfl ?_)
      exact ry_ret rfl (xRetZ (by first | exact Or.inl rfl | exact Or.inr rfl))
    · iterate 2 (refine ry_step rfl rfl ?_)
      exact ry_ret rfl (xRetZ (by first | exact Or.inl rfl | exact Or.inr rfl))
def fX9_isDigit (v0 : Int32) : Int32 := (fX11_within v0 (Int32.ofInt 48) (Int32.ofInt 57))
theorem zX9_isDigit {v0 : Int32} : fX9_isDigit v0 = 0 ∨ fX9_isDigit v0 = 1 := by
  unfold fX9_isDigit
  repeat' (first | exact Or.inl rfl | exact Or.inr rfl | exact zX11_within | split)
theorem tX9_isDigit {ro : xRo} {K : yK} {S : yS} {d : Nat} {v0 : Int32} : yEv ro xNo K (d + 2) jX9_isDigit [.int v0] S (some (.int (fX9_isDigit v0))) S := by
  refine ry_meth pX9_isDigit rfl (fun z => ?_)
  unfold fX9_isDigit
  iterate 3 (refine ry_step rfl rfl ?_)
  refine ry_call rfl rfl rfl rfl rfl tX11_within ?_
  exact ry_ret rfl (xRetZ zX11_within)
