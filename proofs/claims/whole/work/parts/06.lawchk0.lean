/-! the law itself -/
theorem ckL_0 : ∀ q ∈ kL_law_c0, (xChk RL "law" cL_law 4 q.1 q.2 && xChkC xP RL q.2) = true := by decide +kernel
theorem ckL_1 : ∀ q ∈ kL_law_c1, (xChk RL "law" cL_law 4 q.1 q.2 && xChkC xP RL q.2) = true := by decide +kernel
theorem ckL_2 : ∀ q ∈ kL_law_c2, (xChk RL "law" cL_law 4 q.1 q.2 && xChkC xP RL q.2) = true := by decide +kernel
theorem ckL_3 : ∀ q ∈ kL_law_c3, (xChk RL "law" cL_law 4 q.1 q.2 && xChkC xP RL q.2) = true := by decide +kernel
theorem ckL_4 : ∀ q ∈ kL_law_c4, (xChk RL "law" cL_law 4 q.1 q.2 && xChkC xP RL q.2) = true := by decide +kernel
theorem ckL_5 : ∀ q ∈ kL_law_c5, (xChk RL "law" cL_law 4 q.1 q.2 && xChkC xP RL q.2) = true := by decide +kernel
theorem ckL_6 : ∀ q ∈ kL_law_c6, (xChk RL "law" cL_law 4 q.1 q.2 && xChkC xP RL q.2) = true := by decide +kernel
theorem ckL_7 : ∀ q ∈ kL_law_c7, (xChk RL "law" cL_law 4 q.1 q.2 && xChkC xP RL q.2) = true := by decide +kernel
theorem ckL_8 : ∀ q ∈ kL_law_c8, (xChk RL "law" cL_law 4 q.1 q.2 && xChkC xP RL q.2) = true := by decide +kernel
theorem ckL_9 : ∀ q ∈ kL_law_c9, (xChk RL "law" cL_law 4 q.1 q.2 && xChkC xP RL q.2) = true := by decide +kernel
theorem ckL_10 : ∀ q ∈ kL_law_c10, (xChk RL "law" cL_law 4 q.1 q.2 && xChkC xP RL q.2) = true := by decide +kernel
theorem ckL_11 : ∀ q ∈ kL_law_c11, (xChk RL "law" cL_law 4 q.1 q.2 && xChkC xP RL q.2) = true := by decide +kernel
theorem ckL_12 : ∀ q ∈ kL_law_c12, (xChk RL "law" cL_law 4 q.1 q.2 && xChkC xP RL q.2) = true := by decide +kernel
theorem ckL_13 : ∀ q ∈ kL_law_c13, (xChk RL "law" cL_law 4 q.1 q.2 && xChkC xP RL q.2) = true := by decide +kernel
theorem ckL_14 : ∀ q ∈ kL_law_c14, (xChk RL "law" cL_law 4 q.1 q.2 && xChkC xP RL q.2) = true := by decide +kernel
theorem ckL_15 : ∀ q ∈ kL_law_c15, (xChk RL "law" cL_law 4 q.1 q.2 && xChkC xP RL q.2) = true := by decide +kernel
theorem ckL_16 : ∀ q ∈ kL_law_c16, (xChk RL "law" cL_law 4 q.1 q.2 && xChkC xP RL q.2) = true := by decide +kernel
