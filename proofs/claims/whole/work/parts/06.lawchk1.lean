/-! the law itself -/
theorem ckL_17 : ∀ q ∈ kL_law_c17, (xChk RL "law" cL_law 4 q.1 q.2 && xChkC xP RL q.2) = true := by decide +kernel
theorem ckL_18 : ∀ q ∈ kL_law_c18, (xChk RL "law" cL_law 4 q.1 q.2 && xChkC xP RL q.2) = true := by decide +kernel
theorem ckL_19 : ∀ q ∈ kL_law_c19, (xChk RL "law" cL_law 4 q.1 q.2 && xChkC xP RL q.2) = true := by decide +kernel
theorem ckL_20 : ∀ q ∈ kL_law_c20, (xChk RL "law" cL_law 4 q.1 q.2 && xChkC xP RL q.2) = true := by decide +kernel
theorem ckL_21 : ∀ q ∈ kL_law_c21, (xChk RL "law" cL_law 4 q.1 q.2 && xChkC xP RL q.2) = true := by decide +kernel
theorem ckL_22 : ∀ q ∈ kL_law_c22, (xChk RL "law" cL_law 4 q.1 q.2 && xChkC xP RL q.2) = true := by decide +kernel
theorem ckL_23 : ∀ q ∈ kL_law_c23, (xChk RL "law" cL_law 4 q.1 q.2 && xChkC xP RL q.2) = true := by decide +kernel
theorem ckL_24 : ∀ q ∈ kL_law_c24, (xChk RL "law" cL_law 4 q.1 q.2 && xChkC xP RL q.2) = true := by decide +kernel
theorem ckL_25 : ∀ q ∈ kL_law_c25, (xChk RL "law" cL_law 4 q.1 q.2 && xChkC xP RL q.2) = true := by decide +kernel
theorem ckL_26 : ∀ q ∈ kL_law_c26, (xChk RL "law" cL_law 4 q.1 q.2 && xChkC xP RL q.2) = true := by decide +kernel
theorem ckL_27 : ∀ q ∈ kL_law_c27, (xChk RL "law" cL_law 4 q.1 q.2 && xChkC xP RL q.2) = true := by decide +kernel
theorem ckL_28 : ∀ q ∈ kL_law_c28, (xChk RL "law" cL_law 4 q.1 q.2 && xChkC xP RL q.2) = true := by decide +kernel
theorem ckL_29 : ∀ q ∈ kL_law_c29, (xChk RL "law" cL_law 4 q.1 q.2 && xChkC xP RL q.2) = true := by decide +kernel
theorem ckL_30 : ∀ q ∈ kL_law_c30, (xChk RL "law" cL_law 4 q.1 q.2 && xChkC xP RL q.2) = true := by decide +kernel
theorem ckL_31 : ∀ q ∈ kL_law_c31, (xChk RL "law" cL_law 4 q.1 q.2 && xChkC xP RL q.2) = true := by decide +kernel
theorem ckL_32 : ∀ q ∈ kL_law_c32, (xChk RL "law" cL_law 4 q.1 q.2 && xChkC xP RL q.2) = true := by decide +kernel
theorem ckL_33 : ∀ q ∈ kL_law_c33, (xChk RL "law" cL_law 4 q.1 q.2 && xChkC xP RL q.2) = true := by decide +kernel
