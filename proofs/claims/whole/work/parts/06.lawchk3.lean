/-! the law itself -/
theorem ckL_51 : ∀ q ∈ kL_law_c51, (xChk RL "law" cL_law 4 q.1 q.2 && xChkC xP RL q.2) = true := by decide +kernel
theorem ckL_52 : ∀ q ∈ kL_law_c52, (xChk RL "law" cL_law 4 q.1 q.2 && xChkC xP RL q.2) = true := by decide +kernel
theorem ckL_53 : ∀ q ∈ kL_law_c53, (xChk RL "law" cL_law 4 q.1 q.2 && xChkC xP RL q.2) = true := by decide +kernel
theorem ckL_54 : ∀ q ∈ kL_law_c54, (xChk RL "law" cL_law 4 q.1 q.2 && xChkC xP RL q.2) = true := by decide +kernel
theorem ckL_55 : ∀ q ∈ kL_law_c55, (xChk RL "law" cL_law 4 q.1 q.2 && xChkC xP RL q.2) = true := by decide +kernel
theorem ckL_56 : ∀ q ∈ kL_law_c56, (xChk RL "law" cL_law 4 q.1 q.2 && xChkC xP RL q.2) = true := by decide +kernel
theorem ckL_57 : ∀ q ∈ kL_law_c57, (xChk RL "law" cL_law 4 q.1 q.2 && xChkC xP RL q.2) = true := by decide +kernel
theorem ckL_58 : ∀ q ∈ kL_law_c58, (xChk RL "law" cL_law 4 q.1 q.2 && xChkC xP RL q.2) = true := by decide +kernel
theorem ckL_59 : ∀ q ∈ kL_law_c59, (xChk RL "law" cL_law 4 q.1 q.2 && xChkC xP RL q.2) = true := by decide +kernel
theorem ckL_60 : ∀ q ∈ kL_law_c60, (xChk RL "law" cL_law 4 q.1 q.2 && xChkC xP RL q.2) = true := by decide +kernel
theorem ckL_61 : ∀ q ∈ kL_law_c61, (xChk RL "law" cL_law 4 q.1 q.2 && xChkC xP RL q.2) = true := by decide +kernel
theorem ckL_62 : ∀ q ∈ kL_law_c62, (xChk RL "law" cL_law 4 q.1 q.2 && xChkC xP RL q.2) = true := by decide +kernel
theorem ckL_63 : ∀ q ∈ kL_law_c63, (xChk RL "law" cL_law 4 q.1 q.2 && xChkC xP RL q.2) = true := by decide +kernel
