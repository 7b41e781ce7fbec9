/-! the law itself -/
theorem ckL_34 : ∀ q ∈ kL_law_c34, (xChk RL "law" cL_law 4 q.1 q.2 && xChkC xP RL q.2) = true := by decide +kernel
theorem ckL_35 : ∀ q ∈ kL_law_c35, (xChk RL "law" cL_law 4 q.1 q.2 && xChkC xP RL q.2) = true := by decide +kernel
theorem ckL_36 : ∀ q ∈ kL_law_c36, (xChk RL "law" cL_law 4 q.1 q.2 && xChkC xP RL q.2) = true := by decide +kernel
theorem ckL_37 : ∀ q ∈ kL_law_c37, (xChk RL "law" cL_law 4 q.1 q.2 && xChkC xP RL q.2) = true := by decide +kernel
theorem ckL_38 : ∀ q ∈ kL_law_c38, (xChk RL "law" cL_law 4 q.1 q.2 && xChkC xP RL q.2) = true := by decide +kernel
theorem ckL_39 : ∀ q ∈ kL_law_c39, (xChk RL "law" cL_law 4 q.1 q.2 && xChkC xP RL q.2) = true := by decide +kernel
theorem ckL_40 : ∀ q ∈ kL_law_c40, (xChk RL "law" cL_law 4 q.1 q.2 && xChkC xP RL q.2) = true := by decide +kernel
theorem ckL_41 : ∀ q ∈ kL_law_c41, (xChk RL "law" cL_law 4 q.1 q.2 && xChkC xP RL q.2) = true := by decide +kernel
theorem ckL_42 : ∀ q ∈ kL_law_c42, (xChk RL "law" cL_law 4 q.1 q.2 && xChkC xP RL q.2) = true := by decide +kernel
theorem ckL_43 : ∀ q ∈ kL_law_c43, (xChk RL "law" cL_law 4 q.1 q.2 && xChkC xP RL q.2) = true := by decide +kernel
theorem ckL_44 : ∀ q ∈ kL_law_c44, (xChk RL "law" cL_law 4 q.1 q.2 && xChkC xP RL q.2) = true := by decide +kernel
theorem ckL_45 : ∀ q ∈ kL_law_c45, (xChk RL "law" cL_law 4 q.1 q.2 && xChkC xP RL q.2) = true := by decide +kernel
theorem ckL_46 : ∀ q ∈ kL_law_c46, (xChk RL "law" cL_law 4 q.1 q.2 && xChkC xP RL q.2) = true := by decide +kernel
theorem ckL_47 : ∀ q ∈ kL_law_c47, (xChk RL "law" cL_law 4 q.1 q.2 && xChkC xP RL q.2) = true := by decide +kernel
theorem ckL_48 : ∀ q ∈ kL_law_c48, (xChk RL "law" cL_law 4 q.1 q.2 && xChkC xP RL q.2) = true := by decide +kernel
theorem ckL_49 : ∀ q ∈ kL_law_c49, (xChk RL "law" cL_law 4 q.1 q.2 && xChkC xP RL q.2) = true := by decide +kernel
theorem ckL_50 : ∀ q ∈ kL_law_c50, (xChk RL "law" cL_law 4 q.1 q.2 && xChkC xP RL q.2) = true := by decide +kernel
