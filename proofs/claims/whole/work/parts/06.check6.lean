/-! checks, on -/
theorem ck_X12_take : xOkM mX12_take = true := by decide +kernel
theorem ck_X12_told : xOkM mX12_told = true := by decide +kernel
theorem ck_X12_whose : xOkM mX12_whose = true := by decide +kernel
theorem ck_X12_image : xOkM mX12_image = true := by decide +kernel
theorem ck_X12_back : xOkM mX12_back = true := by decide +kernel
theorem ck_X12_about : xOkM mX12_about = true := by decide +kernel
