theorem sOk_567 : (List.range' 567 36).all sOkp = true := by decide +kernel
theorem sOk_603 : (List.range' 603 48).all sOkp = true := by decide +kernel
theorem sOk_651 : (List.range' 651 45).all sOkp = true := by decide +kernel
theorem sOk_696 : (List.range' 696 30).all sOkp = true := by decide +kernel
