theorem sOk_339 : (List.range' 339 63).all sOkp = true := by decide +kernel
theorem sOk_402 : (List.range' 402 57).all sOkp = true := by decide +kernel
theorem sOk_459 : (List.range' 459 66).all sOkp = true := by decide +kernel
theorem sOk_525 : (List.range' 525 42).all sOkp = true := by decide +kernel
