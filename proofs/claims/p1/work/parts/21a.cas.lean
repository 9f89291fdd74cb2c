/-! ===== cases of the law that the executor goes through by itself ===== -/
theorem a_c10 : aCase (aX0 592) := a_case (by decide +kernel)
