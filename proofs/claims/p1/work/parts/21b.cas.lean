/-! ===== cases of the law that the executor goes through by itself ===== -/
theorem a_c2 : aCase (aX0 336) := a_case (by decide +kernel)
theorem a_c20 : aCase (aX0 988) := a_case (by decide +kernel)
