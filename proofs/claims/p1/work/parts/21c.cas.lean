/-! ===== cases of the law that the executor goes through by itself ===== -/
theorem a_c34 : aCase (aX0 1341) := a_case (by decide +kernel)
theorem a_c4 : aCase (aX0 433) := a_case (by decide +kernel)
theorem a_c11 : aCase (aX0 625) := a_case (by decide +kernel)
