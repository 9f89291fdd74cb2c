/-! ===== every row holds ===== -/
def sOkp (j : Nat) : Bool := match sM (j / 3) with
  | some q => (j % 3 != 0 || (sChkM q && decide ((mT q).length ≤ 300))) && ((((mT q).drop (100 * (j % 3))).take 100).all (sChkE q))
  | none => false
theorem sOkc {a n : Nat} (h : (List.range' a n).all sOkp = true) (j : Nat) (h1 : a ≤ j) (h2 : j < a + n) : sOkp j = true := List.all_eq_true.mp h j (List.mem_range'_1.mpr ⟨h1, h2⟩)
theorem sOk_0 : (List.range' 0 33).all sOkp = true := by decide +kernel
theorem sOk_33 : (List.range' 33 18).all sOkp = true := by decide +kernel
theorem sOk_51 : (List.range' 51 3).all sOkp = true := by decide +kernel
theorem sOk_54 : (List.range' 54 1).all sOkp = true := by decide +kernel
theorem sOk_55 : (List.range' 55 20).all sOkp = true := by decide +kernel
theorem sOk_75 : (List.range' 75 27).all sOkp = true := by decide +kernel
theorem sOk_102 : (List.range' 102 9).all sOkp = true := by decide +kernel
theorem sOk_111 : (List.range' 111 9).all sOkp = true := by decide +kernel
theorem sOk_120 : (List.range' 120 12).all sOkp = true := by decide +kernel
theorem sOk_132 : (List.range' 132 9).all sOkp = true := by decide +kernel
theorem sOk_141 : (List.range' 141 6).all sOkp = true := by decide +kernel
theorem sOk_147 : (List.range' 147 12).all sOkp = true := by decide +kernel
theorem sOk_159 : (List.range' 159 30).all sOkp = true := by decide +kernel
theorem sOk_189 : (List.range' 189 18).all sOkp = true := by decide +kernel
theorem sOk_207 : (List.range' 207 9).all sOkp = true := by decide +kernel
theorem sOk_216 : (List.range' 216 9).all sOkp = true := by decide +kernel
theorem sOk_225 : (List.range' 225 6).all sOkp = true := by decide +kernel
theorem sOk_231 : (List.range' 231 18).all sOkp = true := by decide +kernel
theorem sOk_249 : (List.range' 249 18).all sOkp = true := by decide +kernel
theorem sOk_267 : (List.range' 267 12).all sOkp = true := by decide +kernel
theorem sOk_279 : (List.range' 279 12).all sOkp = true := by decide +kernel
theorem sOk_291 : (List.range' 291 3).all sOkp = true := by decide +kernel
theorem sOk_294 : (List.range' 294 3).all sOkp = true := by decide +kernel
theorem sOk_297 : (List.range' 297 6).all sOkp = true := by decide +kernel
