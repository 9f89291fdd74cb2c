/-! ===== every row holds ===== -/
def sOkp (j : Nat) : Bool := match sM (j / 3) with
  | some q => (j % 3 != 0 || (sChkN q && decide ((mT q).length ≤ 300))) && sWq q (((mT q).drop (100 * (j % 3))).take 100)
  | none => false
theorem sOkc {a n : Nat} (h : (List.range' a n).all sOkp = true) (j : Nat) (h1 : a ≤ j) (h2 : j < a + n) : sOkp j = true := List.all_eq_true.mp h j (List.mem_range'_1.mpr ⟨h1, h2⟩)
theorem sOk_0 : (List.range' 0 108).all sOkp = true := by decide +kernel
theorem sOk_108 : (List.range' 108 81).all sOkp = true := by decide +kernel
theorem sOk_189 : (List.range' 189 87).all sOkp = true := by decide +kernel
theorem sOk_276 : (List.range' 276 63).all sOkp = true := by decide +kernel
