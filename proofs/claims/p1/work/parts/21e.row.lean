/-! ===== row: all lengths come together behind the first call ===== -/
theorem a_row0 : aCase (aXr 0) := a_case (by decide +kernel)
theorem a_row1 : aCase (aXr 1) := a_case (by decide +kernel)
theorem a_row2 : aCase (aXr 2) := a_case (by decide +kernel)
theorem a_row3 : aCase (aXr 3) := a_case (by decide +kernel)
theorem a_row4 : aCase (aXr 4) := a_case (by decide +kernel)
theorem a_row5 : aCase (aXr 5) := a_case (by decide +kernel)
theorem a_row6 : aCase (aXr 6) := a_case (by decide +kernel)
theorem a_row7 : aCase (aXr 7) := a_case (by decide +kernel)
theorem a_rowT (i : Nat) (hi : i < 8) : aCase (aXr i) := by
  match i, hi with
  | 0, _ => exact a_row0
  | 1, _ => exact a_row1
  | 2, _ => exact a_row2
  | 3, _ => exact a_row3
  | 4, _ => exact a_row4
  | 5, _ => exact a_row5
  | 6, _ => exact a_row6
  | 7, _ => exact a_row7
theorem a_c0 : aCase (aX0 220) := by
  intro ι X HX hG
  refine aRun_ok (c := true) (K2 := aK2r) ⟨fun _ => HX, fun e => by cases e⟩ (fun pc L st h G g hG => ?_) 6000 true 10 258 _ _ _ _ _ aK0 (by decide +kernel) hG (fun _ => ⟨rfl, rfl, rfl⟩)
  unfold aK2r at g
  obtain ⟨-, g⟩ := aBa g
  obtain ⟨hi, g⟩ := aBa g
  exact aTq_ok g hG (fun hG1 => a_rowT _ (aBl hi) ι X HX hG1)
