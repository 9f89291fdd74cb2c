/-! ===== row: all lengths come together behind the first call ===== -/
theorem a_row0 : aCase (aXr 0) := a_case (by decide +kernel)
theorem a_row1 : aCase (aXr 1) := a_case (by decide +kernel)
theorem a_row2 : aCase (aXr 2) := a_case (by decide +kernel)
theorem a_row3 : aCase (aXr 3) := a_case (by decide +kernel)
theorem a_row4 : aCase (aXr 4) := a_case (by decide +kernel)
theorem a_row5 : aCase (aXr 5) := a_case (by decide +kernel)
theorem a_row6 : aCase (aXr 6) := a_case (by decide +kernel)
theorem a_row7 : aCase (aXr 7) := a_case (by decide +kernel)
theorem a_rowT (i : Nat) (hi : i < 8) : aCase (aXr i) := by
  match i, hi with
  | 0, _ => exact a_row0
  | 1, _ => exact a_row1
  | 2, _ => exact a_row2
  | 3, _ => exact a_row3
  | 4, _ => exact a_row4
  | 5, _ => exact a_row5
  | 6, _ => exact a_row6
  | 7, _ => exact a_row7
theorem a_c0_of {lo hi : Int} {ι : aIn} {X : sX} (HX : aHX ι X) (hz : aZok ι) (hG : aOk ι aG0) (h1 : lo ≤ aZ ι (.arg 1)) (h2 : aZ ι (.arg 1) ≤ hi) (g : aRun true aK2r 6000 true 10 258 220 aL0 [] aH0 ((.arg 1, lo, hi) :: aG0) aK0 = true) : aPr ι X 258 10 aEnd (aX0 220) := by
  refine aRun_ok (c := true) (K2 := aK2r) ⟨fun _ => HX, fun e => by cases e⟩ (fun pc L st h G g hG => ?_) (fun _ _ q => aK0_ok hz q) 6000 true 10 258 _ _ _ _ _ aK0 g (aOk_cons hG h1 h2) (fun _ => ⟨rfl, rfl, rfl⟩)
  unfold aK2r at g
  obtain ⟨-, g⟩ := aBa g
  obtain ⟨hi, g⟩ := aBa g
  exact aTq_ok g hG (fun hG1 => a_rowT _ (aBl hi) ι X HX hz hG1)
theorem a_c0_0 : aRun true aK2r 6000 true 10 258 220 aL0 [] aH0 ((.arg 1, (-2147483648), (-1)) :: aG0) aK0 = true := by decide +kernel
theorem a_c0_1 : aRun true aK2r 6000 true 10 258 220 aL0 [] aH0 ((.arg 1, (0), (0)) :: aG0) aK0 = true := by decide +kernel
theorem a_c0_2 : aRun true aK2r 6000 true 10 258 220 aL0 [] aH0 ((.arg 1, (1), (1)) :: aG0) aK0 = true := by decide +kernel
theorem a_c0_3 : aRun true aK2r 6000 true 10 258 220 aL0 [] aH0 ((.arg 1, (2), (2)) :: aG0) aK0 = true := by decide +kernel
theorem a_c0_4 : aRun true aK2r 6000 true 10 258 220 aL0 [] aH0 ((.arg 1, (3), (3)) :: aG0) aK0 = true := by decide +kernel
theorem a_c0_5 : aRun true aK2r 6000 true 10 258 220 aL0 [] aH0 ((.arg 1, (4), (4)) :: aG0) aK0 = true := by decide +kernel
theorem a_c0_6 : aRun true aK2r 6000 true 10 258 220 aL0 [] aH0 ((.arg 1, (5), (5)) :: aG0) aK0 = true := by decide +kernel
theorem a_c0_7 : aRun true aK2r 6000 true 10 258 220 aL0 [] aH0 ((.arg 1, (6), (6)) :: aG0) aK0 = true := by decide +kernel
theorem a_c0_8 : aRun true aK2r 6000 true 10 258 220 aL0 [] aH0 ((.arg 1, (7), (7)) :: aG0) aK0 = true := by decide +kernel
theorem a_c0_9 : aRun true aK2r 6000 true 10 258 220 aL0 [] aH0 ((.arg 1, (8), (2147483647)) :: aG0) aK0 = true := by decide +kernel
theorem a_c0 : aCase (aX0 220) := by
  intro ι X HX hz hG
  have b := aFull_ok (vI (eT ι (.arg 1)))
  unfold aW aFull at b
  dsimp only at b
  by_cases h0 : aZ ι (.arg 1) ≤ -1
  · exact a_c0_of HX hz hG (by unfold aZ at *; omega) h0 a_c0_0
  by_cases h1 : aZ ι (.arg 1) ≤ 0
  · exact a_c0_of HX hz hG (by unfold aZ at *; omega) h1 a_c0_1
  by_cases h2 : aZ ι (.arg 1) ≤ 1
  · exact a_c0_of HX hz hG (by unfold aZ at *; omega) h2 a_c0_2
  by_cases h3 : aZ ι (.arg 1) ≤ 2
  · exact a_c0_of HX hz hG (by unfold aZ at *; omega) h3 a_c0_3
  by_cases h4 : aZ ι (.arg 1) ≤ 3
  · exact a_c0_of HX hz hG (by unfold aZ at *; omega) h4 a_c0_4
  by_cases h5 : aZ ι (.arg 1) ≤ 4
  · exact a_c0_of HX hz hG (by unfold aZ at *; omega) h5 a_c0_5
  by_cases h6 : aZ ι (.arg 1) ≤ 5
  · exact a_c0_of HX hz hG (by unfold aZ at *; omega) h6 a_c0_6
  by_cases h7 : aZ ι (.arg 1) ≤ 6
  · exact a_c0_of HX hz hG (by unfold aZ at *; omega) h7 a_c0_7
  by_cases h8 : aZ ι (.arg 1) ≤ 7
  · exact a_c0_of HX hz hG (by unfold aZ at *; omega) h8 a_c0_8
  exact a_c0_of HX hz hG (by unfold aZ at *; omega) (by unfold aZ at *; omega) a_c0_9
