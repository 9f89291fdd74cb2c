theorem sOk_654 : (List.range' 654 6).all sOkp = true := by decide +kernel
theorem sOk_660 : (List.range' 660 6).all sOkp = true := by decide +kernel
theorem sOk_666 : (List.range' 666 6).all sOkp = true := by decide +kernel
theorem sOk_672 : (List.range' 672 9).all sOkp = true := by decide +kernel
theorem sOk_681 : (List.range' 681 1).all sOkp = true := by decide +kernel
theorem sOk_682 : (List.range' 682 14).all sOkp = true := by decide +kernel
theorem sOk_696 : (List.range' 696 1).all sOkp = true := by decide +kernel
theorem sOk_697 : (List.range' 697 8).all sOkp = true := by decide +kernel
theorem sOk_705 : (List.range' 705 3).all sOkp = true := by decide +kernel
theorem sOk_708 : (List.range' 708 3).all sOkp = true := by decide +kernel
theorem sOk_711 : (List.range' 711 1).all sOkp = true := by decide +kernel
theorem sOk_712 : (List.range' 712 8).all sOkp = true := by decide +kernel
theorem sOk_720 : (List.range' 720 6).all sOkp = true := by decide +kernel
theorem sOk_726 : (List.range' 726 6).all sOkp = true := by decide +kernel
theorem sOk_732 : (List.range' 732 6).all sOkp = true := by decide +kernel
theorem sOk_738 : (List.range' 738 6).all sOkp = true := by decide +kernel
theorem sOk_744 : (List.range' 744 6).all sOkp = true := by decide +kernel
theorem sOk_750 : (List.range' 750 3).all sOkp = true := by decide +kernel
theorem sOk_753 : (List.range' 753 9).all sOkp = true := by decide +kernel
theorem sOk_762 : (List.range' 762 9).all sOkp = true := by decide +kernel
theorem sOk_771 : (List.range' 771 3).all sOkp = true := by decide +kernel
def sOkL (i : Nat) : Bool := match sM 258 with
  | some q => decide ((mT q).length ≤ 1100) && ((((mT q).drop (100 * i)).take 100).all (sChkE q))
  | none => false
theorem sOkL_0 : sOkL 0 = true := by decide +kernel
theorem sOkL_1 : sOkL 1 = true := by decide +kernel
theorem sOkL_2 : sOkL 2 = true := by decide +kernel
theorem sOkL_3 : sOkL 3 = true := by decide +kernel
theorem sOkL_4 : sOkL 4 = true := by decide +kernel
theorem sOkL_5 : sOkL 5 = true := by decide +kernel
theorem sOkL_6 : sOkL 6 = true := by decide +kernel
theorem sOkL_7 : sOkL 7 = true := by decide +kernel
theorem sOkL_8 : sOkL 8 = true := by decide +kernel
theorem sOkL_9 : sOkL 9 = true := by decide +kernel
theorem sOkL_10 : sOkL 10 = true := by decide +kernel
theorem sOk_all (j : Nat) (h : j < 774) : sOkp j = true := by
  rcases Nat.lt_or_ge j 33 with q | q
  · exact sOkc sOk_0 j (by omega) (by omega)
  rcases Nat.lt_or_ge j 51 with q | q
  · exact sOkc sOk_33 j (by omega) (by omega)
  rcases Nat.lt_or_ge j 54 with q | q
  · exact sOkc sOk_51 j (by omega) (by omega)
  rcases Nat.lt_or_ge j 55 with q | q
  · exact sOkc sOk_54 j (by omega) (by omega)
  rcases Nat.lt_or_ge j 75 with q | q
  · exact sOkc sOk_55 j (by omega) (by omega)
  rcases Nat.lt_or_ge j 102 with q | q
  · exact sOkc sOk_75 j (by omega) (by omega)
  rcases Nat.lt_or_ge j 111 with q | q
  · exact sOkc sOk_102 j (by omega) (by omega)
  rcases Nat.lt_or_ge j 120 with q | q
  · exact sOkc sOk_111 j (by omega) (by omega)
  rcases Nat.lt_or_ge j 132 with q | q
  · exact sOkc sOk_120 j (by omega) (by omega)
  rcases Nat.lt_or_ge j 141 with q | q
  · exact sOkc sOk_132 j (by omega) (by omega)
  rcases Nat.lt_or_ge j 147 with q | q
  · exact sOkc sOk_141 j (by omega) (by omega)
  rcases Nat.lt_or_ge j 159 with q | q
  · exact sOkc sOk_147 j (by omega) (by omega)
  rcases Nat.lt_or_ge j 189 with q | q
  · exact sOkc sOk_159 j (by omega) (by omega)
  rcases Nat.lt_or_ge j 207 with q | q
  · exact sOkc sOk_189 j (by omega) (by omega)
  rcases Nat.lt_or_ge j 216 with q | q
  · exact sOkc sOk_207 j (by omega) (by omega)
  rcases Nat.lt_or_ge j 225 with q | q
  · exact sOkc sOk_216 j (by omega) (by omega)
  rcases Nat.lt_or_ge j 231 with q | q
  · exact sOkc sOk_225 j (by omega) (by omega)
  rcases Nat.lt_or_ge j 249 with q | q
  · exact sOkc sOk_231 j (by omega) (by omega)
  rcases Nat.lt_or_ge j 267 with q | q
  · exact sOkc sOk_249 j (by omega) (by omega)
  rcases Nat.lt_or_ge j 279 with q | q
  · exact sOkc sOk_267 j (by omega) (by omega)
  rcases Nat.lt_or_ge j 291 with q | q
  · exact sOkc sOk_279 j (by omega) (by omega)
  rcases Nat.lt_or_ge j 294 with q | q
  · exact sOkc sOk_291 j (by omega) (by omega)
  rcases Nat.lt_or_ge j 297 with q | q
  · exact sOkc sOk_294 j (by omega) (by omega)
  rcases Nat.lt_or_ge j 303 with q | q
  · exact sOkc sOk_297 j (by omega) (by omega)
  rcases Nat.lt_or_ge j 309 with q | q
  · exact sOkc sOk_303 j (by omega) (by omega)
  rcases Nat.lt_or_ge j 321 with q | q
  · exact sOkc sOk_309 j (by omega) (by omega)
  rcases Nat.lt_or_ge j 339 with q | q
  · exact sOkc sOk_321 j (by omega) (by omega)
  rcases Nat.lt_or_ge j 345 with q | q
  · exact sOkc sOk_339 j (by omega) (by omega)
  rcases Nat.lt_or_ge j 354 with q | q
  · exact sOkc sOk_345 j (by omega) (by omega)
  rcases Nat.lt_or_ge j 360 with q | q
  · exact sOkc sOk_354 j (by omega) (by omega)
  rcases Nat.lt_or_ge j 372 with q | q
  · exact sOkc sOk_360 j (by omega) (by omega)
  rcases Nat.lt_or_ge j 384 with q | q
  · exact sOkc sOk_372 j (by omega) (by omega)
  rcases Nat.lt_or_ge j 390 with q | q
  · exact sOkc sOk_384 j (by omega) (by omega)
  rcases Nat.lt_or_ge j 402 with q | q
  · exact sOkc sOk_390 j (by omega) (by omega)
  rcases Nat.lt_or_ge j 405 with q | q
  · exact sOkc sOk_402 j (by omega) (by omega)
  rcases Nat.lt_or_ge j 420 with q | q
  · exact sOkc sOk_405 j (by omega) (by omega)
  rcases Nat.lt_or_ge j 429 with q | q
  · exact sOkc sOk_420 j (by omega) (by omega)
  rcases Nat.lt_or_ge j 432 with q | q
  · exact sOkc sOk_429 j (by omega) (by omega)
  rcases Nat.lt_or_ge j 441 with q | q
  · exact sOkc sOk_432 j (by omega) (by omega)
  rcases Nat.lt_or_ge j 447 with q | q
  · exact sOkc sOk_441 j (by omega) (by omega)
  rcases Nat.lt_or_ge j 456 with q | q
  · exact sOkc sOk_447 j (by omega) (by omega)
  rcases Nat.lt_or_ge j 468 with q | q
  · exact sOkc sOk_456 j (by omega) (by omega)
  rcases Nat.lt_or_ge j 486 with q | q
  · exact sOkc sOk_468 j (by omega) (by omega)
  rcases Nat.lt_or_ge j 495 with q | q
  · exact sOkc sOk_486 j (by omega) (by omega)
  rcases Nat.lt_or_ge j 504 with q | q
  · exact sOkc sOk_495 j (by omega) (by omega)
  rcases Nat.lt_or_ge j 505 with q | q
  · exact sOkc sOk_504 j (by omega) (by omega)
  rcases Nat.lt_or_ge j 506 with q | q
  · exact sOkc sOk_505 j (by omega) (by omega)
  rcases Nat.lt_or_ge j 519 with q | q
  · exact sOkc sOk_506 j (by omega) (by omega)
  rcases Nat.lt_or_ge j 534 with q | q
  · exact sOkc sOk_519 j (by omega) (by omega)
  rcases Nat.lt_or_ge j 537 with q | q
  · exact sOkc sOk_534 j (by omega) (by omega)
  rcases Nat.lt_or_ge j 540 with q | q
  · exact sOkc sOk_537 j (by omega) (by omega)
  rcases Nat.lt_or_ge j 541 with q | q
  · exact sOkc sOk_540 j (by omega) (by omega)
  rcases Nat.lt_or_ge j 546 with q | q
  · exact sOkc sOk_541 j (by omega) (by omega)
  rcases Nat.lt_or_ge j 555 with q | q
  · exact sOkc sOk_546 j (by omega) (by omega)
  rcases Nat.lt_or_ge j 561 with q | q
  · exact sOkc sOk_555 j (by omega) (by omega)
  rcases Nat.lt_or_ge j 567 with q | q
  · exact sOkc sOk_561 j (by omega) (by omega)
  rcases Nat.lt_or_ge j 570 with q | q
  · exact sOkc sOk_567 j (by omega) (by omega)
  rcases Nat.lt_or_ge j 579 with q | q
  · exact sOkc sOk_570 j (by omega) (by omega)
  rcases Nat.lt_or_ge j 585 with q | q
  · exact sOkc sOk_579 j (by omega) (by omega)
  rcases Nat.lt_or_ge j 594 with q | q
  · exact sOkc sOk_585 j (by omega) (by omega)
  rcases Nat.lt_or_ge j 597 with q | q
  · exact sOkc sOk_594 j (by omega) (by omega)
  rcases Nat.lt_or_ge j 598 with q | q
  · exact sOkc sOk_597 j (by omega) (by omega)
  rcases Nat.lt_or_ge j 600 with q | q
  · exact sOkc sOk_598 j (by omega) (by omega)
  rcases Nat.lt_or_ge j 603 with q | q
  · exact sOkc sOk_600 j (by omega) (by omega)
  rcases Nat.lt_or_ge j 604 with q | q
  · exact sOkc sOk_603 j (by omega) (by omega)
  rcases Nat.lt_or_ge j 606 with q | q
  · exact sOkc sOk_604 j (by omega) (by omega)
  rcases Nat.lt_or_ge j 615 with q | q
  · exact sOkc sOk_606 j (by omega) (by omega)
  rcases Nat.lt_or_ge j 624 with q | q
  · exact sOkc sOk_615 j (by omega) (by omega)
  rcases Nat.lt_or_ge j 630 with q | q
  · exact sOkc sOk_624 j (by omega) (by omega)
  rcases Nat.lt_or_ge j 636 with q | q
  · exact sOkc sOk_630 j (by omega) (by omega)
  rcases Nat.lt_or_ge j 651 with q | q
  · exact sOkc sOk_636 j (by omega) (by omega)
  rcases Nat.lt_or_ge j 654 with q | q
  · exact sOkc sOk_651 j (by omega) (by omega)
  rcases Nat.lt_or_ge j 660 with q | q
  · exact sOkc sOk_654 j (by omega) (by omega)
  rcases Nat.lt_or_ge j 666 with q | q
  · exact sOkc sOk_660 j (by omega) (by omega)
  rcases Nat.lt_or_ge j 672 with q | q
  · exact sOkc sOk_666 j (by omega) (by omega)
  rcases Nat.lt_or_ge j 681 with q | q
  · exact sOkc sOk_672 j (by omega) (by omega)
  rcases Nat.lt_or_ge j 682 with q | q
  · exact sOkc sOk_681 j (by omega) (by omega)
  rcases Nat.lt_or_ge j 696 with q | q
  · exact sOkc sOk_682 j (by omega) (by omega)
  rcases Nat.lt_or_ge j 697 with q | q
  · exact sOkc sOk_696 j (by omega) (by omega)
  rcases Nat.lt_or_ge j 705 with q | q
  · exact sOkc sOk_697 j (by omega) (by omega)
  rcases Nat.lt_or_ge j 708 with q | q
  · exact sOkc sOk_705 j (by omega) (by omega)
  rcases Nat.lt_or_ge j 711 with q | q
  · exact sOkc sOk_708 j (by omega) (by omega)
  rcases Nat.lt_or_ge j 712 with q | q
  · exact sOkc sOk_711 j (by omega) (by omega)
  rcases Nat.lt_or_ge j 720 with q | q
  · exact sOkc sOk_712 j (by omega) (by omega)
  rcases Nat.lt_or_ge j 726 with q | q
  · exact sOkc sOk_720 j (by omega) (by omega)
  rcases Nat.lt_or_ge j 732 with q | q
  · exact sOkc sOk_726 j (by omega) (by omega)
  rcases Nat.lt_or_ge j 738 with q | q
  · exact sOkc sOk_732 j (by omega) (by omega)
  rcases Nat.lt_or_ge j 744 with q | q
  · exact sOkc sOk_738 j (by omega) (by omega)
  rcases Nat.lt_or_ge j 750 with q | q
  · exact sOkc sOk_744 j (by omega) (by omega)
  rcases Nat.lt_or_ge j 753 with q | q
  · exact sOkc sOk_750 j (by omega) (by omega)
  rcases Nat.lt_or_ge j 762 with q | q
  · exact sOkc sOk_753 j (by omega) (by omega)
  rcases Nat.lt_or_ge j 771 with q | q
  · exact sOkc sOk_762 j (by omega) (by omega)
  exact sOkc sOk_771 j (by omega) (by omega)
theorem sBlk {α : Type} {l : List α} {f : α → Bool} {P : Nat} (h : ∀ i, i < P → ((l.drop (100 * i)).take 100).all f = true) (hl : l.length ≤ 100 * P) : ∀ x ∈ l, f x = true := by
  intro x hx
  obtain ⟨j, hj⟩ := List.getElem?_of_mem hx
  have hlt := (List.getElem?_eq_some_iff.mp hj).1
  have h1 := h (j / 100) (by omega)
  refine List.all_eq_true.mp h1 x (List.mem_of_getElem? (i := j % 100) ?_)
  rw [List.getElem?_take, if_pos (Nat.mod_lt _ (by decide)), List.getElem?_drop, show 100 * (j / 100) + j % 100 = j by omega]
  exact hj
theorem sOk_m (k : Nat) (hk : k < 258) (q : sMt) (hq : sM k = some q) : sChkM q = true ∧ ∀ e ∈ mT q, sChkE q e = true := by
  have h0 := sOk_all (3 * k) (by omega)
  have h1 := sOk_all (3 * k + 1) (by omega)
  have h2 := sOk_all (3 * k + 2) (by omega)
  unfold sOkp at h0 h1 h2
  rw [show 3 * k / 3 = k by omega, show 3 * k % 3 = 0 by omega, hq] at h0
  rw [show (3 * k + 1) / 3 = k by omega, show (3 * k + 1) % 3 = 1 by omega, hq] at h1
  rw [show (3 * k + 2) / 3 = k by omega, show (3 * k + 2) % 3 = 2 by omega, hq] at h2
  simp only [Bool.and_eq_true] at h0 h1 h2
  obtain ⟨h00, h01⟩ := h0
  have h3 : sChkM q = true ∧ (mT q).length ≤ 300 := by
    rw [show ((0 : Nat) != 0) = false from rfl, Bool.false_or, Bool.and_eq_true, decide_eq_true_eq] at h00
    exact h00
  refine ⟨h3.1, sBlk (P := 3) (fun i hi => ?_) h3.2⟩
  match i, hi with
  | 0, _ => exact h01
  | 1, _ => exact h1.2
  | 2, _ => exact h2.2
theorem sOk_law (q : sMt) (hq : sM 258 = some q) : ∀ e ∈ mT q, sChkE q e = true := by
  have key : ∀ i, i < 11 → sOkL i = true := by
    intro i hi
    match i, hi with
    | 0, _ => exact sOkL_0
    | 1, _ => exact sOkL_1
    | 2, _ => exact sOkL_2
    | 3, _ => exact sOkL_3
    | 4, _ => exact sOkL_4
    | 5, _ => exact sOkL_5
    | 6, _ => exact sOkL_6
    | 7, _ => exact sOkL_7
    | 8, _ => exact sOkL_8
    | 9, _ => exact sOkL_9
    | 10, _ => exact sOkL_10
  refine sBlk (P := 11) (fun i hi => ?_) ?_
  · have h := key i hi
    unfold sOkL at h
    rw [hq] at h
    exact (Bool.and_eq_true _ _ ▸ h).2
  · have h := key 0 (by decide)
    unfold sOkL at h
    rw [hq] at h
    exact of_decide_eq_true (Bool.and_eq_true _ _ ▸ h).1
