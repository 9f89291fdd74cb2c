theorem sOk_726 : (List.range' 726 45).all sOkp = true := by decide +kernel
theorem sOk_771 : (List.range' 771 3).all sOkp = true := by decide +kernel
def sOkL (i : Nat) : Bool := match sM 258 with
  | some q => decide ((mT q).length ≤ 1100) && sWq q (((mT q).drop (100 * i)).take 100)
  | none => false
theorem sOkL_0 : sOkL 0 = true := by decide +kernel
theorem sOkL_1 : sOkL 1 = true := by decide +kernel
theorem sOkL_2 : sOkL 2 = true := by decide +kernel
theorem sOkL_3 : sOkL 3 = true := by decide +kernel
theorem sOkL_4 : sOkL 4 = true := by decide +kernel
theorem sOkL_5 : sOkL 5 = true := by decide +kernel
theorem sOkL_6 : sOkL 6 = true := by decide +kernel
theorem sOkL_7 : sOkL 7 = true := by decide +kernel
theorem sOkL_8 : sOkL 8 = true := by decide +kernel
theorem sOkL_9 : sOkL 9 = true := by decide +kernel
theorem sOkL_10 : sOkL 10 = true := by decide +kernel
theorem sOk_all (j : Nat) (h : j < 774) : sOkp j = true := by
  rcases Nat.lt_or_ge j 108 with q | q
  · exact sOkc sOk_0 j (by omega) (by omega)
  rcases Nat.lt_or_ge j 189 with q | q
  · exact sOkc sOk_108 j (by omega) (by omega)
  rcases Nat.lt_or_ge j 276 with q | q
  · exact sOkc sOk_189 j (by omega) (by omega)
  rcases Nat.lt_or_ge j 339 with q | q
  · exact sOkc sOk_276 j (by omega) (by omega)
  rcases Nat.lt_or_ge j 402 with q | q
  · exact sOkc sOk_339 j (by omega) (by omega)
  rcases Nat.lt_or_ge j 459 with q | q
  · exact sOkc sOk_402 j (by omega) (by omega)
  rcases Nat.lt_or_ge j 525 with q | q
  · exact sOkc sOk_459 j (by omega) (by omega)
  rcases Nat.lt_or_ge j 567 with q | q
  · exact sOkc sOk_525 j (by omega) (by omega)
  rcases Nat.lt_or_ge j 603 with q | q
  · exact sOkc sOk_567 j (by omega) (by omega)
  rcases Nat.lt_or_ge j 651 with q | q
  · exact sOkc sOk_603 j (by omega) (by omega)
  rcases Nat.lt_or_ge j 696 with q | q
  · exact sOkc sOk_651 j (by omega) (by omega)
  rcases Nat.lt_or_ge j 726 with q | q
  · exact sOkc sOk_696 j (by omega) (by omega)
  rcases Nat.lt_or_ge j 771 with q | q
  · exact sOkc sOk_726 j (by omega) (by omega)
  exact sOkc sOk_771 j (by omega) (by omega)
theorem sBlk {α : Type} {l : List α} {f : α → Bool} {P : Nat} (h : ∀ i, i < P → ((l.drop (100 * i)).take 100).all f = true) (hl : l.length ≤ 100 * P) : ∀ x ∈ l, f x = true := by
  intro x hx
  obtain ⟨j, hj⟩ := List.getElem?_of_mem hx
  have hlt := (List.getElem?_eq_some_iff.mp hj).1
  have h1 := h (j / 100) (by omega)
  refine List.all_eq_true.mp h1 x (List.mem_of_getElem? (i := j % 100) ?_)
  rw [List.getElem?_take, if_pos (Nat.mod_lt _ (by decide)), List.getElem?_drop, show 100 * (j / 100) + j % 100 = j by omega]
  exact hj
theorem sOk_m (k : Nat) (hk : k < 258) (q : sMt) (hq : sM k = some q) : sChkM q = true ∧ ∀ e ∈ mT q, sChkE q e = true := by
  have h0 := sOk_all (3 * k) (by omega)
  have h1 := sOk_all (3 * k + 1) (by omega)
  have h2 := sOk_all (3 * k + 2) (by omega)
  unfold sOkp at h0 h1 h2
  rw [show 3 * k / 3 = k by omega, show 3 * k % 3 = 0 by omega, hq] at h0
  rw [show (3 * k + 1) / 3 = k by omega, show (3 * k + 1) % 3 = 1 by omega, hq] at h1
  rw [show (3 * k + 2) / 3 = k by omega, show (3 * k + 2) % 3 = 2 by omega, hq] at h2
  simp only [Bool.and_eq_true] at h0 h1 h2
  obtain ⟨h00, h01⟩ := h0
  have h3 : sChkN q = true ∧ (mT q).length ≤ 300 := by
    rw [show ((0 : Nat) != 0) = false from rfl, Bool.false_or, Bool.and_eq_true, decide_eq_true_eq] at h00
    exact h00
  refine ⟨sChkN_ok h3.1, sBlk (P := 3) (fun i hi => ?_) h3.2⟩
  match i, hi with
  | 0, _ => exact sWk_0 h01
  | 1, _ => exact sWk_0 h1.2
  | 2, _ => exact sWk_0 h2.2
theorem sOk_law (q : sMt) (hq : sM 258 = some q) : ∀ e ∈ mT q, sChkE q e = true := by
  have key : ∀ i, i < 11 → sOkL i = true := by
    intro i hi
    match i, hi with
    | 0, _ => exact sOkL_0
    | 1, _ => exact sOkL_1
    | 2, _ => exact sOkL_2
    | 3, _ => exact sOkL_3
    | 4, _ => exact sOkL_4
    | 5, _ => exact sOkL_5
    | 6, _ => exact sOkL_6
    | 7, _ => exact sOkL_7
    | 8, _ => exact sOkL_8
    | 9, _ => exact sOkL_9
    | 10, _ => exact sOkL_10
  refine sBlk (P := 11) (fun i hi => ?_) ?_
  · have h := key i hi
    unfold sOkL at h
    rw [hq] at h
    exact sWk_0 (Bool.and_eq_true _ _ ▸ h).2
  · have h := key 0 (by decide)
    unfold sOkL at h
    rw [hq] at h
    exact of_decide_eq_true (Bool.and_eq_true _ _ ▸ h).1
