/-! ===== the pair row ===== -/
theorem pr_box {c1 c2 : bCn} {v : Int} {as : List Value} (h1 : bHolds c1) (h2 : bHolds c2) (d1 : Nat.ble c1.2.1 10 = true) (d2 : Nat.ble c2.2.1 10 = true) (g1 : Nat.ble c1.2.2.2.2.2.1 1 = true) (g2 : Nat.ble c2.2.2.2.2.2.1 1 = true) (w1 : ∀ b ∈ bRM, c1.2.2.2.2.1.testBit b = false) (w2 : ∀ b ∈ bRM, c2.2.2.2.2.1.testBit b = false) (o1 : c1.2.2.2.1 = []) (o2 : c2.2.2.2.1 = []) (p1 : c1.2.2.2.2.2.2 = [(some (.inl (v, v)), [])]) (p2 : c2.2.2.2.2.2.2 = [(some (.inl (v, v)), [])]) (t1 : ∀ h, bH h → bTl h c1.2.2.1 (.ref 0 :: as)) (t2 : ∀ h, bH h → bTl h c2.2.2.1 (.ref 60 :: as)) : bPair c1.1 c2.1 as := by
  intro h hH hR
  have use : ∀ (c : bCn) (vs : List Value) (h : sHp), bHolds c → Nat.ble c.2.1 10 = true → Nat.ble c.2.2.2.2.2.1 1 = true → (∀ b ∈ bRM, c.2.2.2.2.1.testBit b = false) → c.2.2.2.1 = [] → c.2.2.2.2.2.2 = [(some (.inl (v, v)), [])] → bTl h c.2.2.1 vs → bH h → bR5 h → sDo 10 c.1 vs h (fun r h' => bH h' ∧ h'.length ≤ h.length + 1 ∧ bR5 h' ∧ r = some (.int (Int32.ofInt v))) := by
    intro c vs h hc hd hg hw ho hp ht hH hR
    refine sDo_up (Nat.le_of_ble_eq_true hd) (sDo_mono (hc h vs hH ht (by rw [ho]; exact fun e he => by cases he)) (fun r h' hen => ?_))
    obtain ⟨a, b, po, hpo, hr, -⟩ := hen
    rw [hp] at hpo
    cases List.mem_singleton.mp hpo
    obtain ⟨w, rfl, x, rfl, x1, x2⟩ := hr
    have hl := b.2.1
    have hg' := Nat.le_of_ble_eq_true hg
    refine ⟨a, by omega, bR5_fr b hw hR, ?_⟩
    rw [← show x.toInt = v by omega, Int32.ofInt_toInt]
  refine sDo_mono (use c1 _ h h1 d1 g1 w1 o1 p1 (t1 h hH) hH hR) (fun r1 h1' q => ?_)
  obtain ⟨q1, q2, q3, rfl⟩ := q
  refine ⟨q1, q2, sDo_mono (use c2 _ h1' h2 d2 g2 w2 o2 p2 (t2 h1' q1) q1 q3) (fun r2 h2' z => ?_)⟩
  exact ⟨z.1, z.2.1, z.2.2.1, _, rfl, z.2.2.2⟩
theorem pr_row (x0 x1 x2 : Int32) : bPair 114 178 [.int x0, .int x1, .int x2] := by
  have fx0 : (-2147483648 : Int) ≤ x0.toInt ∧ x0.toInt ≤ 2147483647 := aFull_ok x0
  have fx1 : (-2147483648 : Int) ≤ x1.toInt ∧ x1.toInt ≤ 2147483647 := aFull_ok x1
  have fx2 : (-2147483648 : Int) ≤ x2.toInt ∧ x2.toInt ≤ 2147483647 := aFull_ok x2
  rcases (show (-2147483648 ≤ x0.toInt ∧ x0.toInt ≤ -1) ∨ (0 ≤ x0.toInt ∧ x0.toInt ≤ 7) ∨ (8 ≤ x0.toInt ∧ x0.toInt ≤ 2147483647) by omega) with hx0 | hx0 | hx0
  · skip
    rcases (show (-2147483648 ≤ x1.toInt ∧ x1.toInt ≤ -1) ∨ (0 ≤ x1.toInt ∧ x1.toInt ≤ 3) ∨ (4 ≤ x1.toInt ∧ x1.toInt ≤ 2147483647) by omega) with hx1 | hx1 | hx1
    · skip
      rcases (show (-2147483648 ≤ x2.toInt ∧ x2.toInt ≤ -1) ∨ (0 ≤ x2.toInt ∧ x2.toInt ≤ 100) ∨ (101 ≤ x2.toInt ∧ x2.toInt ≤ 2147483647) by omega) with hx2 | hx2 | hx2
      · skip
        exact pr_box (v := .negSucc 0) ch_X11_row_1 ch_X12_row_1 (by decide +kernel) (by decide +kernel) (by decide +kernel) (by decide +kernel) (by decide +kernel) (by decide +kernel) rfl rfl rfl rfl (fun h hH => ⟨bt0 hH, bti hx0.1 hx0.2, bti hx1.1 hx1.2, bti hx2.1 hx2.2, trivial⟩) (fun h hH => ⟨bt60 hH, bti hx0.1 hx0.2, bti hx1.1 hx1.2, bti hx2.1 hx2.2, trivial⟩)
      · skip
        exact pr_box (v := .negSucc 0) ch_X11_row_2 ch_X12_row_2 (by decide +kernel) (by decide +kernel) (by decide +kernel) (by decide +kernel) (by decide +kernel) (by decide +kernel) rfl rfl rfl rfl (fun h hH => ⟨bt0 hH, bti hx0.1 hx0.2, bti hx1.1 hx1.2, bti hx2.1 hx2.2, trivial⟩) (fun h hH => ⟨bt60 hH, bti hx0.1 hx0.2, bti hx1.1 hx1.2, bti hx2.1 hx2.2, trivial⟩)
      · skip
        exact pr_box (v := .negSucc 0) ch_X11_row_3 ch_X12_row_3 (by decide +kernel) (by decide +kernel) (by decide +kernel) (by decide +kernel) (by decide +kernel) (by decide +kernel) rfl rfl rfl rfl (fun h hH => ⟨bt0 hH, bti hx0.1 hx0.2, bti hx1.1 hx1.2, bti hx2.1 hx2.2, trivial⟩) (fun h hH => ⟨bt60 hH, bti hx0.1 hx0.2, bti hx1.1 hx1.2, bti hx2.1 hx2.2, trivial⟩)
    · skip
      rcases (show (-2147483648 ≤ x2.toInt ∧ x2.toInt ≤ -1) ∨ (0 ≤ x2.toInt ∧ x2.toInt ≤ 100) ∨ (101 ≤ x2.toInt ∧ x2.toInt ≤ 2147483647) by omega) with hx2 | hx2 | hx2
      · skip
        exact pr_box (v := .negSucc 0) ch_X11_row_4 ch_X12_row_4 (by decide +kernel) (by decide +kernel) (by decide +kernel) (by decide +kernel) (by decide +kernel) (by decide +kernel) rfl rfl rfl rfl (fun h hH => ⟨bt0 hH, bti hx0.1 hx0.2, bti hx1.1 hx1.2, bti hx2.1 hx2.2, trivial⟩) (fun h hH => ⟨bt60 hH, bti hx0.1 hx0.2, bti hx1.1 hx1.2, bti hx2.1 hx2.2, trivial⟩)
      · skip
        exact pr_box (v := .negSucc 0) ch_X11_row_5 ch_X12_row_5 (by decide +kernel) (by decide +kernel) (by decide +kernel) (by decide +kernel) (by decide +kernel) (by decide +kernel) rfl rfl rfl rfl (fun h hH => ⟨bt0 hH, bti hx0.1 hx0.2, bti hx1.1 hx1.2, bti hx2.1 hx2.2, trivial⟩) (fun h hH => ⟨bt60 hH, bti hx0.1 hx0.2, bti hx1.1 hx1.2, bti hx2.1 hx2.2, trivial⟩)
      · skip
        exact pr_box (v := .negSucc 0) ch_X11_row_6 ch_X12_row_6 (by decide +kernel) (by decide +kernel) (by decide +kernel) (by decide +kernel) (by decide +kernel) (by decide +kernel) rfl rfl rfl rfl (fun h hH => ⟨bt0 hH, bti hx0.1 hx0.2, bti hx1.1 hx1.2, bti hx2.1 hx2.2, trivial⟩) (fun h hH => ⟨bt60 hH, bti hx0.1 hx0.2, bti hx1.1 hx1.2, bti hx2.1 hx2.2, trivial⟩)
    · skip
      rcases (show (-2147483648 ≤ x2.toInt ∧ x2.toInt ≤ -1) ∨ (0 ≤ x2.toInt ∧ x2.toInt ≤ 100) ∨ (101 ≤ x2.toInt ∧ x2.toInt ≤ 2147483647) by omega) with hx2 | hx2 | hx2
      · skip
        exact pr_box (v := .negSucc 0) ch_X11_row_7 ch_X12_row_7 (by decide +kernel) (by decide +kernel) (by decide +kernel) (by decide +kernel) (by decide +kernel) (by decide +kernel) rfl rfl rfl rfl (fun h hH => ⟨bt0 hH, bti hx0.1 hx0.2, bti hx1.1 hx1.2, bti hx2.1 hx2.2, trivial⟩) (fun h hH => ⟨bt60 hH, bti hx0.1 hx0.2, bti hx1.1 hx1.2, bti hx2.1 hx2.2, trivial⟩)
      · skip
        exact pr_box (v := .negSucc 0) ch_X11_row_8 ch_X12_row_8 (by decide +kernel) (by decide +kernel) (by decide +kernel) (by decide +kernel) (by decide +kernel) (by decide +kernel) rfl rfl rfl rfl (fun h hH => ⟨bt0 hH, bti hx0.1 hx0.2, bti hx1.1 hx1.2, bti hx2.1 hx2.2, trivial⟩) (fun h hH => ⟨bt60 hH, bti hx0.1 hx0.2, bti hx1.1 hx1.2, bti hx2.1 hx2.2, trivial⟩)
      · skip
        exact pr_box (v := .negSucc 0) ch_X11_row_9 ch_X12_row_9 (by decide +kernel) (by decide +kernel) (by decide +kernel) (by decide +kernel) (by decide +kernel) (by decide +kernel) rfl rfl rfl rfl (fun h hH => ⟨bt0 hH, bti hx0.1 hx0.2, bti hx1.1 hx1.2, bti hx2.1 hx2.2, trivial⟩) (fun h hH => ⟨bt60 hH, bti hx0.1 hx0.2, bti hx1.1 hx1.2, bti hx2.1 hx2.2, trivial⟩)
  · skip
    rcases (show (-2147483648 ≤ x1.toInt ∧ x1.toInt ≤ -1) ∨ (0 ≤ x1.toInt ∧ x1.toInt ≤ 3) ∨ (4 ≤ x1.toInt ∧ x1.toInt ≤ 2147483647) by omega) with hx1 | hx1 | hx1
    · skip
      rcases (show (-2147483648 ≤ x2.toInt ∧ x2.toInt ≤ -1) ∨ (0 ≤ x2.toInt ∧ x2.toInt ≤ 100) ∨ (101 ≤ x2.toInt ∧ x2.toInt ≤ 2147483647) by omega) with hx2 | hx2 | hx2
      · skip
        exact pr_box (v := .negSucc 3) ch_X11_row_10 ch_X12_row_10 (by decide +kernel) (by decide +kernel) (by decide +kernel) (by decide +kernel) (by decide +kernel) (by decide +kernel) rfl rfl rfl rfl (fun h hH => ⟨bt0 hH, bti hx0.1 hx0.2, bti hx1.1 hx1.2, bti hx2.1 hx2.2, trivial⟩) (fun h hH => ⟨bt60 hH, bti hx0.1 hx0.2, bti hx1.1 hx1.2, bti hx2.1 hx2.2, trivial⟩)
      · skip
        exact pr_box (v := .negSucc 5) ch_X11_row_11 ch_X12_row_11 (by decide +kernel) (by decide +kernel) (by decide +kernel) (by decide +kernel) (by decide +kernel) (by decide +kernel) rfl rfl rfl rfl (fun h hH => ⟨bt0 hH, bti hx0.1 hx0.2, bti hx1.1 hx1.2, bti hx2.1 hx2.2, trivial⟩) (fun h hH => ⟨bt60 hH, bti hx0.1 hx0.2, bti hx1.1 hx1.2, bti hx2.1 hx2.2, trivial⟩)
      · skip
        exact pr_box (v := .negSucc 5) ch_X11_row_12 ch_X12_row_12 (by decide +kernel) (by decide +kernel) (by decide +kernel) (by decide +kernel) (by decide +kernel) (by decide +kernel) rfl rfl rfl rfl (fun h hH => ⟨bt0 hH, bti hx0.1 hx0.2, bti hx1.1 hx1.2, bti hx2.1 hx2.2, trivial⟩) (fun h hH => ⟨bt60 hH, bti hx0.1 hx0.2, bti hx1.1 hx1.2, bti hx2.1 hx2.2, trivial⟩)
    · skip
      rcases (show (-2147483648 ≤ x2.toInt ∧ x2.toInt ≤ -1) ∨ (0 ≤ x2.toInt ∧ x2.toInt ≤ 100) ∨ (101 ≤ x2.toInt ∧ x2.toInt ≤ 2147483647) by omega) with hx2 | hx2 | hx2
      · skip
        exact pr_box (v := .negSucc 3) ch_X11_row_13 ch_X12_row_13 (by decide +kernel) (by decide +kernel) (by decide +kernel) (by decide +kernel) (by decide +kernel) (by decide +kernel) rfl rfl rfl rfl (fun h hH => ⟨bt0 hH, bti hx0.1 hx0.2, bti hx1.1 hx1.2, bti hx2.1 hx2.2, trivial⟩) (fun h hH => ⟨bt60 hH, bti hx0.1 hx0.2, bti hx1.1 hx1.2, bti hx2.1 hx2.2, trivial⟩)
      · skip
        obtain ⟨S, hS⟩ : ∃ S : Nat, x0.toInt = S := ⟨x0.toInt.toNat, by omega⟩
        exact pair_of (pRow x0 x1 x2 S) (fun h hH => pr_use ch_X11_row_14 (by decide +kernel) (by decide +kernel) rfl hH ⟨bt0 hH, bti hx0.1 hx0.2, bti hx1.1 hx1.2, bti hx2.1 hx2.2, trivial⟩) (fun h hH => pr_use ch_X12_row_14 (by decide +kernel) (by decide +kernel) rfl hH ⟨bt60 hH, bti hx0.1 hx0.2, bti hx1.1 hx1.2, bti hx2.1 hx2.2, trivial⟩) (fun h hH hR => s_row11 hH hR hS (by omega) hx1.1 hx1.2 hx2.1 hx2.2) (fun h h1 x hH hH1 hP => s_row12 hH1 hP hS (by omega) hx1.1 hx1.2 hx2.1 hx2.2)
      · skip
        exact pr_box (v := .negSucc 6) ch_X11_row_15 ch_X12_row_15 (by decide +kernel) (by decide +kernel) (by decide +kernel) (by decide +kernel) (by decide +kernel) (by decide +kernel) rfl rfl rfl rfl (fun h hH => ⟨bt0 hH, bti hx0.1 hx0.2, bti hx1.1 hx1.2, bti hx2.1 hx2.2, trivial⟩) (fun h hH => ⟨bt60 hH, bti hx0.1 hx0.2, bti hx1.1 hx1.2, bti hx2.1 hx2.2, trivial⟩)
    · skip
      rcases (show (-2147483648 ≤ x2.toInt ∧ x2.toInt ≤ -1) ∨ (0 ≤ x2.toInt ∧ x2.toInt ≤ 100) ∨ (101 ≤ x2.toInt ∧ x2.toInt ≤ 2147483647) by omega) with hx2 | hx2 | hx2
      · skip
        exact pr_box (v := .negSucc 3) ch_X11_row_16 ch_X12_row_16 (by decide +kernel) (by decide +kernel) (by decide +kernel) (by decide +kernel) (by decide +kernel) (by decide +kernel) rfl rfl rfl rfl (fun h hH => ⟨bt0 hH, bti hx0.1 hx0.2, bti hx1.1 hx1.2, bti hx2.1 hx2.2, trivial⟩) (fun h hH => ⟨bt60 hH, bti hx0.1 hx0.2, bti hx1.1 hx1.2, bti hx2.1 hx2.2, trivial⟩)
      · skip
        exact pr_box (v := .negSucc 5) ch_X11_row_17 ch_X12_row_17 (by decide +kernel) (by decide +kernel) (by decide +kernel) (by decide +kernel) (by decide +kernel) (by decide +kernel) rfl rfl rfl rfl (fun h hH => ⟨bt0 hH, bti hx0.1 hx0.2, bti hx1.1 hx1.2, bti hx2.1 hx2.2, trivial⟩) (fun h hH => ⟨bt60 hH, bti hx0.1 hx0.2, bti hx1.1 hx1.2, bti hx2.1 hx2.2, trivial⟩)
      · skip
        exact pr_box (v := .negSucc 5) ch_X11_row_18 ch_X12_row_18 (by decide +kernel) (by decide +kernel) (by decide +kernel) (by decide +kernel) (by decide +kernel) (by decide +kernel) rfl rfl rfl rfl (fun h hH => ⟨bt0 hH, bti hx0.1 hx0.2, bti hx1.1 hx1.2, bti hx2.1 hx2.2, trivial⟩) (fun h hH => ⟨bt60 hH, bti hx0.1 hx0.2, bti hx1.1 hx1.2, bti hx2.1 hx2.2, trivial⟩)
  · skip
    rcases (show (-2147483648 ≤ x1.toInt ∧ x1.toInt ≤ -1) ∨ (0 ≤ x1.toInt ∧ x1.toInt ≤ 3) ∨ (4 ≤ x1.toInt ∧ x1.toInt ≤ 2147483647) by omega) with hx1 | hx1 | hx1
    · skip
      rcases (show (-2147483648 ≤ x2.toInt ∧ x2.toInt ≤ -1) ∨ (0 ≤ x2.toInt ∧ x2.toInt ≤ 100) ∨ (101 ≤ x2.toInt ∧ x2.toInt ≤ 2147483647) by omega) with hx2 | hx2 | hx2
      · skip
        exact pr_box (v := .negSucc 0) ch_X11_row_19 ch_X12_row_19 (by decide +kernel) (by decide +kernel) (by decide +kernel) (by decide +kernel) (by decide +kernel) (by decide +kernel) rfl rfl rfl rfl (fun h hH => ⟨bt0 hH, bti hx0.1 hx0.2, bti hx1.1 hx1.2, bti hx2.1 hx2.2, trivial⟩) (fun h hH => ⟨bt60 hH, bti hx0.1 hx0.2, bti hx1.1 hx1.2, bti hx2.1 hx2.2, trivial⟩)
      · skip
        exact pr_box (v := .negSucc 0) ch_X11_row_20 ch_X12_row_20 (by decide +kernel) (by decide +kernel) (by decide +kernel) (by decide +kernel) (by decide +kernel) (by decide +kernel) rfl rfl rfl rfl (fun h hH => ⟨bt0 hH, bti hx0.1 hx0.2, bti hx1.1 hx1.2, bti hx2.1 hx2.2, trivial⟩) (fun h hH => ⟨bt60 hH, bti hx0.1 hx0.2, bti hx1.1 hx1.2, bti hx2.1 hx2.2, trivial⟩)
      · skip
        exact pr_box (v := .negSucc 0) ch_X11_row_21 ch_X12_row_21 (by decide +kernel) (by decide +kernel) (by decide +kernel) (by decide +kernel) (by decide +kernel) (by decide +kernel) rfl rfl rfl rfl (fun h hH => ⟨bt0 hH, bti hx0.1 hx0.2, bti hx1.1 hx1.2, bti hx2.1 hx2.2, trivial⟩) (fun h hH => ⟨bt60 hH, bti hx0.1 hx0.2, bti hx1.1 hx1.2, bti hx2.1 hx2.2, trivial⟩)
    · skip
      rcases (show (-2147483648 ≤ x2.toInt ∧ x2.toInt ≤ -1) ∨ (0 ≤ x2.toInt ∧ x2.toInt ≤ 100) ∨ (101 ≤ x2.toInt ∧ x2.toInt ≤ 2147483647) by omega) with hx2 | hx2 | hx2
      · skip
        exact pr_box (v := .negSucc 0) ch_X11_row_22 ch_X12_row_22 (by decide +kernel) (by decide +kernel) (by decide +kernel) (by decide +kernel) (by decide +kernel) (by decide +kernel) rfl rfl rfl rfl (fun h hH => ⟨bt0 hH, bti hx0.1 hx0.2, bti hx1.1 hx1.2, bti hx2.1 hx2.2, trivial⟩) (fun h hH => ⟨bt60 hH, bti hx0.1 hx0.2, bti hx1.1 hx1.2, bti hx2.1 hx2.2, trivial⟩)
      · skip
        exact pr_box (v := .negSucc 0) ch_X11_row_23 ch_X12_row_23 (by decide +kernel) (by decide +kernel) (by decide +kernel) (by decide +kernel) (by decide +kernel) (by decide +kernel) rfl rfl rfl rfl (fun h hH => ⟨bt0 hH, bti hx0.1 hx0.2, bti hx1.1 hx1.2, bti hx2.1 hx2.2, trivial⟩) (fun h hH => ⟨bt60 hH, bti hx0.1 hx0.2, bti hx1.1 hx1.2, bti hx2.1 hx2.2, trivial⟩)
      · skip
        exact pr_box (v := .negSucc 0) ch_X11_row_24 ch_X12_row_24 (by decide +kernel) (by decide +kernel) (by decide +kernel) (by decide +kernel) (by decide +kernel) (by decide +kernel) rfl rfl rfl rfl (fun h hH => ⟨bt0 hH, bti hx0.1 hx0.2, bti hx1.1 hx1.2, bti hx2.1 hx2.2, trivial⟩) (fun h hH => ⟨bt60 hH, bti hx0.1 hx0.2, bti hx1.1 hx1.2, bti hx2.1 hx2.2, trivial⟩)
    · skip
      rcases (show (-2147483648 ≤ x2.toInt ∧ x2.toInt ≤ -1) ∨ (0 ≤ x2.toInt ∧ x2.toInt ≤ 100) ∨ (101 ≤ x2.toInt ∧ x2.toInt ≤ 2147483647) by omega) with hx2 | hx2 | hx2
      · skip
        exact pr_box (v := .negSucc 0) ch_X11_row_25 ch_X12_row_25 (by decide +kernel) (by decide +kernel) (by decide +kernel) (by decide +kernel) (by decide +kernel) (by decide +kernel) rfl rfl rfl rfl (fun h hH => ⟨bt0 hH, bti hx0.1 hx0.2, bti hx1.1 hx1.2, bti hx2.1 hx2.2, trivial⟩) (fun h hH => ⟨bt60 hH, bti hx0.1 hx0.2, bti hx1.1 hx1.2, bti hx2.1 hx2.2, trivial⟩)
      · skip
        exact pr_box (v := .negSucc 0) ch_X11_row_26 ch_X12_row_26 (by decide +kernel) (by decide +kernel) (by decide +kernel) (by decide +kernel) (by decide +kernel) (by decide +kernel) rfl rfl rfl rfl (fun h hH => ⟨bt0 hH, bti hx0.1 hx0.2, bti hx1.1 hx1.2, bti hx2.1 hx2.2, trivial⟩) (fun h hH => ⟨bt60 hH, bti hx0.1 hx0.2, bti hx1.1 hx1.2, bti hx2.1 hx2.2, trivial⟩)
      · skip
        exact pr_box (v := .negSucc 0) ch_X11_row_27 ch_X12_row_27 (by decide +kernel) (by decide +kernel) (by decide +kernel) (by decide +kernel) (by decide +kernel) (by decide +kernel) rfl rfl rfl rfl (fun h hH => ⟨bt0 hH, bti hx0.1 hx0.2, bti hx1.1 hx1.2, bti hx2.1 hx2.2, trivial⟩) (fun h hH => ⟨bt60 hH, bti hx0.1 hx0.2, bti hx1.1 hx1.2, bti hx2.1 hx2.2, trivial⟩)
