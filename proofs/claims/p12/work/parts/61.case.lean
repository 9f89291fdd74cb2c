/-! ===== the compared case ===== -/
set_option maxRecDepth 100000 in
theorem lw_case : lwCase 590 := by
  intro L xs h i hL i0 i6 hH ih
  obtain ⟨v, h11, h12⟩ := bx_like (xs (i + Int32.ofInt 1).toNatClampNeg) (xs (i + Int32.ofInt 2).toNatClampNeg)
  obtain ⟨fs, hf, -⟩ := bFldK hH (p := 0) (by decide) rfl
  unfold lwV
  have e1 : (Int32.ofInt 1).toInt = 1 := rfl
  have a1 : (i + Int32.ofInt 1).toInt = i.toInt + 1 := by rw [i_add (by omega) (by omega), e1]
  have e2 : (Int32.ofInt 2).toInt = 2 := rfl
  have a2 : (i + Int32.ofInt 2).toInt = i.toInt + 2 := by rw [i_add (by omega) (by omega), e2]
  refine g_aload_n (i := 1) rfl rfl ?_
  refine g_aload_n (i := 0) rfl rfl ?_
  refine g_iload_n (i := 3) rfl rfl ?_
  refine g_iconst (n := 1) rfl ?_
  refine g_iadd rfl ?_
  refine g_scrI rfl (by omega) (by omega) ?_
  refine g_aload_n (i := 0) rfl rfl ?_
  refine g_iload_n (i := 3) rfl rfl ?_
  refine g_iconst (n := 2) rfl ?_
  refine g_iadd rfl ?_
  refine g_scrI rfl (by omega) (by omega) ?_
  refine g_virt2 (Qc := fun r h' => (∃ x : Int32, r = some (.int x) ∧ x.toInt = v) ∧ bH h' ∧ bFr bWA 0 h h') rfl (by decide) rfl hf rfl (Nat.le_of_ble_eq_true rfl) (h11 _ hH) (fun r h1 hq => ?_)
  obtain ⟨⟨y1, rfl, v1⟩, hH1, hF1⟩ := hq
  obtain ⟨fs6, hf6, -⟩ := bObj60 hH1
  refine g_aload_n (i := 2) rfl rfl ?_
  refine g_aload_n (i := 0) rfl rfl ?_
  refine g_iload_n (i := 3) rfl rfl ?_
  refine g_iconst (n := 1) rfl ?_
  refine g_iadd rfl ?_
  refine g_scrI rfl (by omega) (by omega) ?_
  refine g_aload_n (i := 0) rfl rfl ?_
  refine g_iload_n (i := 3) rfl rfl ?_
  refine g_iconst (n := 2) rfl ?_
  refine g_iadd rfl ?_
  refine g_scrI rfl (by omega) (by omega) ?_
  refine g_virt2 (Qc := fun r h' => (∃ x : Int32, r = some (.int x) ∧ x.toInt = v) ∧ bH h' ∧ bFr bWA 0 h1 h') rfl (by decide) rfl hf6 rfl (Nat.le_of_ble_eq_true rfl) (h12 _ hH1) (fun r h2 hq => ?_)
  obtain ⟨⟨y2, rfl, v2⟩, hH2, hF2⟩ := hq
  have hlen := bFr_trans hF1 hF2
  refine g_icmp_eq 1565 rfl rfl (fun hc => ?_) (fun hc => ?_)
  · skip
    refine g_iinc (i := 3) (L1 := [some (.ref 1000000), some (.ref 0), some (.ref 60), some (.int (i + Int32.ofInt 6))]) rfl rfl rfl ?_
    refine g_goto 18 rfl rfl ?_
    have e6 : (Int32.ofInt 6).toInt = 6 := rfl
    exact ih h2 _ hH2 (by have := hlen.2.1; omega) (by rw [i_add (by omega) (by omega), e6])
  · skip
    exact absurd (Int32.toInt_inj.mp (v1.trans v2.symm)) hc
theorem s_all (L : Nat) (xs : Nat → Int32) (hL : L ≤ 3072) : sLawGo L xs := law_all lw_case hL
