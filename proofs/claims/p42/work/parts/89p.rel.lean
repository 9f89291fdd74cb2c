/-! ===== the reference: size, heir, image, restore ===== -/
theorem MC_61 {h : sHp} {m : MF} {x : va_E} (M : MC h m) : MC (h.set 61 x) m := by
  obtain ⟨a0, a1, a2, a3, a4, a5⟩ := M
  exact ⟨by rw [s_set_ne (by decide)]; exact a0, by rw [s_set_ne (by decide)]; exact a1, by rw [s_set_ne (by decide)]; exact a2, by rw [s_set_ne (by decide)]; exact a3, by rw [s_set_ne (by decide)]; exact a4, by rw [s_set_ne (by decide)]; exact a5⟩
def okSz (x y : Int32) : Prop := 2 ≤ x.toInt ∧ x.toInt ≤ 8 ∧ 2 ≤ y.toInt ∧ y.toInt ≤ 8
theorem s_size12 {h : sHp} {m : MF} {x y : Int32} (hH : bH h) (M : MC h m) : sDo 10 204 [.ref 60, .int x, .int y] h (fun r h' => (okSz x y ∧ r = some (.int 1) ∧ MC h' (mfSize x y m)) ∨ (¬ okSz x y ∧ r = some (.int (-6)) ∧ MC h' m)) := by
  have e2 : (Int32.ofInt 2).toInt = 2 := rfl
  have e8 : (Int8.ofInt 8).toInt32.toInt = 8 := rfl
  unfold okSz
  refine sDo_of (d := 9) (nL := 3) (L := [some (.ref 60), some (.int x), some (.int y)]) rfl rfl ?_
  refine g_iload_n (i := 1) rfl rfl ?_
  refine g_iconst (n := 2) rfl ?_
  refine g_icmp_lt 22 rfl rfl (fun c1 => ?_) (fun c1 => ?_)
  · skip
    rw [i_lt, e2] at c1
    refine g_aload_n (i := 0) rfl rfl ?_
    refine g_bipush (n := (-6)) rfl ?_
    refine g_virt1 (Qc := fun r h' => r = some (.int (-6)) ∧ ∃ R, h' = List.set h 61 (.inl (0, 8, .inl R))) rfl (by decide) rfl M.1 rfl (Nat.le_of_ble_eq_true rfl) (sDo_up (d := 1) (by omega) (s_no (d := 0) hH (by decide) (by decide))) (fun r h8 hq9 => ?_)
    obtain ⟨rfl, R, rfl⟩ := hq9
    refine g_ireturn (ty := .int) rfl rfl rfl ?_
    exact Or.inr ⟨by omega, rfl, MC_61 M⟩
  · skip
    rw [i_lt, e2] at c1
    refine g_iload_n (i := 1) rfl rfl ?_
    refine g_bipush (n := 8) rfl ?_
    refine g_icmp_gt 22 rfl rfl (fun c2 => ?_) (fun c2 => ?_)
    · skip
      rw [i_lt, e8] at c2
      refine g_aload_n (i := 0) rfl rfl ?_
      refine g_bipush (n := (-6)) rfl ?_
      refine g_virt1 (Qc := fun r h' => r = some (.int (-6)) ∧ ∃ R, h' = List.set h 61 (.inl (0, 8, .inl R))) rfl (by decide) rfl M.1 rfl (Nat.le_of_ble_eq_true rfl) (sDo_up (d := 1) (by omega) (s_no (d := 0) hH (by decide) (by decide))) (fun r h8 hq9 => ?_)
      obtain ⟨rfl, R, rfl⟩ := hq9
      refine g_ireturn (ty := .int) rfl rfl rfl ?_
      exact Or.inr ⟨by omega, rfl, MC_61 M⟩
    · skip
      rw [i_lt, e8] at c2
      refine g_iload_n (i := 2) rfl rfl ?_
      refine g_iconst (n := 2) rfl ?_
      refine g_icmp_lt 22 rfl rfl (fun c3 => ?_) (fun c3 => ?_)
      · skip
        rw [i_lt, e2] at c3
        refine g_aload_n (i := 0) rfl rfl ?_
        refine g_bipush (n := (-6)) rfl ?_
        refine g_virt1 (Qc := fun r h' => r = some (.int (-6)) ∧ ∃ R, h' = List.set h 61 (.inl (0, 8, .inl R))) rfl (by decide) rfl M.1 rfl (Nat.le_of_ble_eq_true rfl) (sDo_up (d := 1) (by omega) (s_no (d := 0) hH (by decide) (by decide))) (fun r h8 hq9 => ?_)
        obtain ⟨rfl, R, rfl⟩ := hq9
        refine g_ireturn (ty := .int) rfl rfl rfl ?_
        exact Or.inr ⟨by omega, rfl, MC_61 M⟩
      · skip
        rw [i_lt, e2] at c3
        refine g_iload_n (i := 2) rfl rfl ?_
        refine g_bipush (n := 8) rfl ?_
        refine g_icmp_le 29 rfl rfl (fun c4 => ?_) (fun c4 => ?_)
        · skip
          rw [i_le, e8] at c4
          refine g_aload_n (i := 0) rfl rfl ?_
          refine g_iload_n (i := 1) rfl rfl ?_
          refine g_iload_n (i := 2) rfl rfl ?_
          refine g_virt2 rfl (by decide) rfl M.1 rfl (Nat.le_of_ble_eq_true rfl) (sDo_up (d := 1) (by omega) (s_sizes (d := 0) (x := x) (y := y) M)) (fun r h8 hq => ?_)
          obtain ⟨rfl, q1, q2⟩ := hq
          refine g_iconst (n := 1) rfl ?_
          refine g_ireturn (ty := .int) rfl rfl rfl ?_
          exact Or.inl ⟨by omega, rfl, q1⟩
        · skip
          rw [i_le, e8] at c4
          refine g_aload_n (i := 0) rfl rfl ?_
          refine g_bipush (n := (-6)) rfl ?_
          refine g_virt1 (Qc := fun r h' => r = some (.int (-6)) ∧ ∃ R, h' = List.set h 61 (.inl (0, 8, .inl R))) rfl (by decide) rfl M.1 rfl (Nat.le_of_ble_eq_true rfl) (sDo_up (d := 1) (by omega) (s_no (d := 0) hH (by decide) (by decide))) (fun r h8 hq9 => ?_)
          obtain ⟨rfl, R, rfl⟩ := hq9
          refine g_ireturn (ty := .int) rfl rfl rfl ?_
          exact Or.inr ⟨by omega, rfl, MC_61 M⟩
theorem s_image12 {h : sHp} {m : MF} {g : Nat → Int32} (M : MC h m) (hg : h[75]? = some (.inl (0, 180, .inl g))) : sDo 10 254 [.ref 60] h (fun r h' => r = some (.int (m.1 6)) ∧ MC h' (upd m.1 37 (Int32.ofInt 1), m.2) ∧ h'[75]? = some (.inl (0, 180, .inl (svF m g)))) := by
  refine sDo_of (d := 9) (nL := 1) (L := [some (.ref 60)]) rfl rfl ?_
  have M1 := MC_0 (f := upd m.1 37 (Int32.ofInt 1)) M
  refine g_aload_n (i := 0) rfl rfl ?_
  refine g_iconst (n := 1) rfl ?_
  refine g_putfield (h1 := h.set 60 (mO (upd m.1 37 (Int32.ofInt 1)))) rfl M.1 (by decide) (Nat.le_of_ble_eq_true rfl) rfl rfl ?_
  refine g_aload_n (i := 0) rfl rfl ?_
  refine g_aload_n (i := 0) rfl rfl ?_
  refine g_getfield (v := .ref 75) rfl M1.1 (by decide) rfl ?_
  refine g_iconst (n := 0) rfl ?_
  have g1 : (h.set 60 (mO (upd m.1 37 (Int32.ofInt 1))))[75]? = some (.inl (0, 180, .inl g)) := by rw [s_set_ne (by decide)]; exact hg
  have M2 : MC ((h.set 60 (mO (upd m.1 37 (Int32.ofInt 1)))).set 75 (.inl (0, 180, .inl (svF m g)))) (upd m.1 37 (Int32.ofInt 1), m.2) := by
    obtain ⟨a0, a1, a2, a3, a4, a5⟩ := M1
    exact ⟨by rw [s_set_ne (by decide)]; exact a0, by rw [s_set_ne (by decide)]; exact a1, by rw [s_set_ne (by decide)]; exact a2, by rw [s_set_ne (by decide)]; exact a3, by rw [s_set_ne (by decide)]; exact a4, by rw [s_set_ne (by decide)]; exact a5⟩
  refine g_virt2 (Qc := fun r h' => r = none ∧ h' = (h.set 60 (mO (upd m.1 37 (Int32.ofInt 1)))).set 75 (.inl (0, 180, .inl (svF m g)))) rfl (by decide) rfl M1.1 rfl (Nat.le_of_ble_eq_true rfl) (sDo_up (d := 2) (by omega) (s_saveE (d := 0) (m := (upd m.1 37 (Int32.ofInt 1), m.2)) M1 g1 (by decide))) (fun r h8 hq => ?_)
  obtain ⟨rfl, rfl⟩ := hq
  refine g_aload_n (i := 0) rfl rfl ?_
  refine g_getfield (v := .int ((upd m.1 37 (Int32.ofInt 1)) 6)) rfl M2.1 (by decide) rfl ?_
  refine g_ireturn (ty := .int) rfl rfl rfl ?_
  exact ⟨rfl, M2, s_set_eq g1⟩
theorem s_restore12 {h : sHp} {m : MF} {g : Nat → Int32} (hH : bH h) (M : MC h m) (hg : h[75]? = some (.inl (0, 180, .inl g))) : sDo 10 255 [.ref 60] h (fun r h' => (m.1 37 = 0 ∧ r = some (.int (-6)) ∧ MC h' m ∧ h'[75]? = some (.inl (0, 180, .inl g))) ∨ (¬ m.1 37 = 0 ∧ r = some (.int (g 174)) ∧ MC h' (mfBack m g) ∧ h'[75]? = some (.inl (0, 180, .inl g)))) := by
  refine sDo_of (d := 9) (nL := 1) (L := [some (.ref 60)]) rfl rfl ?_
  refine g_aload_n (i := 0) rfl rfl ?_
  refine g_getfield (v := .int (m.1 37)) rfl M.1 (by decide) rfl ?_
  refine g_if_ne 14 rfl rfl (fun c1 => ?_) (fun c1 => ?_)
  · skip
    refine g_aload_n (i := 0) rfl rfl ?_
    refine g_aload_n (i := 0) rfl rfl ?_
    refine g_getfield (v := .ref 75) rfl M.1 (by decide) rfl ?_
    refine g_iconst (n := 1) rfl ?_
    refine g_virt2 rfl (by decide) rfl M.1 rfl (Nat.le_of_ble_eq_true rfl) (sDo_up (d := 2) (by omega) (s_backE (d := 0) M hg (by decide))) (fun r h8 hq => ?_)
    obtain ⟨rfl, q1, q2⟩ := hq
    refine g_aload_n (i := 0) rfl rfl ?_
    refine g_getfield (v := .int ((mfBack m g).1 6)) rfl q1.1 (by decide) rfl ?_
    refine g_ireturn (ty := .int) rfl rfl rfl ?_
    exact Or.inr ⟨c1, rfl, q1, (q2.2 75 (by decide) (by decide)).trans hg⟩
  · skip
    refine g_aload_n (i := 0) rfl rfl ?_
    refine g_bipush (n := (-6)) rfl ?_
    refine g_virt1 (Qc := fun r h' => r = some (.int (-6)) ∧ ∃ R, h' = List.set h 61 (.inl (0, 8, .inl R))) rfl (by decide) rfl M.1 rfl (Nat.le_of_ble_eq_true rfl) (sDo_up (d := 1) (by omega) (s_no (d := 0) hH (by decide) (by decide))) (fun r h8 hq9 => ?_)
    obtain ⟨rfl, R, rfl⟩ := hq9
    refine g_ireturn (ty := .int) rfl rfl rfl ?_
    exact Or.inl ⟨c1, rfl, MC_61 M, by rw [s_set_ne (by decide)]; exact hg⟩
