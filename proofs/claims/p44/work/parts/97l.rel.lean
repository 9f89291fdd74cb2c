/-! ===== heirOf ===== -/
def hoP (m : MF) (S : Nat → Int64) (i : Nat) (y v : Int32) : Prop := (∃ k : Nat, k < 6 ∧ y.toInt = ((10 + k : Nat) : Int) ∧ v = m.2.2.2.2.2 (6 * i + k)) ∨ (y.toInt = 0 ∧ v = Int32.ofNat (shN m i)) ∨ (y.toInt = 1 ∧ v = m.2.2.2.2.1 i) ∨ (y.toInt = 2 ∧ v = Int32.ofNat (cnt (S i)))
def hoD (y : Int32) : Prop := (0 ≤ y.toInt ∧ y.toInt ≤ 2) ∨ (10 ≤ y.toInt ∧ y.toInt < 16)
theorem hoP_of {m : MF} {S : Nat → Int64} {i : Nat} {y : Int32} (h : hoD y) : ∃ v, hoP m S i y v := by
  unfold hoD at h
  rcases h with h | h
  · rcases (show y.toInt = 0 ∨ y.toInt = 1 ∨ y.toInt = 2 by omega) with e | e | e
    · exact ⟨_, Or.inr (Or.inl ⟨e, rfl⟩)⟩
    · exact ⟨_, Or.inr (Or.inr (Or.inl ⟨e, rfl⟩))⟩
    · exact ⟨_, Or.inr (Or.inr (Or.inr ⟨e, rfl⟩))⟩
  · exact ⟨_, Or.inl ⟨y.toInt.toNat - 10, by omega, by omega, rfl⟩⟩
theorem s_ho11 {d : Nat} {h : sHp} {ik tf : Int32} {c : CF} {m : MF} {s : Sg} {i : Nat} {y v : Int32} (hd : 4 ≤ d) (h0 : h[0]? = some (cO ik tf)) (F : FC h 5 c) (r : RB c m) (sI : sgI c s) (hi : i < s.2.2) (hv : hoP m c.2.2.2.2.2.2 i y v) : sDo d 130 [.ref 0, .int (Int32.ofNat i), .int y] h (fun r h' => r = some (.int v) ∧ h' = h) := by
  have n5 := sI.2.2.2.2.2.2.2
  have ei := ofN_toInt (n := i) (by omega)
  have RS := (r.2 s sI).1
  have a4 := RB_sh RS hi
  have e10 : (Int8.ofInt 10).toInt32.toInt = 10 := rfl
  have e16 : (Int8.ofInt 16).toInt32.toInt = 16 := rfl
  obtain ⟨f, b3, b4⟩ := id F.2.2.2.1
  have b5 := F.2.2.2.2.1 i (by omega)
  refine sDo_of1 (nL := 3) (L := [some (.ref 0), some (.int (Int32.ofNat i)), some (.int y)]) (by omega) rfl rfl ?_
  rcases hv with ⟨k, hk, hs, rfl⟩ | ⟨hs, rfl⟩ | ⟨hs, rfl⟩ | ⟨hs, rfl⟩
  · skip
    refine g_aload_n (i := 0) rfl rfl ?_
    refine g_getfield (v := .ref 5) rfl h0 (by decide) rfl ?_
    refine g_iload_n (i := 1) rfl rfl ?_
    refine g_virt1 (Qc := fun r h' => h' = h ∧ (((0 ≤ (Int32.ofNat i).toInt ∧ (Int32.ofNat i).toInt < (s.2.2 : Int)) ∧ r = some (.int 1)) ∨ (¬ (0 ≤ (Int32.ofNat i).toInt ∧ (Int32.ofNat i).toInt < (s.2.2 : Int)) ∧ r = some (.int 0)))) rfl (by decide) rfl F.1 rfl (Nat.le_of_ble_eq_true rfl) (s_hr11 (by omega) F sI.2.2.1 n5) (fun r h hq9 => ?_)
    obtain ⟨rfl, ⟨c_1, rfl⟩ | ⟨c_1, rfl⟩⟩ := hq9
    · skip
      refine g_if_ne 18 rfl rfl (fun _ => ?_) (fun hc => absurd hc (by decide))
      refine g_iload_n (i := 2) rfl rfl ?_
      refine g_bipush (n := 10) rfl ?_
      refine g_icmp_lt 45 rfl rfl (fun hc => absurd hc (by rw [i_lt, hs, e10]; omega)) (fun _ => ?_)
      refine g_iload_n (i := 2) rfl rfl ?_
      refine g_bipush (n := 16) rfl ?_
      refine g_icmp_ge 45 rfl rfl (fun hc => absurd hc (by rw [i_le, hs, e16]; omega)) (fun _ => ?_)
      refine g_aload_n (i := 0) rfl rfl ?_
      refine g_getfield (v := .ref 5) rfl h0 (by decide) rfl ?_
      refine g_getfield (v := .ref (5 + 3)) rfl F.1 (by decide) rfl ?_
      refine g_iload_n (i := 1) rfl rfl ?_
      refine g_aaload rfl b3 (by decide) (i_in (by omega) (by omega)) ?_
      rw [i_nat ei, b4 i (by omega)]
      show sGo none 130 _ 39 [some (.ref 0), some (.int (Int32.ofNat i)), some (.int y)] (.ref (5 + 4 + i) :: []) _ _
      refine g_iload_n (i := 2) rfl rfl ?_
      refine g_bipush (n := 10) rfl ?_
      have k_2 : ((Int8.ofInt 10).toInt32).toInt = 10 := rfl
      refine g_isub rfl ?_
      have t_3 : (y - (Int8.ofInt 10).toInt32).toInt = ((10 + k : Nat) : Int) - 10 := by rw [i_sub (by rw [hs, k_2]; omega) (by rw [hs, k_2]; omega), hs, k_2]
      have ey : (y - (Int8.ofInt 10).toInt32).toInt = ((k : Nat) : Int) := by rw [t_3]; omega
      refine g_iaload (n := 6) (f := c.2.2.2.2.1 i) rfl b5 (i_in (by omega) (by omega)) ?_
      rw [i_nat ey, RS.2.2.2.1 i hi k hk]
      refine g_ireturn (ty := .int) rfl rfl rfl ?_
      exact ⟨rfl, rfl⟩
    · skip
      omega
  · skip
    refine g_aload_n (i := 0) rfl rfl ?_
    refine g_getfield (v := .ref 5) rfl h0 (by decide) rfl ?_
    refine g_iload_n (i := 1) rfl rfl ?_
    refine g_virt1 (Qc := fun r h' => h' = h ∧ (((0 ≤ (Int32.ofNat i).toInt ∧ (Int32.ofNat i).toInt < (s.2.2 : Int)) ∧ r = some (.int 1)) ∨ (¬ (0 ≤ (Int32.ofNat i).toInt ∧ (Int32.ofNat i).toInt < (s.2.2 : Int)) ∧ r = some (.int 0)))) rfl (by decide) rfl F.1 rfl (Nat.le_of_ble_eq_true rfl) (s_hr11 (by omega) F sI.2.2.1 n5) (fun r h hq9 => ?_)
    obtain ⟨rfl, ⟨c_1, rfl⟩ | ⟨c_1, rfl⟩⟩ := hq9
    · skip
      refine g_if_ne 18 rfl rfl (fun _ => ?_) (fun hc => absurd hc (by decide))
      refine g_iload_n (i := 2) rfl rfl ?_
      refine g_bipush (n := 10) rfl ?_
      refine g_icmp_lt 45 rfl rfl (fun _ => ?_) (fun hc => absurd hc (by rw [i_lt, hs, e10]; omega))
      refine g_iload_n (i := 2) rfl rfl ?_
      · skip
        refine g_tsIn 0 72 rfl (by omega) (by rw [hs]; rfl) rfl rfl ?_
        refine g_aload_n (i := 0) rfl rfl ?_
        refine g_getfield (v := .ref 5) rfl h0 (by decide) rfl ?_
        refine g_getfield (v := .ref (5 + 2)) rfl F.1 (by decide) rfl ?_
        refine g_iload_n (i := 1) rfl rfl ?_
        refine g_iaload (n := 5) (f := c.2.2.2.1) rfl F.2.2.1 (i_in (by omega) (by omega)) ?_
        rw [i_nat ei, a4.2.2.2]
        refine g_ireturn (ty := .int) rfl rfl rfl ?_
        exact ⟨rfl, rfl⟩
    · skip
      omega
  · skip
    refine g_aload_n (i := 0) rfl rfl ?_
    refine g_getfield (v := .ref 5) rfl h0 (by decide) rfl ?_
    refine g_iload_n (i := 1) rfl rfl ?_
    refine g_virt1 (Qc := fun r h' => h' = h ∧ (((0 ≤ (Int32.ofNat i).toInt ∧ (Int32.ofNat i).toInt < (s.2.2 : Int)) ∧ r = some (.int 1)) ∨ (¬ (0 ≤ (Int32.ofNat i).toInt ∧ (Int32.ofNat i).toInt < (s.2.2 : Int)) ∧ r = some (.int 0)))) rfl (by decide) rfl F.1 rfl (Nat.le_of_ble_eq_true rfl) (s_hr11 (by omega) F sI.2.2.1 n5) (fun r h hq9 => ?_)
    obtain ⟨rfl, ⟨c_1, rfl⟩ | ⟨c_1, rfl⟩⟩ := hq9
    · skip
      refine g_if_ne 18 rfl rfl (fun _ => ?_) (fun hc => absurd hc (by decide))
      refine g_iload_n (i := 2) rfl rfl ?_
      refine g_bipush (n := 10) rfl ?_
      refine g_icmp_lt 45 rfl rfl (fun _ => ?_) (fun hc => absurd hc (by rw [i_lt, hs, e10]; omega))
      refine g_iload_n (i := 2) rfl rfl ?_
      · skip
        refine g_tsIn 1 82 rfl (by omega) (by rw [hs]; rfl) rfl rfl ?_
        refine g_aload_n (i := 0) rfl rfl ?_
        refine g_getfield (v := .ref 5) rfl h0 (by decide) rfl ?_
        refine g_getfield (v := .ref (5 + 9)) rfl F.1 (by decide) rfl ?_
        refine g_iload_n (i := 1) rfl rfl ?_
        refine g_baload (n := 5) (f := c.2.2.2.2.2.1) rfl F.2.2.2.2.2.1 (i_in (by omega) (by omega)) ?_
        rw [i_nat ei, (RS.2.2.1 i hi).2]
        rcases (RS.2.2.2.2 i hi).2.1 with e | e
        · skip
          rw [e]
          refine g_if_eq 98 rfl rfl (fun _ => ?_) (fun hc => absurd hc (by decide))
          refine g_iconst (n := 0) rfl ?_
          refine g_ireturn (ty := .int) rfl rfl rfl ?_
          exact ⟨rfl, rfl⟩
        · skip
          rw [e]
          refine g_if_eq 98 rfl rfl (fun hc => absurd hc (by decide)) (fun _ => ?_)
          refine g_iconst (n := 1) rfl ?_
          refine g_goto 99 rfl rfl ?_
          refine g_ireturn (ty := .int) rfl rfl rfl ?_
          exact ⟨rfl, rfl⟩
    · skip
      omega
  · skip
    refine g_aload_n (i := 0) rfl rfl ?_
    refine g_getfield (v := .ref 5) rfl h0 (by decide) rfl ?_
    refine g_iload_n (i := 1) rfl rfl ?_
    refine g_virt1 (Qc := fun r h' => h' = h ∧ (((0 ≤ (Int32.ofNat i).toInt ∧ (Int32.ofNat i).toInt < (s.2.2 : Int)) ∧ r = some (.int 1)) ∨ (¬ (0 ≤ (Int32.ofNat i).toInt ∧ (Int32.ofNat i).toInt < (s.2.2 : Int)) ∧ r = some (.int 0)))) rfl (by decide) rfl F.1 rfl (Nat.le_of_ble_eq_true rfl) (s_hr11 (by omega) F sI.2.2.1 n5) (fun r h hq9 => ?_)
    obtain ⟨rfl, ⟨c_1, rfl⟩ | ⟨c_1, rfl⟩⟩ := hq9
    · skip
      refine g_if_ne 18 rfl rfl (fun _ => ?_) (fun hc => absurd hc (by decide))
      refine g_iload_n (i := 2) rfl rfl ?_
      refine g_bipush (n := 10) rfl ?_
      refine g_icmp_lt 45 rfl rfl (fun _ => ?_) (fun hc => absurd hc (by rw [i_lt, hs, e10]; omega))
      refine g_iload_n (i := 2) rfl rfl ?_
      · skip
        refine g_tsIn 2 100 rfl (by omega) (by rw [hs]; rfl) rfl rfl ?_
        refine g_aload_n (i := 0) rfl rfl ?_
        refine g_getfield (v := .ref 5) rfl h0 (by decide) rfl ?_
        refine g_getfield (v := .ref (5 + 10)) rfl F.1 (by decide) rfl ?_
        refine g_iload_n (i := 1) rfl rfl ?_
        refine g_laload (n := 7) (f := c.2.2.2.2.2.2) rfl F.2.2.2.2.2.2 (i_in (by omega) (by omega)) ?_
        rw [i_nat ei]
        refine g_static1 (Qc := fun r h' => h' = h ∧ r = some (.int (Int32.ofNat (cnt (c.2.2.2.2.2.2 i))))) rfl (by decide) rfl (Nat.le_of_ble_eq_true rfl) (s_bitCount (by omega)) (fun r h hq9 => ?_)
        obtain ⟨rfl, rfl⟩ := hq9
        refine g_ireturn (ty := .int) rfl rfl rfl ?_
        exact ⟨rfl, rfl⟩
    · skip
      omega
theorem s_ho12 {d : Nat} {h : sHp} {c : CF} {m : MF} {s : Sg} {i : Nat} {S : Nat → Int64} {y v : Int32} (hd : 4 ≤ d) (M : MC h m) (g : gdF c s.1 s.2.1) (gM : gdM m.1 s.1 s.2.1) (r : RB c m) (sI : sgI c s) (sJ : sgJ m.1 s) (P : PT S m.2.2.1 (s.1 * s.2.1)) (hi : i < s.2.2) (hv : hoP m S i y v) : sDo d 210 [.ref 60, .int (Int32.ofNat i), .int y] h (fun r h' => r = some (.int v) ∧ h' = h) := by
  have n5 := sI.2.2.2.2.2.2.2
  have ei := ofN_toInt (n := i) (by omega)
  have RS := (r.2 s sI).1
  have a4 := RB_sh RS hi
  have e10 : (Int8.ofInt 10).toInt32.toInt = 10 := rfl
  have e16 : (Int8.ofInt 16).toInt32.toInt = 16 := rfl
  refine sDo_of1 (nL := 3) (L := [some (.ref 60), some (.int (Int32.ofNat i)), some (.int y)]) (by omega) rfl rfl ?_
  rcases hv with ⟨k, hk, hs, rfl⟩ | ⟨hs, rfl⟩ | ⟨hs, rfl⟩ | ⟨hs, rfl⟩
  · skip
    refine g_aload_n (i := 0) rfl rfl ?_
    refine g_iload_n (i := 1) rfl rfl ?_
    refine g_virt1 (Qc := fun r h' => h' = h ∧ (((0 ≤ (Int32.ofNat i).toInt ∧ (Int32.ofNat i).toInt < (s.2.2 : Int)) ∧ r = some (.int 1)) ∨ (¬ (0 ≤ (Int32.ofNat i).toInt ∧ (Int32.ofNat i).toInt < (s.2.2 : Int)) ∧ r = some (.int 0)))) rfl (by decide) rfl M.1 rfl (Nat.le_of_ble_eq_true rfl) (s_hr12 (by omega) M.1 sJ.2.2.1 n5) (fun r h hq9 => ?_)
    obtain ⟨rfl, ⟨c_1, rfl⟩ | ⟨c_1, rfl⟩⟩ := hq9
    · skip
      refine g_if_ne 15 rfl rfl (fun _ => ?_) (fun hc => absurd hc (by decide))
      refine g_iload_n (i := 2) rfl rfl ?_
      refine g_bipush (n := 10) rfl ?_
      refine g_icmp_lt 42 rfl rfl (fun hc => absurd hc (by rw [i_lt, hs, e10]; omega)) (fun _ => ?_)
      refine g_iload_n (i := 2) rfl rfl ?_
      refine g_bipush (n := 16) rfl ?_
      refine g_icmp_ge 42 rfl rfl (fun hc => absurd hc (by rw [i_le, hs, e16]; omega)) (fun _ => ?_)
      refine g_aload_n (i := 0) rfl rfl ?_
      refine g_getfield (v := .ref 66) rfl M.1 (by decide) rfl ?_
      refine g_bipush (n := 6) rfl ?_
      refine g_iload_n (i := 1) rfl rfl ?_
      have k_2 : ((Int8.ofInt 6).toInt32).toInt = 6 := rfl
      refine g_imul rfl ?_
      have t_3 : (((Int8.ofInt 6).toInt32 * (Int32.ofNat i))).toInt = ((6 * i : Nat) : Int) := n_mul (X := 6) (Y := i) (show _ = ((6 : Nat) : Int) from k_2) (show _ = ((i : Nat) : Int) from ei) (by omega)
      refine g_iload_n (i := 2) rfl rfl ?_
      refine g_iadd rfl ?_
      have t_4 : (((Int8.ofInt 6).toInt32 * (Int32.ofNat i)) + y).toInt = ((6 * i + 10 + k : Nat) : Int) := by rw [i_add (by rw [t_3, hs]; omega) (by rw [t_3, hs]; omega), t_3, hs]; omega
      refine g_bipush (n := 10) rfl ?_
      have k_5 : ((Int8.ofInt 10).toInt32).toInt = 10 := rfl
      refine g_isub rfl ?_
      have t_6 : ((((Int8.ofInt 6).toInt32 * (Int32.ofNat i)) + y) - (Int8.ofInt 10).toInt32).toInt = ((6 * i + 10 + k : Nat) : Int) - 10 := by rw [i_sub (by rw [t_4, k_5]; omega) (by rw [t_4, k_5]; omega), t_4, k_5]
      have ey : ((((Int8.ofInt 6).toInt32 * (Int32.ofNat i)) + y) - (Int8.ofInt 10).toInt32).toInt = ((6 * i + k : Nat) : Int) := by rw [t_6]; omega
      refine g_iaload (n := 30) (f := m.2.2.2.2.2) rfl M.2.2.2.2.2 (i_in (by omega) (by omega)) ?_
      rw [i_nat ey]
      show sGo none 210 _ 41 [some (.ref 60), some (.int (Int32.ofNat i)), some (.int y)] [.int (m.2.2.2.2.2 (6 * i + k))] _ _
      refine g_ireturn (ty := .int) rfl rfl rfl ?_
      exact ⟨rfl, rfl⟩
    · skip
      omega
  · skip
    refine g_aload_n (i := 0) rfl rfl ?_
    refine g_iload_n (i := 1) rfl rfl ?_
    refine g_virt1 (Qc := fun r h' => h' = h ∧ (((0 ≤ (Int32.ofNat i).toInt ∧ (Int32.ofNat i).toInt < (s.2.2 : Int)) ∧ r = some (.int 1)) ∨ (¬ (0 ≤ (Int32.ofNat i).toInt ∧ (Int32.ofNat i).toInt < (s.2.2 : Int)) ∧ r = some (.int 0)))) rfl (by decide) rfl M.1 rfl (Nat.le_of_ble_eq_true rfl) (s_hr12 (by omega) M.1 sJ.2.2.1 n5) (fun r h hq9 => ?_)
    obtain ⟨rfl, ⟨c_1, rfl⟩ | ⟨c_1, rfl⟩⟩ := hq9
    · skip
      refine g_if_ne 15 rfl rfl (fun _ => ?_) (fun hc => absurd hc (by decide))
      refine g_iload_n (i := 2) rfl rfl ?_
      refine g_bipush (n := 10) rfl ?_
      refine g_icmp_lt 42 rfl rfl (fun _ => ?_) (fun hc => absurd hc (by rw [i_lt, hs, e10]; omega))
      refine g_iload_n (i := 2) rfl rfl ?_
      refine g_if_ne 55 rfl rfl (fun hc => absurd hc (by exact fun z => z (Int32.toInt_inj.mp hs))) (fun _ => ?_)
      refine g_aload_n (i := 0) rfl rfl ?_
      refine g_getfield (v := .ref 64) rfl M.1 (by decide) rfl ?_
      refine g_iload_n (i := 1) rfl rfl ?_
      refine g_iaload (n := 5) (f := m.2.2.2.1) rfl M.2.2.2.1 (i_in (by omega) (by omega)) ?_
      rw [i_nat ei, a4.2.2.1]
      refine g_goto 92 rfl rfl ?_
      refine g_ireturn (ty := .int) rfl rfl rfl ?_
      exact ⟨rfl, rfl⟩
    · skip
      omega
  · skip
    refine g_aload_n (i := 0) rfl rfl ?_
    refine g_iload_n (i := 1) rfl rfl ?_
    refine g_virt1 (Qc := fun r h' => h' = h ∧ (((0 ≤ (Int32.ofNat i).toInt ∧ (Int32.ofNat i).toInt < (s.2.2 : Int)) ∧ r = some (.int 1)) ∨ (¬ (0 ≤ (Int32.ofNat i).toInt ∧ (Int32.ofNat i).toInt < (s.2.2 : Int)) ∧ r = some (.int 0)))) rfl (by decide) rfl M.1 rfl (Nat.le_of_ble_eq_true rfl) (s_hr12 (by omega) M.1 sJ.2.2.1 n5) (fun r h hq9 => ?_)
    obtain ⟨rfl, ⟨c_1, rfl⟩ | ⟨c_1, rfl⟩⟩ := hq9
    · skip
      refine g_if_ne 15 rfl rfl (fun _ => ?_) (fun hc => absurd hc (by decide))
      refine g_iload_n (i := 2) rfl rfl ?_
      refine g_bipush (n := 10) rfl ?_
      refine g_icmp_lt 42 rfl rfl (fun _ => ?_) (fun hc => absurd hc (by rw [i_lt, hs, e10]; omega))
      refine g_iload_n (i := 2) rfl rfl ?_
      refine g_if_ne 55 rfl rfl (fun _ => ?_) (fun hc => absurd hc (by intro z; have z := congrArg Int32.toInt z; rw [hs] at z; exact absurd z (by decide)))
      refine g_iload_n (i := 2) rfl rfl ?_
      refine g_iconst (n := 1) rfl ?_
      refine g_icmp_ne 69 rfl rfl (fun hc => absurd hc (by exact fun z => z (Int32.toInt_inj.mp hs))) (fun _ => ?_)
      refine g_aload_n (i := 0) rfl rfl ?_
      refine g_getfield (v := .ref 65) rfl M.1 (by decide) rfl ?_
      refine g_iload_n (i := 1) rfl rfl ?_
      refine g_iaload (n := 5) (f := m.2.2.2.2.1) rfl M.2.2.2.2.1 (i_in (by omega) (by omega)) ?_
      rw [i_nat ei]
      show sGo none 210 _ 66 [some (.ref 60), some (.int (Int32.ofNat i)), some (.int y)] [.int (m.2.2.2.2.1 i)] _ _
      refine g_goto 92 rfl rfl ?_
      refine g_ireturn (ty := .int) rfl rfl rfl ?_
      exact ⟨rfl, rfl⟩
    · skip
      omega
  · skip
    refine g_aload_n (i := 0) rfl rfl ?_
    refine g_iload_n (i := 1) rfl rfl ?_
    refine g_virt1 (Qc := fun r h' => h' = h ∧ (((0 ≤ (Int32.ofNat i).toInt ∧ (Int32.ofNat i).toInt < (s.2.2 : Int)) ∧ r = some (.int 1)) ∨ (¬ (0 ≤ (Int32.ofNat i).toInt ∧ (Int32.ofNat i).toInt < (s.2.2 : Int)) ∧ r = some (.int 0)))) rfl (by decide) rfl M.1 rfl (Nat.le_of_ble_eq_true rfl) (s_hr12 (by omega) M.1 sJ.2.2.1 n5) (fun r h hq9 => ?_)
    obtain ⟨rfl, ⟨c_1, rfl⟩ | ⟨c_1, rfl⟩⟩ := hq9
    · skip
      refine g_if_ne 15 rfl rfl (fun _ => ?_) (fun hc => absurd hc (by decide))
      refine g_iload_n (i := 2) rfl rfl ?_
      refine g_bipush (n := 10) rfl ?_
      refine g_icmp_lt 42 rfl rfl (fun _ => ?_) (fun hc => absurd hc (by rw [i_lt, hs, e10]; omega))
      refine g_iload_n (i := 2) rfl rfl ?_
      refine g_if_ne 55 rfl rfl (fun _ => ?_) (fun hc => absurd hc (by intro z; have z := congrArg Int32.toInt z; rw [hs] at z; exact absurd z (by decide)))
      refine g_iload_n (i := 2) rfl rfl ?_
      refine g_iconst (n := 1) rfl ?_
      refine g_icmp_ne 69 rfl rfl (fun _ => ?_) (fun hc => absurd hc (by intro z; have z := congrArg Int32.toInt z; rw [hs] at z; exact absurd z (by decide)))
      refine g_iload_n (i := 2) rfl rfl ?_
      refine g_iconst (n := 2) rfl ?_
      refine g_icmp_ne 86 rfl rfl (fun hc => absurd hc (by exact fun z => z (Int32.toInt_inj.mp hs))) (fun _ => ?_)
      refine g_aload_n (i := 0) rfl rfl ?_
      refine g_aload_n (i := 0) rfl rfl ?_
      refine g_iload_n (i := 1) rfl rfl ?_
      refine g_virt1 (Qc := fun r h' => h' = h ∧ r = some (.long (S i))) rfl (by decide) rfl M.1 rfl (Nat.le_of_ble_eq_true rfl) (s_pc12 (k := i) (by omega) M gM P (by omega) (cdS_lt (by omega)).symm) (fun r h hq9 => ?_)
      obtain ⟨rfl, rfl⟩ := hq9
      refine g_virt1 (Qc := fun r h' => h' = h ∧ r = some (.int (Int32.ofNat (cnt (S i))))) rfl (by decide) rfl M.1 rfl (Nat.le_of_ble_eq_true rfl) (s_manyE (by omega)) (fun r h hq9 => ?_)
      obtain ⟨rfl, rfl⟩ := hq9
      refine g_goto 92 rfl rfl ?_
      refine g_ireturn (ty := .int) rfl rfl rfl ?_
      exact ⟨rfl, rfl⟩
    · skip
      omega
theorem s_ho11n {d : Nat} {h : sHp} {ik tf : Int32} {R : Nat → Int32} {c : CF} {s : Sg} {x y : Int32} (hd : 4 ≤ d) (h0 : h[0]? = some (cO ik tf)) (hR : h[43]? = some (rFc R)) (F : FC h 5 c) (sI : sgI c s) (hx : ¬ ((0 ≤ x.toInt ∧ x.toInt < (s.2.2 : Int)) ∧ hoD y)) : sDo d 130 [.ref 0, .int x, .int y] h (fun r h' => r = some (.int (-5)) ∧ h' = h.set 43 (rFc (bump R 5))) := by
  have n5 := sI.2.2.2.2.2.2.2
  unfold hoD at hx
  have e10 : (Int8.ofInt 10).toInt32.toInt = 10 := rfl
  have e16 : (Int8.ofInt 16).toInt32.toInt = 16 := rfl
  refine sDo_of1 (nL := 3) (L := [some (.ref 0), some (.int x), some (.int y)]) (by omega) rfl rfl ?_
  refine g_aload_n (i := 0) rfl rfl ?_
  refine g_getfield (v := .ref 5) rfl h0 (by decide) rfl ?_
  refine g_iload_n (i := 1) rfl rfl ?_
  refine g_virt1 (Qc := fun r h' => h' = h ∧ (((0 ≤ x.toInt ∧ x.toInt < (s.2.2 : Int)) ∧ r = some (.int 1)) ∨ (¬ (0 ≤ x.toInt ∧ x.toInt < (s.2.2 : Int)) ∧ r = some (.int 0)))) rfl (by decide) rfl F.1 rfl (Nat.le_of_ble_eq_true rfl) (s_hr11 (by omega) F sI.2.2.1 n5) (fun r h hq9 => ?_)
  obtain ⟨rfl, ⟨c_1, rfl⟩ | ⟨c_1, rfl⟩⟩ := hq9
  · skip
    refine g_if_ne 18 rfl rfl (fun _ => ?_) (fun hc => absurd hc (by decide))
    refine g_iload_n (i := 2) rfl rfl ?_
    refine g_bipush (n := 10) rfl ?_
    refine g_icmp_lt 45 rfl rfl (fun c_2 => ?_) (fun c_2 => ?_)
    · skip
      rw [i_lt, e10] at c_2
      refine g_iload_n (i := 2) rfl rfl ?_
      have hs : y.toInt < 0 ∨ 2 < y.toInt := by omega
      · skip
        refine g_tsOut 113 rfl (by omega) rfl ?_
        refine g_aload_n (i := 0) rfl rfl ?_
        refine g_bipush (n := (-5)) rfl ?_
        refine g_virt1 (Qc := fun r h' => r = some (.int ((Int8.ofInt (-5)).toInt32)) ∧ h' = h.set 43 (rFc (bump R 5))) rfl (by decide) rfl h0 rfl (Nat.le_of_ble_eq_true rfl) (s_refuse2 (X := 5) (by omega) h0 hR rfl (by decide)) (fun r h9 hq9 => ?_)
        obtain ⟨rfl, rfl⟩ := hq9
        refine g_ireturn (ty := .int) rfl rfl rfl ?_
        exact ⟨rfl, rfl⟩
    · skip
      rw [i_lt, e10] at c_2
      refine g_iload_n (i := 2) rfl rfl ?_
      refine g_bipush (n := 16) rfl ?_
      refine g_icmp_ge 45 rfl rfl (fun c_3 => ?_) (fun c_3 => ?_)
      · skip
        rw [i_le, e16] at c_3
        refine g_iload_n (i := 2) rfl rfl ?_
        have hs : y.toInt < 0 ∨ 2 < y.toInt := by omega
        · skip
          refine g_tsOut 113 rfl (by omega) rfl ?_
          refine g_aload_n (i := 0) rfl rfl ?_
          refine g_bipush (n := (-5)) rfl ?_
          refine g_virt1 (Qc := fun r h' => r = some (.int ((Int8.ofInt (-5)).toInt32)) ∧ h' = h.set 43 (rFc (bump R 5))) rfl (by decide) rfl h0 rfl (Nat.le_of_ble_eq_true rfl) (s_refuse2 (X := 5) (by omega) h0 hR rfl (by decide)) (fun r h9 hq9 => ?_)
          obtain ⟨rfl, rfl⟩ := hq9
          refine g_ireturn (ty := .int) rfl rfl rfl ?_
          exact ⟨rfl, rfl⟩
      · skip
        rw [i_le, e16] at c_3
        exfalso; omega
  · skip
    refine g_if_ne 18 rfl rfl (fun hc => absurd hc (by decide)) (fun _ => ?_)
    refine g_aload_n (i := 0) rfl rfl ?_
    refine g_bipush (n := (-5)) rfl ?_
    refine g_virt1 (Qc := fun r h' => r = some (.int ((Int8.ofInt (-5)).toInt32)) ∧ h' = h.set 43 (rFc (bump R 5))) rfl (by decide) rfl h0 rfl (Nat.le_of_ble_eq_true rfl) (s_refuse2 (X := 5) (by omega) h0 hR rfl (by decide)) (fun r h9 hq9 => ?_)
    obtain ⟨rfl, rfl⟩ := hq9
    refine g_ireturn (ty := .int) rfl rfl rfl ?_
    exact ⟨rfl, rfl⟩
theorem s_ho12n {d : Nat} {h : sHp} {R : Nat → Int32} {m : MF} {s : Sg} {x y : Int32} (hd : 4 ≤ d) (M : MC h m) (hR : h[61]? = some (rFc R)) (sJ : sgJ m.1 s) (hx : ¬ ((0 ≤ x.toInt ∧ x.toInt < (s.2.2 : Int)) ∧ hoD y)) : sDo d 210 [.ref 60, .int x, .int y] h (fun r h' => r = some (.int (-5)) ∧ h' = h.set 61 (rFc (bump R 5))) := by
  have n5 := sJ.2.2.2.2.2.2.2
  unfold hoD at hx
  have e10 : (Int8.ofInt 10).toInt32.toInt = 10 := rfl
  have e16 : (Int8.ofInt 16).toInt32.toInt = 16 := rfl
  refine sDo_of1 (nL := 3) (L := [some (.ref 60), some (.int x), some (.int y)]) (by omega) rfl rfl ?_
  refine g_aload_n (i := 0) rfl rfl ?_
  refine g_iload_n (i := 1) rfl rfl ?_
  refine g_virt1 (Qc := fun r h' => h' = h ∧ (((0 ≤ x.toInt ∧ x.toInt < (s.2.2 : Int)) ∧ r = some (.int 1)) ∨ (¬ (0 ≤ x.toInt ∧ x.toInt < (s.2.2 : Int)) ∧ r = some (.int 0)))) rfl (by decide) rfl M.1 rfl (Nat.le_of_ble_eq_true rfl) (s_hr12 (by omega) M.1 sJ.2.2.1 n5) (fun r h hq9 => ?_)
  obtain ⟨rfl, ⟨c_1, rfl⟩ | ⟨c_1, rfl⟩⟩ := hq9
  · skip
    refine g_if_ne 15 rfl rfl (fun _ => ?_) (fun hc => absurd hc (by decide))
    refine g_iload_n (i := 2) rfl rfl ?_
    refine g_bipush (n := 10) rfl ?_
    refine g_icmp_lt 42 rfl rfl (fun c_2 => ?_) (fun c_2 => ?_)
    · skip
      rw [i_lt, e10] at c_2
      refine g_iload_n (i := 2) rfl rfl ?_
      refine g_if_ne 55 rfl rfl (fun _ => ?_) (fun hc => absurd hc (by intro z; have z := congrArg Int32.toInt z; have z : y.toInt = 0 := z; omega))
      refine g_iload_n (i := 2) rfl rfl ?_
      refine g_iconst (n := 1) rfl ?_
      refine g_icmp_ne 69 rfl rfl (fun _ => ?_) (fun hc => absurd hc (by intro z; have z := congrArg Int32.toInt z; have z : y.toInt = 1 := z; omega))
      refine g_iload_n (i := 2) rfl rfl ?_
      refine g_iconst (n := 2) rfl ?_
      refine g_icmp_ne 86 rfl rfl (fun _ => ?_) (fun hc => absurd hc (by intro z; have z := congrArg Int32.toInt z; have z : y.toInt = 2 := z; omega))
      refine g_aload_n (i := 0) rfl rfl ?_
      refine g_bipush (n := (-5)) rfl ?_
      refine g_virt1 (Qc := fun r h' => r = some (.int ((Int8.ofInt (-5)).toInt32)) ∧ h' = h.set 61 (rFc (bump R 5))) rfl (by decide) rfl M.1 rfl (Nat.le_of_ble_eq_true rfl) (s_no2 (X := 5) (by omega) M.1 hR rfl (by decide)) (fun r h9 hq9 => ?_)
      obtain ⟨rfl, rfl⟩ := hq9
      refine g_ireturn (ty := .int) rfl rfl rfl ?_
      exact ⟨rfl, rfl⟩
    · skip
      rw [i_lt, e10] at c_2
      refine g_iload_n (i := 2) rfl rfl ?_
      refine g_bipush (n := 16) rfl ?_
      refine g_icmp_ge 42 rfl rfl (fun c_3 => ?_) (fun c_3 => ?_)
      · skip
        rw [i_le, e16] at c_3
        refine g_iload_n (i := 2) rfl rfl ?_
        refine g_if_ne 55 rfl rfl (fun _ => ?_) (fun hc => absurd hc (by intro z; have z := congrArg Int32.toInt z; have z : y.toInt = 0 := z; omega))
        refine g_iload_n (i := 2) rfl rfl ?_
        refine g_iconst (n := 1) rfl ?_
        refine g_icmp_ne 69 rfl rfl (fun _ => ?_) (fun hc => absurd hc (by intro z; have z := congrArg Int32.toInt z; have z : y.toInt = 1 := z; omega))
        refine g_iload_n (i := 2) rfl rfl ?_
        refine g_iconst (n := 2) rfl ?_
        refine g_icmp_ne 86 rfl rfl (fun _ => ?_) (fun hc => absurd hc (by intro z; have z := congrArg Int32.toInt z; have z : y.toInt = 2 := z; omega))
        refine g_aload_n (i := 0) rfl rfl ?_
        refine g_bipush (n := (-5)) rfl ?_
        refine g_virt1 (Qc := fun r h' => r = some (.int ((Int8.ofInt (-5)).toInt32)) ∧ h' = h.set 61 (rFc (bump R 5))) rfl (by decide) rfl M.1 rfl (Nat.le_of_ble_eq_true rfl) (s_no2 (X := 5) (by omega) M.1 hR rfl (by decide)) (fun r h9 hq9 => ?_)
        obtain ⟨rfl, rfl⟩ := hq9
        refine g_ireturn (ty := .int) rfl rfl rfl ?_
        exact ⟨rfl, rfl⟩
      · skip
        rw [i_le, e16] at c_3
        exfalso; omega
  · skip
    refine g_if_ne 15 rfl rfl (fun hc => absurd hc (by decide)) (fun _ => ?_)
    refine g_aload_n (i := 0) rfl rfl ?_
    refine g_bipush (n := (-5)) rfl ?_
    refine g_virt1 (Qc := fun r h' => r = some (.int ((Int8.ofInt (-5)).toInt32)) ∧ h' = h.set 61 (rFc (bump R 5))) rfl (by decide) rfl M.1 rfl (Nat.le_of_ble_eq_true rfl) (s_no2 (X := 5) (by omega) M.1 hR rfl (by decide)) (fun r h9 hq9 => ?_)
    obtain ⟨rfl, rfl⟩ := hq9
    refine g_ireturn (ty := .int) rfl rfl rfl ?_
    exact ⟨rfl, rfl⟩
theorem pr9_heirOf (x : Int32) (y : Int32) : pairR bR9 130 210 [.int x, .int y] := pr_qR (c1 := cn_X11_heirOf_0) (c2 := cn_X12_heirOf_0) ch_X11_heirOf_0 ch_X12_heirOf_0 (by decide +kernel) (by decide +kernel) (by decide +kernel) (by decide +kernel) rfl rfl (fun h hH => ⟨bt0 hH, vI0 x, vI0 y, trivial⟩) (fun h hH => ⟨bt60 hH, vI0 x, vI0 y, trivial⟩) (fun hH a q => bR9_fr hH a (by decide +kernel) q) (fun hH a q => bR9_fr hH a (by decide +kernel) q) (fun h hH hR => by
  obtain ⟨⟨hd, so, sz, co, cl, f, gg, q4, bs⟩, c, ck, m, gk, ik, tf, kc, km, ej, rl, rk⟩ := hR
  have F := kc.1
  have h0 := kc.2.2.1
  have M := km.1
  obtain ⟨R, hR43⟩ := RA_of hH (p := 43) (Or.inl rfl)
  obtain ⟨s, sI, sJ, g, gM⟩ := RN_sg rl.1.1
  have n5 := sI.2.2.2.2.2.2.2
  have hn := gdF_n g
  have PO := rl.2 s sI
  by_cases hx : (0 ≤ x.toInt ∧ x.toInt < (s.2.2 : Int)) ∧ hoD y
  · obtain ⟨hx, hy⟩ := hx
    obtain ⟨i, hi⟩ : ∃ i : Nat, x.toInt = i := ⟨x.toInt.toNat, by omega⟩
    have ex : x = Int32.ofNat i := Int32.toInt_inj.mp (by rw [hi, ofN_toInt (by omega)])
    subst ex
    obtain ⟨v, hv⟩ := hoP_of (m := m) (S := c.2.2.2.2.2.2) (i := i) hy
    exact ⟨_, sDo_mono (s_ho11 (d := 10) (by omega) h0 F rl.1 sI (by omega) hv) (fun r h' q => ⟨q.1, by rw [q.2]; exact vE_rfl⟩), fun h1 hH1 E => sDo_mono (s_ho12 (d := 10) (by omega) (MC_vE M E) g gM rl.1 sI sJ PO (by omega) hv) (fun r h' q => q.1)⟩
  · refine ⟨_, sDo_mono (s_ho11n (d := 10) (by omega) h0 hR43 F sI hx) (fun r h' q => ⟨q.1, by rw [q.2]; exact vE_43⟩), fun h1 hH1 E => ?_⟩
    obtain ⟨Rm, hRm⟩ := RA_of hH1 (p := 61) (Or.inr rfl)
    exact sDo_mono (s_ho12n (d := 10) (by omega) (MC_vE M E) hRm sJ hx) (fun r h' q => q.1))
