/-! ===== refusal counts: two, three, better with what is counted ===== -/
def oT (t : T3) : Option Nat := match t.1 with
  | none => some 5
  | some _ => none
theorem oT_n {t : T3} (h : t.1 = none) : oT t = some 5 := by unfold oT; rw [h]
theorem oT_s {t : T3} (h : ¬ t.1 = none) : oT t = none := by
  unfold oT
  cases e : t.1 with
  | none => exact absurd e h
  | some p => rfl
theorem oT_K {t : T3} : rfK (oT t) := by
  by_cases h : t.1 = none
  · rw [oT_n h]; exact rfK_1 (by decide)
  · rw [oT_s h]; exact rfK_0
theorem s_two11z {d : Nat} {h : sHp} {ik tf : Int32} {R : Nat → Int32} {c : CF} {m : MF} {s : Sg} {B : Nat → Int32} {S1 S2 : Int64} {fc : Nat → Int32} {ff T : Nat → Int64} {x : Int32} (hd : 10 ≤ d) (h0 : h[0]? = some (cO ik tf)) (hR : h[43]? = some (rFc R)) (F : FC h 5 c) (g : gdF c s.1 s.2.1) (r : RB c m) (sI : sgI c s) (hS : h[38]? = some (sO B S1 S2)) (h39 : h[39]? = some (.inl (0, 644, .inl fc))) (h40 : h[40]? = some (.inl (1, 644, .inr (.inl ff)))) (h41 : h[41]? = some (.inl (1, 7, .inr (.inl T)))) (h2 : s.2.2 = 2) (hx : 0 ≤ x.toInt ∧ x.toInt ≤ 2) : sDo d 141 [.ref 0, .int x] h (fun rv h' => vE h h' ∧ h'[43]? = some (rFc (rfO (oT (twL m s (lsT s.1 s.2.1 true false) (none, 1000))) R))) := by
  refine sDo_of1 (nL := 2) (L := [some (.ref 0), some (.int x)]) (by omega) rfl rfl ?_
  refine g_iload_n (i := 1) rfl rfl ?_
  have k_2 : (0 : Int32).toInt = 0 := rfl
  refine g_if_lt 23 rfl rfl (fun c_1 => ?_) (fun c_1 => ?_)
  · skip
    rw [i_lt, k_2] at c_1
    exfalso; omega
  · skip
    rw [i_lt, k_2] at c_1
    refine g_iload_n (i := 1) rfl rfl ?_
    refine g_iconst (n := 2) rfl ?_
    have k_4 : (Int32.ofInt 2).toInt = 2 := rfl
    refine g_icmp_gt 23 rfl rfl (fun c_3 => ?_) (fun c_3 => ?_)
    · skip
      rw [i_lt, k_4] at c_3
      exfalso; omega
    · skip
      rw [i_lt, k_4] at c_3
      refine g_aload_n (i := 0) rfl rfl ?_
      refine g_getfield (v := .ref 38) rfl h0 (by decide) rfl ?_
      refine g_aload_n (i := 0) rfl rfl ?_
      refine g_getfield (v := .ref 5) rfl h0 (by decide) rfl ?_
      refine g_virt1 rfl (by decide) rfl hS rfl (Nat.le_of_ble_eq_true rfl) (s_find2 (d := d - 1) (m := m) (s := s) (by omega) F g r sI h2 hS h39 h40 h41) (fun rv hz hq => ?_)
      obtain ⟨hv, E, B2, hS2, b2⟩ := hq
      have z0 := (E.2 0 (by decide)).trans h0
      have z43 := (E.2 43 (by decide)).trans hR
      have vz : vE h hz := ⟨E.1, fun q hq => E.2 q (by omega)⟩
      generalize twL m s (lsT s.1 s.2.1 true false) (none, 1000) = t at hv b2 ⊢
      rcases hv with ⟨rfl, ht⟩ | ⟨rfl, ht⟩
      · skip
        obtain ⟨⟨a, b⟩, ht⟩ : ∃ p, t.1 = some p := by
          cases e : t.1 with
          | none => exact absurd e ht
          | some p => exact ⟨p, rfl⟩
        refine g_if_ne 30 rfl rfl (fun _ => ?_) (fun hc => absurd hc (by decide))
        refine g_aload_n (i := 0) rfl rfl ?_
        refine g_getfield (v := .ref 38) rfl z0 (by decide) rfl ?_
        refine g_iload_n (i := 1) rfl rfl ?_
        refine g_virt1 (Qc := fun r h' => h' = hz ∧ r = some (.int (twA t x.toInt))) rfl (by decide) rfl hS2 rfl (Nat.le_of_ble_eq_true rfl) (s_best (by omega) hS2 b2 ht hx) (fun r hz hq9 => ?_)
        obtain ⟨rfl, rfl⟩ := hq9
        refine g_ireturn (ty := .int) rfl rfl rfl ?_
        exact ⟨vz, by rw [oT_s (by rw [ht]; exact fun z => by cases z)]; exact z43⟩
      · skip
        refine g_if_ne 30 rfl rfl (fun hc => absurd hc (by decide)) (fun _ => ?_)
        refine g_aload_n (i := 0) rfl rfl ?_
        refine g_bipush (n := (-5)) rfl ?_
        refine g_virt1 (Qc := fun r h' => r = some (.int (-5)) ∧ h' = hz.set 43 (rFc (bump R 5))) rfl (by decide) rfl z0 rfl (Nat.le_of_ble_eq_true rfl) (s_refuse2 (X := 5) (by omega) z0 z43 rfl (by decide)) (fun r h9 hq9 => ?_)
        obtain ⟨rfl, rfl⟩ := hq9
        refine g_ireturn (ty := .int) rfl rfl rfl ?_
        exact ⟨⟨by rw [List.length_set]; exact vz.1, fun q hq => by rw [s_set_ne (by omega)]; exact vz.2 q hq⟩, by rw [oT_n ht]; exact s_set_eq z43⟩
theorem s_two11nz {d : Nat} {h : sHp} {ik tf : Int32} {R : Nat → Int32} {c : CF} {s : Sg} {B : Nat → Int32} {S1 S2 : Int64} {fc : Nat → Int32} {ff T : Nat → Int64} {x : Int32} (hd : 10 ≤ d) (h0 : h[0]? = some (cO ik tf)) (hR : h[43]? = some (rFc R)) (F : FC h 5 c) (g : gdF c s.1 s.2.1) (sI : sgI c s) (hS : h[38]? = some (sO B S1 S2)) (h39 : h[39]? = some (.inl (0, 644, .inl fc))) (h40 : h[40]? = some (.inl (1, 644, .inr (.inl ff)))) (h41 : h[41]? = some (.inl (1, 7, .inr (.inl T)))) (hx : ¬ (s.2.2 = 2 ∧ 0 ≤ x.toInt ∧ x.toInt ≤ 2)) : sDo d 141 [.ref 0, .int x] h (fun rv h' => vE h h' ∧ h'[43]? = some (rFc (bump R 5))) := by
  have n5 := sI.2.2.2.2.2.2.2
  have e11 : (c.1 11).toInt = ((s.2.2 : Nat) : Int) := by rw [sI.2.2.1]; exact ofN_toInt (by omega)
  have en : (Int32.ofInt 2).toInt = 2 := rfl
  have fz : ∀ {d : Nat}, 3 ≤ d → ¬ s.2.2 = 2 → sDo d 97 [.ref 38, .ref 5] h (fun r h' => r = some (.int 0) ∧ vE h h' ∧ h'[43]? = some (rFc R)) := fun {d} hd hne => by
    refine sDo_of1 (nL := 4) (L := [some (.ref 38), some (.ref 5), none, none]) (by omega) rfl rfl ?_
    refine g_aload_n (i := 0) rfl rfl ?_
    refine g_sipush (n := 1000) rfl ?_
    refine g_virt1 rfl (by decide) rfl hS rfl (Nat.le_of_ble_eq_true rfl) (s_forget (d := d - 1) (x := (Int16.ofInt 1000).toInt32) (by omega) hS) (fun r h1 hq => ?_)
    obtain ⟨rfl, rfl⟩ := hq
    have FA := FC_out (q := 38) (x := sO (upd (upd (upd B 0 (Int32.ofInt (-1))) 4 (Int32.ofInt 0)) 5 (Int16.ofInt 1000).toInt32) S1 S2) F (by omega)
    refine g_aload_n (i := 1) rfl rfl ?_
    refine g_getfield (v := .int (c.1 11)) rfl FA.1 (by decide) rfl ?_
    refine g_iconst (n := 2) rfl ?_
    have k_2 : (Int32.ofInt 2).toInt = 2 := rfl
    refine g_icmp_eq 17 rfl rfl (fun c_1 => ?_) (fun c_1 => ?_)
    · skip
      rw [i_eq, e11, k_2] at c_1
      exfalso; omega
    · skip
      rw [i_eq, e11, k_2] at c_1
      refine g_iconst (n := 0) rfl ?_
      refine g_ireturn (ty := .boolean) rfl rfl (by decide) ?_
      exact ⟨rfl, ⟨List.length_set, fun q hq => s_set_ne (by omega)⟩, by rw [s_set_ne (by decide)]; exact hR⟩
  refine sDo_of1 (nL := 2) (L := [some (.ref 0), some (.int x)]) (by omega) rfl rfl ?_
  refine g_iload_n (i := 1) rfl rfl ?_
  have k_2 : (0 : Int32).toInt = 0 := rfl
  refine g_if_lt 23 rfl rfl (fun c_1 => ?_) (fun c_1 => ?_)
  · skip
    rw [i_lt, k_2] at c_1
    refine g_aload_n (i := 0) rfl rfl ?_
    refine g_bipush (n := (-5)) rfl ?_
    refine g_virt1 (Qc := fun r h' => r = some (.int (-5)) ∧ h' = h.set 43 (rFc (bump R 5))) rfl (by decide) rfl h0 rfl (Nat.le_of_ble_eq_true rfl) (s_refuse2 (X := 5) (by omega) h0 hR rfl (by decide)) (fun r h9 hq9 => ?_)
    obtain ⟨rfl, rfl⟩ := hq9
    refine g_ireturn (ty := .int) rfl rfl rfl ?_
    exact ⟨vE_43, s_set_eq hR⟩
  · skip
    rw [i_lt, k_2] at c_1
    refine g_iload_n (i := 1) rfl rfl ?_
    refine g_iconst (n := 2) rfl ?_
    have k_4 : (Int32.ofInt 2).toInt = 2 := rfl
    refine g_icmp_gt 23 rfl rfl (fun c_3 => ?_) (fun c_3 => ?_)
    · skip
      rw [i_lt, k_4] at c_3
      refine g_aload_n (i := 0) rfl rfl ?_
      refine g_bipush (n := (-5)) rfl ?_
      refine g_virt1 (Qc := fun r h' => r = some (.int (-5)) ∧ h' = h.set 43 (rFc (bump R 5))) rfl (by decide) rfl h0 rfl (Nat.le_of_ble_eq_true rfl) (s_refuse2 (X := 5) (by omega) h0 hR rfl (by decide)) (fun r h9 hq9 => ?_)
      obtain ⟨rfl, rfl⟩ := hq9
      refine g_ireturn (ty := .int) rfl rfl rfl ?_
      exact ⟨vE_43, s_set_eq hR⟩
    · skip
      rw [i_lt, k_4] at c_3
      refine g_aload_n (i := 0) rfl rfl ?_
      refine g_getfield (v := .ref 38) rfl h0 (by decide) rfl ?_
      refine g_aload_n (i := 0) rfl rfl ?_
      refine g_getfield (v := .ref 5) rfl h0 (by decide) rfl ?_
      refine g_virt1 rfl (by decide) rfl hS rfl (Nat.le_of_ble_eq_true rfl) (fz (d := d - 1) (by omega) (by omega)) (fun rv hz hq => ?_)
      obtain ⟨rfl, vz⟩ := hq
      have z0 := (vz.1.2 0 (by decide)).trans h0
      have z43 := vz.2
      refine g_if_ne 30 rfl rfl (fun hc => absurd hc (by decide)) (fun _ => ?_)
      refine g_aload_n (i := 0) rfl rfl ?_
      refine g_bipush (n := (-5)) rfl ?_
      refine g_virt1 (Qc := fun r h' => r = some (.int (-5)) ∧ h' = hz.set 43 (rFc (bump R 5))) rfl (by decide) rfl z0 rfl (Nat.le_of_ble_eq_true rfl) (s_refuse2 (X := 5) (by omega) z0 z43 rfl (by decide)) (fun r h9 hq9 => ?_)
      obtain ⟨rfl, rfl⟩ := hq9
      refine g_ireturn (ty := .int) rfl rfl rfl ?_
      exact ⟨⟨by rw [List.length_set]; exact vz.1.1, fun q hq => by rw [s_set_ne (by omega)]; exact vz.1.2 q hq⟩, s_set_eq z43⟩
theorem s_three11z {d : Nat} {h : sHp} {ik tf : Int32} {R : Nat → Int32} {c : CF} {m : MF} {s : Sg} {B : Nat → Int32} {S1 S2 : Int64} {fc : Nat → Int32} {ff T : Nat → Int64} {x : Int32} (hd : 10 ≤ d) (h0 : h[0]? = some (cO ik tf)) (hR : h[43]? = some (rFc R)) (F : FC h 5 c) (g : gdF c s.1 s.2.1) (r : RB c m) (sI : sgI c s) (hS : h[38]? = some (sO B S1 S2)) (h39 : h[39]? = some (.inl (0, 644, .inl fc))) (h40 : h[40]? = some (.inl (1, 644, .inr (.inl ff)))) (h41 : h[41]? = some (.inl (1, 7, .inr (.inl T)))) (h2 : s.2.2 = 3) (hx : 0 ≤ x.toInt ∧ x.toInt ≤ 2) : sDo d 142 [.ref 0, .int x] h (fun rv h' => vE h h' ∧ h'[43]? = some (rFc (rfO (oT (thL m s (lsT s.1 s.2.1 false true) (lsT s.1 s.2.1 false true) (none, 1000))) R))) := by
  refine sDo_of1 (nL := 2) (L := [some (.ref 0), some (.int x)]) (by omega) rfl rfl ?_
  refine g_iload_n (i := 1) rfl rfl ?_
  have k_2 : (0 : Int32).toInt = 0 := rfl
  refine g_if_lt 23 rfl rfl (fun c_1 => ?_) (fun c_1 => ?_)
  · skip
    rw [i_lt, k_2] at c_1
    exfalso; omega
  · skip
    rw [i_lt, k_2] at c_1
    refine g_iload_n (i := 1) rfl rfl ?_
    refine g_iconst (n := 2) rfl ?_
    have k_4 : (Int32.ofInt 2).toInt = 2 := rfl
    refine g_icmp_gt 23 rfl rfl (fun c_3 => ?_) (fun c_3 => ?_)
    · skip
      rw [i_lt, k_4] at c_3
      exfalso; omega
    · skip
      rw [i_lt, k_4] at c_3
      refine g_aload_n (i := 0) rfl rfl ?_
      refine g_getfield (v := .ref 38) rfl h0 (by decide) rfl ?_
      refine g_aload_n (i := 0) rfl rfl ?_
      refine g_getfield (v := .ref 5) rfl h0 (by decide) rfl ?_
      refine g_virt1 rfl (by decide) rfl hS rfl (Nat.le_of_ble_eq_true rfl) (s_find3 (d := d - 1) (m := m) (s := s) (by omega) F g r sI h2 hS h39 h40 h41) (fun rv hz hq => ?_)
      obtain ⟨hv, E, B2, hS2, b2⟩ := hq
      have z0 := (E.2 0 (by decide)).trans h0
      have z43 := (E.2 43 (by decide)).trans hR
      have vz : vE h hz := ⟨E.1, fun q hq => E.2 q (by omega)⟩
      generalize thL m s (lsT s.1 s.2.1 false true) (lsT s.1 s.2.1 false true) (none, 1000) = t at hv b2 ⊢
      rcases hv with ⟨rfl, ht⟩ | ⟨rfl, ht⟩
      · skip
        obtain ⟨⟨a, b⟩, ht⟩ : ∃ p, t.1 = some p := by
          cases e : t.1 with
          | none => exact absurd e ht
          | some p => exact ⟨p, rfl⟩
        refine g_if_ne 30 rfl rfl (fun _ => ?_) (fun hc => absurd hc (by decide))
        refine g_aload_n (i := 0) rfl rfl ?_
        refine g_getfield (v := .ref 38) rfl z0 (by decide) rfl ?_
        refine g_iload_n (i := 1) rfl rfl ?_
        refine g_virt1 (Qc := fun r h' => h' = hz ∧ r = some (.int (twA t x.toInt))) rfl (by decide) rfl hS2 rfl (Nat.le_of_ble_eq_true rfl) (s_best (by omega) hS2 b2 ht hx) (fun r hz hq9 => ?_)
        obtain ⟨rfl, rfl⟩ := hq9
        refine g_ireturn (ty := .int) rfl rfl rfl ?_
        exact ⟨vz, by rw [oT_s (by rw [ht]; exact fun z => by cases z)]; exact z43⟩
      · skip
        refine g_if_ne 30 rfl rfl (fun hc => absurd hc (by decide)) (fun _ => ?_)
        refine g_aload_n (i := 0) rfl rfl ?_
        refine g_bipush (n := (-5)) rfl ?_
        refine g_virt1 (Qc := fun r h' => r = some (.int (-5)) ∧ h' = hz.set 43 (rFc (bump R 5))) rfl (by decide) rfl z0 rfl (Nat.le_of_ble_eq_true rfl) (s_refuse2 (X := 5) (by omega) z0 z43 rfl (by decide)) (fun r h9 hq9 => ?_)
        obtain ⟨rfl, rfl⟩ := hq9
        refine g_ireturn (ty := .int) rfl rfl rfl ?_
        exact ⟨⟨by rw [List.length_set]; exact vz.1, fun q hq => by rw [s_set_ne (by omega)]; exact vz.2 q hq⟩, by rw [oT_n ht]; exact s_set_eq z43⟩
theorem s_three11nz {d : Nat} {h : sHp} {ik tf : Int32} {R : Nat → Int32} {c : CF} {s : Sg} {B : Nat → Int32} {S1 S2 : Int64} {fc : Nat → Int32} {ff T : Nat → Int64} {x : Int32} (hd : 10 ≤ d) (h0 : h[0]? = some (cO ik tf)) (hR : h[43]? = some (rFc R)) (F : FC h 5 c) (g : gdF c s.1 s.2.1) (sI : sgI c s) (hS : h[38]? = some (sO B S1 S2)) (h39 : h[39]? = some (.inl (0, 644, .inl fc))) (h40 : h[40]? = some (.inl (1, 644, .inr (.inl ff)))) (h41 : h[41]? = some (.inl (1, 7, .inr (.inl T)))) (hx : ¬ (s.2.2 = 3 ∧ 0 ≤ x.toInt ∧ x.toInt ≤ 2)) : sDo d 142 [.ref 0, .int x] h (fun rv h' => vE h h' ∧ h'[43]? = some (rFc (bump R 5))) := by
  have n5 := sI.2.2.2.2.2.2.2
  have e11 : (c.1 11).toInt = ((s.2.2 : Nat) : Int) := by rw [sI.2.2.1]; exact ofN_toInt (by omega)
  have en : (Int32.ofInt 3).toInt = 3 := rfl
  have fz : ∀ {d : Nat}, 3 ≤ d → ¬ s.2.2 = 3 → sDo d 98 [.ref 38, .ref 5] h (fun r h' => r = some (.int 0) ∧ vE h h' ∧ h'[43]? = some (rFc R)) := fun {d} hd hne => by
    refine sDo_of1 (nL := 4) (L := [some (.ref 38), some (.ref 5), none, none]) (by omega) rfl rfl ?_
    refine g_aload_n (i := 0) rfl rfl ?_
    refine g_sipush (n := 1000) rfl ?_
    refine g_virt1 rfl (by decide) rfl hS rfl (Nat.le_of_ble_eq_true rfl) (s_forget (d := d - 1) (x := (Int16.ofInt 1000).toInt32) (by omega) hS) (fun r h1 hq => ?_)
    obtain ⟨rfl, rfl⟩ := hq
    have FA := FC_out (q := 38) (x := sO (upd (upd (upd B 0 (Int32.ofInt (-1))) 4 (Int32.ofInt 0)) 5 (Int16.ofInt 1000).toInt32) S1 S2) F (by omega)
    refine g_aload_n (i := 1) rfl rfl ?_
    refine g_getfield (v := .int (c.1 11)) rfl FA.1 (by decide) rfl ?_
    refine g_iconst (n := 3) rfl ?_
    have k_2 : (Int32.ofInt 3).toInt = 3 := rfl
    refine g_icmp_eq 17 rfl rfl (fun c_1 => ?_) (fun c_1 => ?_)
    · skip
      rw [i_eq, e11, k_2] at c_1
      exfalso; omega
    · skip
      rw [i_eq, e11, k_2] at c_1
      refine g_iconst (n := 0) rfl ?_
      refine g_ireturn (ty := .boolean) rfl rfl (by decide) ?_
      exact ⟨rfl, ⟨List.length_set, fun q hq => s_set_ne (by omega)⟩, by rw [s_set_ne (by decide)]; exact hR⟩
  refine sDo_of1 (nL := 2) (L := [some (.ref 0), some (.int x)]) (by omega) rfl rfl ?_
  refine g_iload_n (i := 1) rfl rfl ?_
  have k_2 : (0 : Int32).toInt = 0 := rfl
  refine g_if_lt 23 rfl rfl (fun c_1 => ?_) (fun c_1 => ?_)
  · skip
    rw [i_lt, k_2] at c_1
    refine g_aload_n (i := 0) rfl rfl ?_
    refine g_bipush (n := (-5)) rfl ?_
    refine g_virt1 (Qc := fun r h' => r = some (.int (-5)) ∧ h' = h.set 43 (rFc (bump R 5))) rfl (by decide) rfl h0 rfl (Nat.le_of_ble_eq_true rfl) (s_refuse2 (X := 5) (by omega) h0 hR rfl (by decide)) (fun r h9 hq9 => ?_)
    obtain ⟨rfl, rfl⟩ := hq9
    refine g_ireturn (ty := .int) rfl rfl rfl ?_
    exact ⟨vE_43, s_set_eq hR⟩
  · skip
    rw [i_lt, k_2] at c_1
    refine g_iload_n (i := 1) rfl rfl ?_
    refine g_iconst (n := 2) rfl ?_
    have k_4 : (Int32.ofInt 2).toInt = 2 := rfl
    refine g_icmp_gt 23 rfl rfl (fun c_3 => ?_) (fun c_3 => ?_)
    · skip
      rw [i_lt, k_4] at c_3
      refine g_aload_n (i := 0) rfl rfl ?_
      refine g_bipush (n := (-5)) rfl ?_
      refine g_virt1 (Qc := fun r h' => r = some (.int (-5)) ∧ h' = h.set 43 (rFc (bump R 5))) rfl (by decide) rfl h0 rfl (Nat.le_of_ble_eq_true rfl) (s_refuse2 (X := 5) (by omega) h0 hR rfl (by decide)) (fun r h9 hq9 => ?_)
      obtain ⟨rfl, rfl⟩ := hq9
      refine g_ireturn (ty := .int) rfl rfl rfl ?_
      exact ⟨vE_43, s_set_eq hR⟩
    · skip
      rw [i_lt, k_4] at c_3
      refine g_aload_n (i := 0) rfl rfl ?_
      refine g_getfield (v := .ref 38) rfl h0 (by decide) rfl ?_
      refine g_aload_n (i := 0) rfl rfl ?_
      refine g_getfield (v := .ref 5) rfl h0 (by decide) rfl ?_
      refine g_virt1 rfl (by decide) rfl hS rfl (Nat.le_of_ble_eq_true rfl) (fz (d := d - 1) (by omega) (by omega)) (fun rv hz hq => ?_)
      obtain ⟨rfl, vz⟩ := hq
      have z0 := (vz.1.2 0 (by decide)).trans h0
      have z43 := vz.2
      refine g_if_ne 30 rfl rfl (fun hc => absurd hc (by decide)) (fun _ => ?_)
      refine g_aload_n (i := 0) rfl rfl ?_
      refine g_bipush (n := (-5)) rfl ?_
      refine g_virt1 (Qc := fun r h' => r = some (.int (-5)) ∧ h' = hz.set 43 (rFc (bump R 5))) rfl (by decide) rfl z0 rfl (Nat.le_of_ble_eq_true rfl) (s_refuse2 (X := 5) (by omega) z0 z43 rfl (by decide)) (fun r h9 hq9 => ?_)
      obtain ⟨rfl, rfl⟩ := hq9
      refine g_ireturn (ty := .int) rfl rfl rfl ?_
      exact ⟨⟨by rw [List.length_set]; exact vz.1.1, fun q hq => by rw [s_set_ne (by omega)]; exact vz.1.2 q hq⟩, s_set_eq z43⟩
theorem s_two12z {d : Nat} {h : sHp} {c : CF} {m : MF} {s : Sg} {sp fc R : Nat → Int32} {x : Int32} (hd : 8 ≤ d) (M : MC h m) (hR : h[61]? = some (rFc R)) (gM : gdM m.1 s.1 s.2.1) (g : gdF c s.1 s.2.1) (r : RB c m) (sI : sgI c s) (sJ : sgJ m.1 s) (h76 : h[76]? = some (.inl (0, 1000, .inl fc))) (h77 : h[77]? = some (.inl (0, 64, .inl sp))) (h2 : s.2.2 = 2) (hx : 0 ≤ x.toInt ∧ x.toInt ≤ 2) : sDo d 235 [.ref 60, .int x] h (fun rv h' => h'[61]? = some (rFc (rfO (oT (twL m s (lsT s.1 s.2.1 true false) (none, 1000))) R))) := by
  have w8 := gM.2.2.2.1
  have h8 := gM.2.2.2.2.2
  have hn := gdF_n g
  have e774 : m.1 6 = Int32.ofInt 2 := by rw [sJ.2.2.1, h2]; rfl
  refine sDo_of1 (nL := 5) (L := [some (.ref 60), some (.int x), none, none, none]) (by omega) rfl rfl ?_
  refine g_aload_n (i := 0) rfl rfl ?_
  refine g_getfield (v := .int (m.1 6)) rfl M.1 (by decide) rfl ?_
  refine g_iconst (n := 2) rfl ?_
  refine g_icmp_ne 17 rfl rfl (fun hc => absurd hc (by exact fun z => z e774)) (fun _ => ?_)
  refine g_iload_n (i := 1) rfl rfl ?_
  have k_2 : (0 : Int32).toInt = 0 := rfl
  refine g_if_lt 17 rfl rfl (fun c_1 => ?_) (fun c_1 => ?_)
  · skip
    rw [i_lt, k_2] at c_1
    exfalso; omega
  · skip
    rw [i_lt, k_2] at c_1
    refine g_iload_n (i := 1) rfl rfl ?_
    refine g_iconst (n := 2) rfl ?_
    have k_4 : (Int32.ofInt 2).toInt = 2 := rfl
    refine g_icmp_le 24 rfl rfl (fun c_3 => ?_) (fun c_3 => ?_)
    · skip
      rw [i_le, k_4] at c_3
      refine g_aload_n (i := 0) rfl rfl ?_
      refine g_iconst (n := 0) rfl ?_
      refine g_virt1 rfl (by decide) rfl M.1 rfl (Nat.le_of_ble_eq_true rfl) (s_save12 (d := d - 1) (by omega) M.1 M.2.2.1 h77) (fun r1 ha hq => ?_)
      obtain ⟨rfl, rfl⟩ := hq
      have hrA : (h.set 77 (.inl (0, 64, .inl (fun i => if i < 64 then m.2.2.1 i else sp i))))[60]? = some (mO m.1) := by rw [s_set_ne (by decide)]; exact M.1
      refine g_aload_n (i := 0) rfl rfl ?_
      refine g_bipush (n := 22) rfl ?_
      have hls := s_lists12 (d := d - 1) (kd := (Int8.ofInt 22).toInt32) (b4 := true) (b32 := false) (by omega) gM hrA (by rw [s_set_ne (by decide)]; exact h76) (by decide) (by decide) (by decide) (by decide)
      refine g_virt1 rfl (by decide) rfl hrA rfl (Nat.le_of_ble_eq_true rfl) hls (fun r2 hl hq => ?_)
      obtain ⟨rfl, ⟨J2, fc2, hr2, b2, j31, g76, p1⟩, E2⟩ := hq
      refine g_aload_n (i := 0) rfl rfl ?_
      refine g_iconst (n := (-1)) rfl ?_
      refine g_putfield (h1 := hl.set 60 (mO (upd J2 34 (Int32.ofInt (-1))))) rfl hr2 (by decide) (Nat.le_of_ble_eq_true rfl) rfl rfl ?_
      have o77 : ∀ q, q ≠ 60 → q ≠ 76 → q ≠ 77 → (hl.set 60 (mO (upd J2 34 (Int32.ofInt (-1)))))[q]? = h[q]? := fun q h1 h2 h3 => by rw [s_set_ne (Ne.symm h1), E2.2 q h1 h2, s_set_ne (Ne.symm h3)]
      have MB : MC (hl.set 60 (mO (upd J2 34 (Int32.ofInt (-1))))) ((upd J2 34 (Int32.ofInt (-1)), m.2) : MF) := ⟨s_set_eq hr2, (o77 62 (by decide) (by decide) (by decide)).trans M.2.1, (o77 63 (by decide) (by decide) (by decide)).trans M.2.2.1, (o77 64 (by decide) (by decide) (by decide)).trans M.2.2.2.1, (o77 65 (by decide) (by decide) (by decide)).trans M.2.2.2.2.1, (o77 66 (by decide) (by decide) (by decide)).trans M.2.2.2.2.2⟩
      have b7 : ∀ j, j < 7 → upd J2 34 (Int32.ofInt (-1)) j = m.1 j := fun j hj => (u_ne (by omega)).trans (b2 j (by omega))
      have c77 : (hl.set 60 (mO (upd J2 34 (Int32.ofInt (-1)))))[77]? = some (.inl (0, 64, .inl (fun i => if i < 64 then m.2.2.1 i else sp i))) := by rw [s_set_ne (by decide), E2.2 77 (by decide) (by decide)]; exact s_set_eq h77
      have c61 : (hl.set 60 (mO (upd J2 34 (Int32.ofInt (-1)))))[61]? = some (rFc R) := (o77 61 (by decide) (by decide) (by decide)).trans hR
      have X0 : rX (hl.set 60 (mO (upd J2 34 (Int32.ofInt (-1))))) (hl.set 60 (mO (upd J2 34 (Int32.ofInt (-1))))) (upd J2 34 (Int32.ofInt (-1))) m.2.2.1 := ⟨MB.1, MB.2.2.1, rfl, fun _ _ _ => rfl⟩
      refine g_iconst (n := 0) rfl ?_
      refine g_istore_n (i := 2) (L1 := [some (.ref 60), some (.int x), some (.int (Int32.ofInt 0)), none, none]) rfl (Nat.le_of_ble_eq_true rfl) rfl ?_
      have eT : twL m s (lsT s.1 s.2.1 true false) (none, 1000) = twL ((upd J2 34 (Int32.ofInt (-1)), m.2) : MF) s (lsT s.1 s.2.1 true false) (none, 1000) := (twL_J b7 _ _).symm
      refine s_two12_go (d := d - 1) (Jb := upd J2 34 (Int32.ofInt (-1))) (m := ((upd J2 34 (Int32.ofInt (-1)), m.2) : MF)) (fin := twL m s (lsT s.1 s.2.1 true false) (none, 1000)) (by omega) MB (fun _ _ => rfl) ⟨(b7 0 (by decide)).trans gM.1, (b7 1 (by decide)).trans gM.2.1, gM.2.2⟩ g (RB_J7 r b7) sI ⟨(b7 0 (by decide)).trans sJ.1, (b7 1 (by decide)).trans sJ.2.1, (b7 6 (by decide)).trans sJ.2.2.1, sJ.2.2.2⟩ (ls_k2 w8 h8) (ls_len w8 h8) ((u_ne (by decide)).trans j31) (by rw [s_set_ne (by decide)]; exact g76) p1 (fun J ow h3 o2 o3 o4 X hJ b => ?_) (lsT s.1 s.2.1 true false) [] (none, 1000) _ _ _ _ _ rfl X0 jE_rfl ⟨u_at, rfl⟩ (by decide) eT.symm
      have hr := X.1
      have h63 := X.2.1
      have s77 := (X.2.2.2 77 (by decide) (by decide)).trans c77
      have s61 := (X.2.2.2 61 (by decide) (by decide)).trans c61
      have tb : (twL m s (lsT s.1 s.2.1 true false) (none, 1000)).2 ≤ 1000 := twL_le (by decide)
      generalize twL m s (lsT s.1 s.2.1 true false) (none, 1000) = fin at b tb ⊢
      obtain ⟨t1, t2⟩ := fin
      have tb : t2 ≤ 1000 := tb
      rcases t1 with _ | ⟨a, b'⟩
      · have b1 : J 34 = -1 := b.1
        refine g_aload_n (i := 0) rfl rfl ?_
        refine g_iconst (n := 1) rfl ?_
        refine g_virt1 rfl (by decide) rfl hr rfl (Nat.le_of_ble_eq_true rfl) (s_back12 (d := d - 1) (by omega) hr h63 s77) (fun r1 hz hq => ?_)
        obtain ⟨rfl, rfl⟩ := hq
        have hrZ : (h3.set 63 (.inl (0, 64, .inl (fun i => if i < 64 then (fun i => if i < 64 then m.2.2.1 i else sp i) i else ow i))))[60]? = some (mO J) := by rw [s_set_ne (by decide)]; exact hr
        have RZ : (h3.set 63 (.inl (0, 64, .inl (fun i => if i < 64 then (fun i => if i < 64 then m.2.2.1 i else sp i) i else ow i))))[61]? = some (rFc R) := by rw [s_set_ne (by decide)]; exact s61
        have back : ∃ ow', (h3.set 63 (.inl (0, 64, .inl (fun i => if i < 64 then (fun i => if i < 64 then m.2.2.1 i else sp i) i else ow i))))[63]? = some (.inl (0, 64, .inl ow')) ∧ ∀ q, q < 64 → ow' q = m.2.2.1 q := ⟨_, s_set_eq h63, fun q hq => (if_pos hq).trans (if_pos hq)⟩
        refine g_aload_n (i := 0) rfl rfl ?_
        refine g_getfield (v := .int (J 34)) rfl hrZ (by decide) rfl ?_
        refine g_iconst (n := (-1)) rfl ?_
        refine g_icmp_ne 152 rfl rfl (fun hc => absurd hc (by exact fun z => z b1)) (fun _ => ?_)
        refine g_aload_n (i := 0) rfl rfl ?_
        refine g_bipush (n := (-5)) rfl ?_
        refine g_virt1 (Qc := fun r h' => r = some (.int (-5)) ∧ h' = (h3.set 63 (.inl (0, 64, .inl (fun i => if i < 64 then (fun i => if i < 64 then m.2.2.1 i else sp i) i else ow i)))).set 61 (rFc (bump R 5))) rfl (by decide) rfl hrZ rfl (Nat.le_of_ble_eq_true rfl) (s_no2 (X := 5) (by omega) hrZ RZ rfl (by decide)) (fun r h9 hq9 => ?_)
        obtain ⟨rfl, rfl⟩ := hq9
        refine g_ireturn (ty := .int) rfl rfl rfl ?_
        exact s_set_eq RZ
      · have b1 : J 32 = Int32.ofNat a ∧ J 33 = Int32.ofNat b' ∧ J 34 = Int32.ofNat t2 := b
        have n34 : ¬ J 34 = Int32.ofInt (-1) := fun z => by rw [b1.2.2] at z; have z := congrArg Int32.toInt z; rw [ofC_toInt (by omega)] at z; have e1 : (Int32.ofInt (-1)).toInt = -1 := rfl; omega
        refine g_aload_n (i := 0) rfl rfl ?_
        refine g_iconst (n := 1) rfl ?_
        refine g_virt1 rfl (by decide) rfl hr rfl (Nat.le_of_ble_eq_true rfl) (s_back12 (d := d - 1) (by omega) hr h63 s77) (fun r1 hz hq => ?_)
        obtain ⟨rfl, rfl⟩ := hq
        have hrZ : (h3.set 63 (.inl (0, 64, .inl (fun i => if i < 64 then (fun i => if i < 64 then m.2.2.1 i else sp i) i else ow i))))[60]? = some (mO J) := by rw [s_set_ne (by decide)]; exact hr
        have RZ : (h3.set 63 (.inl (0, 64, .inl (fun i => if i < 64 then (fun i => if i < 64 then m.2.2.1 i else sp i) i else ow i))))[61]? = some (rFc R) := by rw [s_set_ne (by decide)]; exact s61
        have back : ∃ ow', (h3.set 63 (.inl (0, 64, .inl (fun i => if i < 64 then (fun i => if i < 64 then m.2.2.1 i else sp i) i else ow i))))[63]? = some (.inl (0, 64, .inl ow')) ∧ ∀ q, q < 64 → ow' q = m.2.2.1 q := ⟨_, s_set_eq h63, fun q hq => (if_pos hq).trans (if_pos hq)⟩
        refine g_aload_n (i := 0) rfl rfl ?_
        refine g_getfield (v := .int (J 34)) rfl hrZ (by decide) rfl ?_
        refine g_iconst (n := (-1)) rfl ?_
        refine g_icmp_ne 152 rfl rfl (fun _ => ?_) (fun hc => absurd hc (by exact n34))
        refine g_iload_n (i := 1) rfl rfl ?_
        have k_2 : (0 : Int32).toInt = 0 := rfl
        refine g_if_ne 163 rfl rfl (fun c_1 => ?_) (fun c_1 => ?_)
        · skip
          rw [i_eq, k_2] at c_1
          refine g_iload_n (i := 1) rfl rfl ?_
          refine g_iconst (n := 1) rfl ?_
          have k_4 : (Int32.ofInt 1).toInt = 1 := rfl
          refine g_icmp_ne 175 rfl rfl (fun c_3 => ?_) (fun c_3 => ?_)
          · skip
            rw [i_eq, k_4] at c_3
            refine g_aload_n (i := 0) rfl rfl ?_
            refine g_getfield (v := .int (J 34)) rfl hrZ (by decide) rfl ?_
            refine g_ireturn (ty := .int) rfl rfl rfl ?_
            exact RZ
          · skip
            rw [i_eq, k_4] at c_3
            refine g_aload_n (i := 0) rfl rfl ?_
            refine g_getfield (v := .int (J 33)) rfl hrZ (by decide) rfl ?_
            refine g_goto 179 rfl rfl ?_
            refine g_ireturn (ty := .int) rfl rfl rfl ?_
            exact RZ
        · skip
          rw [i_eq, k_2] at c_1
          refine g_aload_n (i := 0) rfl rfl ?_
          refine g_getfield (v := .int (J 32)) rfl hrZ (by decide) rfl ?_
          refine g_goto 179 rfl rfl ?_
          refine g_ireturn (ty := .int) rfl rfl rfl ?_
          exact RZ
    · skip
      rw [i_le, k_4] at c_3
      exfalso; omega
theorem s_three12z {d : Nat} {h : sHp} {c : CF} {m : MF} {s : Sg} {sp fc R : Nat → Int32} {x : Int32} (hd : 8 ≤ d) (M : MC h m) (hR : h[61]? = some (rFc R)) (gM : gdM m.1 s.1 s.2.1) (g : gdF c s.1 s.2.1) (r : RB c m) (sI : sgI c s) (sJ : sgJ m.1 s) (h76 : h[76]? = some (.inl (0, 1000, .inl fc))) (h77 : h[77]? = some (.inl (0, 64, .inl sp))) (h2 : s.2.2 = 3) (hx : 0 ≤ x.toInt ∧ x.toInt ≤ 2) : sDo d 236 [.ref 60, .int x] h (fun rv h' => h'[61]? = some (rFc (rfO (oT (thL m s (lsT s.1 s.2.1 false true) (lsT s.1 s.2.1 false true) (none, 1000))) R))) := by
  have w8 := gM.2.2.2.1
  have h8 := gM.2.2.2.2.2
  have hn := gdF_n g
  have e774 : m.1 6 = Int32.ofInt 3 := by rw [sJ.2.2.1, h2]; rfl
  refine sDo_of1 (nL := 5) (L := [some (.ref 60), some (.int x), none, none, none]) (by omega) rfl rfl ?_
  refine g_aload_n (i := 0) rfl rfl ?_
  refine g_getfield (v := .int (m.1 6)) rfl M.1 (by decide) rfl ?_
  refine g_iconst (n := 3) rfl ?_
  refine g_icmp_ne 17 rfl rfl (fun hc => absurd hc (by exact fun z => z e774)) (fun _ => ?_)
  refine g_iload_n (i := 1) rfl rfl ?_
  have k_2 : (0 : Int32).toInt = 0 := rfl
  refine g_if_lt 17 rfl rfl (fun c_1 => ?_) (fun c_1 => ?_)
  · skip
    rw [i_lt, k_2] at c_1
    exfalso; omega
  · skip
    rw [i_lt, k_2] at c_1
    refine g_iload_n (i := 1) rfl rfl ?_
    refine g_iconst (n := 2) rfl ?_
    have k_4 : (Int32.ofInt 2).toInt = 2 := rfl
    refine g_icmp_le 24 rfl rfl (fun c_3 => ?_) (fun c_3 => ?_)
    · skip
      rw [i_le, k_4] at c_3
      refine g_aload_n (i := 0) rfl rfl ?_
      refine g_iconst (n := 0) rfl ?_
      refine g_virt1 rfl (by decide) rfl M.1 rfl (Nat.le_of_ble_eq_true rfl) (s_save12 (d := d - 1) (by omega) M.1 M.2.2.1 h77) (fun r1 ha hq => ?_)
      obtain ⟨rfl, rfl⟩ := hq
      have hrA : (h.set 77 (.inl (0, 64, .inl (fun i => if i < 64 then m.2.2.1 i else sp i))))[60]? = some (mO m.1) := by rw [s_set_ne (by decide)]; exact M.1
      refine g_aload_n (i := 0) rfl rfl ?_
      refine g_bipush (n := 50) rfl ?_
      have hls := s_lists12 (d := d - 1) (kd := (Int8.ofInt 50).toInt32) (b4 := false) (b32 := true) (by omega) gM hrA (by rw [s_set_ne (by decide)]; exact h76) (by decide) (by decide) (by decide) (by decide)
      refine g_virt1 rfl (by decide) rfl hrA rfl (Nat.le_of_ble_eq_true rfl) hls (fun r2 hl hq => ?_)
      obtain ⟨rfl, ⟨J2, fc2, hr2, b2, j31, g76, p1⟩, E2⟩ := hq
      refine g_aload_n (i := 0) rfl rfl ?_
      refine g_iconst (n := (-1)) rfl ?_
      refine g_putfield (h1 := hl.set 60 (mO (upd J2 34 (Int32.ofInt (-1))))) rfl hr2 (by decide) (Nat.le_of_ble_eq_true rfl) rfl rfl ?_
      have o77 : ∀ q, q ≠ 60 → q ≠ 76 → q ≠ 77 → (hl.set 60 (mO (upd J2 34 (Int32.ofInt (-1)))))[q]? = h[q]? := fun q h1 h2 h3 => by rw [s_set_ne (Ne.symm h1), E2.2 q h1 h2, s_set_ne (Ne.symm h3)]
      have MB : MC (hl.set 60 (mO (upd J2 34 (Int32.ofInt (-1))))) ((upd J2 34 (Int32.ofInt (-1)), m.2) : MF) := ⟨s_set_eq hr2, (o77 62 (by decide) (by decide) (by decide)).trans M.2.1, (o77 63 (by decide) (by decide) (by decide)).trans M.2.2.1, (o77 64 (by decide) (by decide) (by decide)).trans M.2.2.2.1, (o77 65 (by decide) (by decide) (by decide)).trans M.2.2.2.2.1, (o77 66 (by decide) (by decide) (by decide)).trans M.2.2.2.2.2⟩
      have b7 : ∀ j, j < 7 → upd J2 34 (Int32.ofInt (-1)) j = m.1 j := fun j hj => (u_ne (by omega)).trans (b2 j (by omega))
      have c77 : (hl.set 60 (mO (upd J2 34 (Int32.ofInt (-1)))))[77]? = some (.inl (0, 64, .inl (fun i => if i < 64 then m.2.2.1 i else sp i))) := by rw [s_set_ne (by decide), E2.2 77 (by decide) (by decide)]; exact s_set_eq h77
      have c61 : (hl.set 60 (mO (upd J2 34 (Int32.ofInt (-1)))))[61]? = some (rFc R) := (o77 61 (by decide) (by decide) (by decide)).trans hR
      have X0 : rX (hl.set 60 (mO (upd J2 34 (Int32.ofInt (-1))))) (hl.set 60 (mO (upd J2 34 (Int32.ofInt (-1))))) (upd J2 34 (Int32.ofInt (-1))) m.2.2.1 := ⟨MB.1, MB.2.2.1, rfl, fun _ _ _ => rfl⟩
      refine g_iconst (n := 0) rfl ?_
      refine g_istore_n (i := 2) (L1 := [some (.ref 60), some (.int x), some (.int (Int32.ofInt 0)), none, none]) rfl (Nat.le_of_ble_eq_true rfl) rfl ?_
      have eT : thL m s (lsT s.1 s.2.1 false true) (lsT s.1 s.2.1 false true) (none, 1000) = thL ((upd J2 34 (Int32.ofInt (-1)), m.2) : MF) s (lsT s.1 s.2.1 false true) (lsT s.1 s.2.1 false true) (none, 1000) := (thL_J b7 _ _).symm
      refine s_three12_go (d := d - 1) (Jb := upd J2 34 (Int32.ofInt (-1))) (m := ((upd J2 34 (Int32.ofInt (-1)), m.2) : MF)) (fin := thL m s (lsT s.1 s.2.1 false true) (lsT s.1 s.2.1 false true) (none, 1000)) (by omega) MB (fun _ _ => rfl) ⟨(b7 0 (by decide)).trans gM.1, (b7 1 (by decide)).trans gM.2.1, gM.2.2⟩ g (RB_J7 r b7) sI ⟨(b7 0 (by decide)).trans sJ.1, (b7 1 (by decide)).trans sJ.2.1, (b7 6 (by decide)).trans sJ.2.2.1, sJ.2.2.2⟩ (ls_k w8 h8) (ls_len w8 h8) ((u_ne (by decide)).trans j31) (by rw [s_set_ne (by decide)]; exact g76) p1 (fun J ow h3 o2 o3 o4 X hJ b => ?_) (lsT s.1 s.2.1 false true) [] (none, 1000) _ _ _ _ _ rfl X0 jE_rfl ⟨u_at, rfl⟩ (by decide) eT.symm
      have hr := X.1
      have h63 := X.2.1
      have s77 := (X.2.2.2 77 (by decide) (by decide)).trans c77
      have s61 := (X.2.2.2 61 (by decide) (by decide)).trans c61
      have tb : (thL m s (lsT s.1 s.2.1 false true) (lsT s.1 s.2.1 false true) (none, 1000)).2 ≤ 1000 := thL_le (by decide)
      generalize thL m s (lsT s.1 s.2.1 false true) (lsT s.1 s.2.1 false true) (none, 1000) = fin at b tb ⊢
      obtain ⟨t1, t2⟩ := fin
      have tb : t2 ≤ 1000 := tb
      rcases t1 with _ | ⟨a, b'⟩
      · have b1 : J 34 = -1 := b.1
        refine g_aload_n (i := 0) rfl rfl ?_
        refine g_iconst (n := 1) rfl ?_
        refine g_virt1 rfl (by decide) rfl hr rfl (Nat.le_of_ble_eq_true rfl) (s_back12 (d := d - 1) (by omega) hr h63 s77) (fun r1 hz hq => ?_)
        obtain ⟨rfl, rfl⟩ := hq
        have hrZ : (h3.set 63 (.inl (0, 64, .inl (fun i => if i < 64 then (fun i => if i < 64 then m.2.2.1 i else sp i) i else ow i))))[60]? = some (mO J) := by rw [s_set_ne (by decide)]; exact hr
        have RZ : (h3.set 63 (.inl (0, 64, .inl (fun i => if i < 64 then (fun i => if i < 64 then m.2.2.1 i else sp i) i else ow i))))[61]? = some (rFc R) := by rw [s_set_ne (by decide)]; exact s61
        have back : ∃ ow', (h3.set 63 (.inl (0, 64, .inl (fun i => if i < 64 then (fun i => if i < 64 then m.2.2.1 i else sp i) i else ow i))))[63]? = some (.inl (0, 64, .inl ow')) ∧ ∀ q, q < 64 → ow' q = m.2.2.1 q := ⟨_, s_set_eq h63, fun q hq => (if_pos hq).trans (if_pos hq)⟩
        refine g_aload_n (i := 0) rfl rfl ?_
        refine g_getfield (v := .int (J 34)) rfl hrZ (by decide) rfl ?_
        refine g_iconst (n := (-1)) rfl ?_
        refine g_icmp_ne 177 rfl rfl (fun hc => absurd hc (by exact fun z => z b1)) (fun _ => ?_)
        refine g_aload_n (i := 0) rfl rfl ?_
        refine g_bipush (n := (-5)) rfl ?_
        refine g_virt1 (Qc := fun r h' => r = some (.int (-5)) ∧ h' = (h3.set 63 (.inl (0, 64, .inl (fun i => if i < 64 then (fun i => if i < 64 then m.2.2.1 i else sp i) i else ow i)))).set 61 (rFc (bump R 5))) rfl (by decide) rfl hrZ rfl (Nat.le_of_ble_eq_true rfl) (s_no2 (X := 5) (by omega) hrZ RZ rfl (by decide)) (fun r h9 hq9 => ?_)
        obtain ⟨rfl, rfl⟩ := hq9
        refine g_ireturn (ty := .int) rfl rfl rfl ?_
        exact s_set_eq RZ
      · have b1 : J 32 = Int32.ofNat a ∧ J 33 = Int32.ofNat b' ∧ J 34 = Int32.ofNat t2 := b
        have n34 : ¬ J 34 = Int32.ofInt (-1) := fun z => by rw [b1.2.2] at z; have z := congrArg Int32.toInt z; rw [ofC_toInt (by omega)] at z; have e1 : (Int32.ofInt (-1)).toInt = -1 := rfl; omega
        refine g_aload_n (i := 0) rfl rfl ?_
        refine g_iconst (n := 1) rfl ?_
        refine g_virt1 rfl (by decide) rfl hr rfl (Nat.le_of_ble_eq_true rfl) (s_back12 (d := d - 1) (by omega) hr h63 s77) (fun r1 hz hq => ?_)
        obtain ⟨rfl, rfl⟩ := hq
        have hrZ : (h3.set 63 (.inl (0, 64, .inl (fun i => if i < 64 then (fun i => if i < 64 then m.2.2.1 i else sp i) i else ow i))))[60]? = some (mO J) := by rw [s_set_ne (by decide)]; exact hr
        have RZ : (h3.set 63 (.inl (0, 64, .inl (fun i => if i < 64 then (fun i => if i < 64 then m.2.2.1 i else sp i) i else ow i))))[61]? = some (rFc R) := by rw [s_set_ne (by decide)]; exact s61
        have back : ∃ ow', (h3.set 63 (.inl (0, 64, .inl (fun i => if i < 64 then (fun i => if i < 64 then m.2.2.1 i else sp i) i else ow i))))[63]? = some (.inl (0, 64, .inl ow')) ∧ ∀ q, q < 64 → ow' q = m.2.2.1 q := ⟨_, s_set_eq h63, fun q hq => (if_pos hq).trans (if_pos hq)⟩
        refine g_aload_n (i := 0) rfl rfl ?_
        refine g_getfield (v := .int (J 34)) rfl hrZ (by decide) rfl ?_
        refine g_iconst (n := (-1)) rfl ?_
        refine g_icmp_ne 177 rfl rfl (fun _ => ?_) (fun hc => absurd hc (by exact n34))
        refine g_iload_n (i := 1) rfl rfl ?_
        have k_2 : (0 : Int32).toInt = 0 := rfl
        refine g_if_ne 188 rfl rfl (fun c_1 => ?_) (fun c_1 => ?_)
        · skip
          rw [i_eq, k_2] at c_1
          refine g_iload_n (i := 1) rfl rfl ?_
          refine g_iconst (n := 1) rfl ?_
          have k_4 : (Int32.ofInt 1).toInt = 1 := rfl
          refine g_icmp_ne 200 rfl rfl (fun c_3 => ?_) (fun c_3 => ?_)
          · skip
            rw [i_eq, k_4] at c_3
            refine g_aload_n (i := 0) rfl rfl ?_
            refine g_getfield (v := .int (J 34)) rfl hrZ (by decide) rfl ?_
            refine g_ireturn (ty := .int) rfl rfl rfl ?_
            exact RZ
          · skip
            rw [i_eq, k_4] at c_3
            refine g_aload_n (i := 0) rfl rfl ?_
            refine g_getfield (v := .int (J 33)) rfl hrZ (by decide) rfl ?_
            refine g_goto 204 rfl rfl ?_
            refine g_ireturn (ty := .int) rfl rfl rfl ?_
            exact RZ
        · skip
          rw [i_eq, k_2] at c_1
          refine g_aload_n (i := 0) rfl rfl ?_
          refine g_getfield (v := .int (J 32)) rfl hrZ (by decide) rfl ?_
          refine g_goto 204 rfl rfl ?_
          refine g_ireturn (ty := .int) rfl rfl rfl ?_
          exact RZ
    · skip
      rw [i_le, k_4] at c_3
      exfalso; omega
theorem s_two12nz {d : Nat} {h : sHp} {m : MF} {s : Sg} {R : Nat → Int32} {x : Int32} (hd : 4 ≤ d) (M : MC h m) (hR : h[61]? = some (rFc R)) (sJ : sgJ m.1 s) (hx : ¬ (s.2.2 = 2 ∧ 0 ≤ x.toInt ∧ x.toInt ≤ 2)) : sDo d 235 [.ref 60, .int x] h (fun rv h' => h'[61]? = some (rFc (bump R 5))) := by
  have n5 := sJ.2.2.2.2.2.2.2
  have e6 : (m.1 6).toInt = ((s.2.2 : Nat) : Int) := by rw [sJ.2.2.1]; exact ofN_toInt (by omega)
  have en : (Int32.ofInt 2).toInt = 2 := rfl
  refine sDo_of1 (nL := 5) (L := [some (.ref 60), some (.int x), none, none, none]) (by omega) rfl rfl ?_
  refine g_aload_n (i := 0) rfl rfl ?_
  refine g_getfield (v := .int (m.1 6)) rfl M.1 (by decide) rfl ?_
  refine g_iconst (n := 2) rfl ?_
  have k_2 : (Int32.ofInt 2).toInt = 2 := rfl
  refine g_icmp_ne 17 rfl rfl (fun c_1 => ?_) (fun c_1 => ?_)
  · skip
    rw [i_eq, e6, k_2] at c_1
    refine g_aload_n (i := 0) rfl rfl ?_
    refine g_bipush (n := (-5)) rfl ?_
    refine g_virt1 (Qc := fun r h' => r = some (.int ((Int8.ofInt (-5)).toInt32)) ∧ h' = h.set 61 (rFc (bump R 5))) rfl (by decide) rfl M.1 rfl (Nat.le_of_ble_eq_true rfl) (s_no2 (X := 5) (by omega) M.1 hR rfl (by decide)) (fun r h9 hq9 => ?_)
    obtain ⟨rfl, rfl⟩ := hq9
    refine g_ireturn (ty := .int) rfl rfl rfl ?_
    exact s_set_eq hR
  · skip
    rw [i_eq, e6, k_2] at c_1
    refine g_iload_n (i := 1) rfl rfl ?_
    have k_4 : (0 : Int32).toInt = 0 := rfl
    refine g_if_lt 17 rfl rfl (fun c_3 => ?_) (fun c_3 => ?_)
    · skip
      rw [i_lt, k_4] at c_3
      refine g_aload_n (i := 0) rfl rfl ?_
      refine g_bipush (n := (-5)) rfl ?_
      refine g_virt1 (Qc := fun r h' => r = some (.int ((Int8.ofInt (-5)).toInt32)) ∧ h' = h.set 61 (rFc (bump R 5))) rfl (by decide) rfl M.1 rfl (Nat.le_of_ble_eq_true rfl) (s_no2 (X := 5) (by omega) M.1 hR rfl (by decide)) (fun r h9 hq9 => ?_)
      obtain ⟨rfl, rfl⟩ := hq9
      refine g_ireturn (ty := .int) rfl rfl rfl ?_
      exact s_set_eq hR
    · skip
      rw [i_lt, k_4] at c_3
      refine g_iload_n (i := 1) rfl rfl ?_
      refine g_iconst (n := 2) rfl ?_
      refine g_icmp_le 24 rfl rfl (fun c_5 => ?_) (fun c_5 => ?_)
      · skip
        rw [i_le, k_2] at c_5
        exfalso; omega
      · skip
        rw [i_le, k_2] at c_5
        refine g_aload_n (i := 0) rfl rfl ?_
        refine g_bipush (n := (-5)) rfl ?_
        refine g_virt1 (Qc := fun r h' => r = some (.int ((Int8.ofInt (-5)).toInt32)) ∧ h' = h.set 61 (rFc (bump R 5))) rfl (by decide) rfl M.1 rfl (Nat.le_of_ble_eq_true rfl) (s_no2 (X := 5) (by omega) M.1 hR rfl (by decide)) (fun r h9 hq9 => ?_)
        obtain ⟨rfl, rfl⟩ := hq9
        refine g_ireturn (ty := .int) rfl rfl rfl ?_
        exact s_set_eq hR
theorem s_three12nz {d : Nat} {h : sHp} {m : MF} {s : Sg} {R : Nat → Int32} {x : Int32} (hd : 4 ≤ d) (M : MC h m) (hR : h[61]? = some (rFc R)) (sJ : sgJ m.1 s) (hx : ¬ (s.2.2 = 3 ∧ 0 ≤ x.toInt ∧ x.toInt ≤ 2)) : sDo d 236 [.ref 60, .int x] h (fun rv h' => h'[61]? = some (rFc (bump R 5))) := by
  have n5 := sJ.2.2.2.2.2.2.2
  have e6 : (m.1 6).toInt = ((s.2.2 : Nat) : Int) := by rw [sJ.2.2.1]; exact ofN_toInt (by omega)
  have en : (Int32.ofInt 3).toInt = 3 := rfl
  refine sDo_of1 (nL := 5) (L := [some (.ref 60), some (.int x), none, none, none]) (by omega) rfl rfl ?_
  refine g_aload_n (i := 0) rfl rfl ?_
  refine g_getfield (v := .int (m.1 6)) rfl M.1 (by decide) rfl ?_
  refine g_iconst (n := 3) rfl ?_
  have k_2 : (Int32.ofInt 3).toInt = 3 := rfl
  refine g_icmp_ne 17 rfl rfl (fun c_1 => ?_) (fun c_1 => ?_)
  · skip
    rw [i_eq, e6, k_2] at c_1
    refine g_aload_n (i := 0) rfl rfl ?_
    refine g_bipush (n := (-5)) rfl ?_
    refine g_virt1 (Qc := fun r h' => r = some (.int ((Int8.ofInt (-5)).toInt32)) ∧ h' = h.set 61 (rFc (bump R 5))) rfl (by decide) rfl M.1 rfl (Nat.le_of_ble_eq_true rfl) (s_no2 (X := 5) (by omega) M.1 hR rfl (by decide)) (fun r h9 hq9 => ?_)
    obtain ⟨rfl, rfl⟩ := hq9
    refine g_ireturn (ty := .int) rfl rfl rfl ?_
    exact s_set_eq hR
  · skip
    rw [i_eq, e6, k_2] at c_1
    refine g_iload_n (i := 1) rfl rfl ?_
    have k_4 : (0 : Int32).toInt = 0 := rfl
    refine g_if_lt 17 rfl rfl (fun c_3 => ?_) (fun c_3 => ?_)
    · skip
      rw [i_lt, k_4] at c_3
      refine g_aload_n (i := 0) rfl rfl ?_
      refine g_bipush (n := (-5)) rfl ?_
      refine g_virt1 (Qc := fun r h' => r = some (.int ((Int8.ofInt (-5)).toInt32)) ∧ h' = h.set 61 (rFc (bump R 5))) rfl (by decide) rfl M.1 rfl (Nat.le_of_ble_eq_true rfl) (s_no2 (X := 5) (by omega) M.1 hR rfl (by decide)) (fun r h9 hq9 => ?_)
      obtain ⟨rfl, rfl⟩ := hq9
      refine g_ireturn (ty := .int) rfl rfl rfl ?_
      exact s_set_eq hR
    · skip
      rw [i_lt, k_4] at c_3
      refine g_iload_n (i := 1) rfl rfl ?_
      refine g_iconst (n := 2) rfl ?_
      have k_6 : (Int32.ofInt 2).toInt = 2 := rfl
      refine g_icmp_le 24 rfl rfl (fun c_5 => ?_) (fun c_5 => ?_)
      · skip
        rw [i_le, k_6] at c_5
        exfalso; omega
      · skip
        rw [i_le, k_6] at c_5
        refine g_aload_n (i := 0) rfl rfl ?_
        refine g_bipush (n := (-5)) rfl ?_
        refine g_virt1 (Qc := fun r h' => r = some (.int ((Int8.ofInt (-5)).toInt32)) ∧ h' = h.set 61 (rFc (bump R 5))) rfl (by decide) rfl M.1 rfl (Nat.le_of_ble_eq_true rfl) (s_no2 (X := 5) (by omega) M.1 hR rfl (by decide)) (fun r h9 hq9 => ?_)
        obtain ⟨rfl, rfl⟩ := hq9
        refine g_ireturn (ty := .int) rfl rfl rfl ?_
        exact s_set_eq hR
theorem s_better11z {d : Nat} {h : sHp} {ik tf : Int32} {R : Nat → Int32} {c : CF} {m : MF} {s : Sg} {ow : Nat → Int32} {B : Nat → Int32} {S1 S2 : Int64} {T : Nat → Int64} (hd : 10 ≤ d) (h0 : h[0]? = some (cO ik tf)) (hR : h[43]? = some (rFc R)) (F : FC h 5 c) (g : gdF c s.1 s.2.1) (r : RB c m) (sI : sgI c s) (P : PT c.2.2.2.2.2.2 ow (s.1 * s.2.1)) (hS : h[38]? = some (sO B S1 S2)) (h41 : h[41]? = some (.inl (1, 7, .inr (.inl T)))) : sDo d 146 [.ref 0] h (fun rv h' => vE h h' ∧ h'[43]? = some (rFc (rfO (oT (btA m s ow)) R))) := by
  have hn := gdF_n g
  have n5 := sI.2.2.2.2.2.2.2
  have hc := cdT_no hn.1 n5 (btA_p (m := m) (ow := ow) hn.1).2
  refine sDo_of1 (nL := 2) (L := [some (.ref 0), none]) (by omega) rfl rfl ?_
  refine g_aload_n (i := 0) rfl rfl ?_
  refine g_getfield (v := .ref 38) rfl h0 (by decide) rfl ?_
  refine g_aload_n (i := 0) rfl rfl ?_
  refine g_getfield (v := .ref 5) rfl h0 (by decide) rfl ?_
  refine g_virt1 rfl (by decide) rfl hS rfl (Nat.le_of_ble_eq_true rfl) (s_change11 (d := d - 1) (m := m) (by omega) F g r sI P hS h41) (fun rv hz hq => ?_)
  obtain ⟨rfl, E, -⟩ := hq
  have z0 := (E.2 0 (by decide)).trans h0
  have z43 := (E.2 43 (by decide)).trans hR
  have vz : vE h hz := ⟨E.1, fun q hq => E.2 q (by omega)⟩
  refine g_istore_n (i := 1) (L1 := [some (.ref 0), some (.int (cdT (btA m s ow)))]) rfl (Nat.le_of_ble_eq_true rfl) rfl ?_
  refine g_iload_n (i := 1) rfl rfl ?_
  refine g_iconst (n := (-1)) rfl ?_
  refine g_icmp_ne 26 rfl rfl (fun c_1 => ?_) (fun c_1 => ?_)
  · skip
    refine g_iload_n (i := 1) rfl rfl ?_
    refine g_ireturn (ty := .int) rfl rfl rfl ?_
    exact ⟨vz, by rw [oT_s (fun z => c_1 (hc.mpr z))]; exact z43⟩
  · skip
    refine g_aload_n (i := 0) rfl rfl ?_
    refine g_bipush (n := (-5)) rfl ?_
    refine g_virt1 (Qc := fun r h' => r = some (.int (-5)) ∧ h' = hz.set 43 (rFc (bump R 5))) rfl (by decide) rfl z0 rfl (Nat.le_of_ble_eq_true rfl) (s_refuse2 (X := 5) (by omega) z0 z43 rfl (by decide)) (fun r h9 hq9 => ?_)
    obtain ⟨rfl, rfl⟩ := hq9
    refine g_goto 27 rfl rfl ?_
    refine g_ireturn (ty := .int) rfl rfl rfl ?_
    exact ⟨⟨by rw [List.length_set]; exact vz.1, fun q hq => by rw [s_set_ne (by omega)]; exact vz.2 q hq⟩, by rw [oT_n (hc.mp c_1)]; exact s_set_eq z43⟩
theorem s_better12z {d : Nat} {h : sHp} {R : Nat → Int32} {c : CF} {m : MF} {s : Sg} (hd : 8 ≤ d) (M : MC h m) (hR : h[61]? = some (rFc R)) (gM : gdM m.1 s.1 s.2.1) (g : gdF c s.1 s.2.1) (r : RB c m) (sI : sgI c s) (sJ : sgJ m.1 s) (ho : ∀ q, q < s.1 * s.2.1 → ∃ k, k < 7 ∧ m.2.2.1 q = cdS k) : sDo d 241 [.ref 60] h (fun rv h' => h'[61]? = some (rFc (rfO (oT (btA m s m.2.2.1)) R))) := by
  have hn := gdF_n g
  have n5 := sI.2.2.2.2.2.2.2
  have hc := cdT_no hn.1 n5 (btA_p (m := m) (ow := m.2.2.1) hn.1).2
  refine sDo_of1 (nL := 2) (L := [some (.ref 60), none]) (by omega) rfl rfl ?_
  refine g_aload_n (i := 0) rfl rfl ?_
  refine g_virt0 rfl (by decide) rfl M.1 rfl (Nat.le_of_ble_eq_true rfl) (s_betd12 (d := d - 1) (m := m) (Jb := m.1) (ow := m.2.2.1) (c := c) (by omega) M (fun _ _ => rfl) gM g r sI sJ ho) (fun rv hz hq => ?_)
  obtain ⟨rfl, J', X, hJ⟩ := hq
  have z61 := (X.2.2.2 61 (by decide) (by decide)).trans hR
  refine g_istore_n (i := 1) (L1 := [some (.ref 60), some (.int (cdT (btA m s m.2.2.1)))]) rfl (Nat.le_of_ble_eq_true rfl) rfl ?_
  refine g_iload_n (i := 1) rfl rfl ?_
  refine g_iconst (n := (-1)) rfl ?_
  refine g_icmp_ne 19 rfl rfl (fun c_1 => ?_) (fun c_1 => ?_)
  · skip
    refine g_iload_n (i := 1) rfl rfl ?_
    refine g_ireturn (ty := .int) rfl rfl rfl ?_
    rw [oT_s (fun z => c_1 (hc.mpr z))]; exact z61
  · skip
    refine g_aload_n (i := 0) rfl rfl ?_
    refine g_bipush (n := (-5)) rfl ?_
    refine g_virt1 (Qc := fun r h' => r = some (.int (-5)) ∧ h' = hz.set 61 (rFc (bump R 5))) rfl (by decide) rfl X.1 rfl (Nat.le_of_ble_eq_true rfl) (s_no2 (X := 5) (by omega) X.1 z61 rfl (by decide)) (fun r h9 hq9 => ?_)
    obtain ⟨rfl, rfl⟩ := hq9
    refine g_goto 20 rfl rfl ?_
    refine g_ireturn (ty := .int) rfl rfl rfl ?_
    rw [oT_n (hc.mp c_1)]; exact s_set_eq z61
