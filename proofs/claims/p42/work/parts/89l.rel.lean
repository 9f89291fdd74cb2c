/-! ===== the reference's item ===== -/
def sgJ (J : Nat → Int32) (s : Sg) : Prop := J 0 = Int32.ofNat s.1 ∧ J 1 = Int32.ofNat s.2.1 ∧ J 6 = Int32.ofNat s.2.2 ∧ 2 ≤ s.1 ∧ s.1 ≤ 8 ∧ 2 ≤ s.2.1 ∧ s.2.1 ≤ 8 ∧ s.2.2 ≤ 5
theorem sgJ_sq {J : Nat → Int32} {s : Sg} (q : sgJ J s) : (J 0 * J 1 - Int32.ofInt 1).toInt = ((s.1 * s.2.1 : Nat) : Int) - 1 := by
  obtain ⟨q1, q2, q3, q4⟩ := q
  exact (sg_sq (c := (upd J 11 (J 6), fun _ => 0, fun _ => 0, fun _ => 0, fun _ _ => 0, fun _ => 0, fun _ => 0)) (s := s) ⟨q1, q2, q3, q4⟩).2
theorem s_itemE {d : Nat} {h : sHp} {J so ow sh fo va : Nat → Int32} {cl : Nat → Int64} {S n A : Nat} {T wd : Nat → Int32} {s : Sg} (M : MC h (J, so, ow, sh, fo, va)) (a8 : h[71]? = some (.inl (1, 800, .inr (.inl cl)))) (hw : h[73]? = some (.inl (0, 42, .inl wd))) (W : WD wd) (R : RT cl S n T) (hJ : rtJ J S n A) (hA : A < 840) (hs : sgJ J s) : sDo (d + 6) 199 [.ref 60] h (qIm h (J, so, ow, sh, fo, va) S n (itmS T A s)) := by
  have hsc := hs
  obtain ⟨q1, q2, q3, q4, q5, q6, q7, q8⟩ := hs
  have e5 : (Int32.ofInt 5).toInt = 5 := rfl
  have eE := ofN_toInt (n := s.2.2) (by omega)
  obtain ⟨if1, if2⟩ := itm_fw (T := T) (p := A) (s := s) W q8
  have rest : ¬ (alS T A 6 4 0 = 4 ∧ s.2.2 = 5) → sGo none 199 (d + 5) 27 [some (.ref 60), none, none, none, none, none, none] [] h (qIm h (J, so, ow, sh, fo, va) S n (itmS T A s)) := by
    intro hnot
    obtain ⟨in1, in2⟩ := if2 hnot
    have hwo := s_wordE (d := 0) M.1 a8 R hJ (by omega) hw W
    refine g_aload_n (i := 0) rfl rfl ?_
    refine g_getfield (v := .int (J 22)) rfl M.1 (by decide) rfl ?_
    rw [hJ.2.1]
    refine g_istore_n (i := 1) (L1 := [some (.ref 60), some (.int (Int32.ofNat A)), none, none, none, none, none]) rfl (Nat.le_of_ble_eq_true rfl) rfl ?_
    refine g_aload_n (i := 0) rfl rfl ?_
    refine g_virt0 rfl (by decide) rfl M.1 rfl (Nat.le_of_ble_eq_true rfl) (sDo_up (d := 1) (by omega) hwo) (fun r h_1 hq => ?_)
    obtain ⟨J1, rfl, js1, hq⟩ := hq
    cases hf : fwS T wd A 7 0 with
    | none =>
      rw [hf] at hq
      obtain rfl := hq
      rw [in1 hf]
      refine g_istore_n (i := 2) (L1 := [some (.ref 60), some (.int (Int32.ofNat A)), some (.int (Int32.ofInt (-1))), none, none, none, none]) rfl (Nat.le_of_ble_eq_true rfl) rfl ?_
      refine g_iload_n (i := 2) rfl rfl ?_
      refine g_iconst (n := (-1)) rfl ?_
      refine g_icmp_ne 44 rfl rfl (fun hc => absurd hc (by exact fun z => z rfl)) (fun _ => ?_)
      refine g_iconst (n := 0) rfl ?_
      refine g_ireturn (ty := .boolean) rfl rfl (by decide) ?_
      exact ⟨rfl, _, MC_0 M, mE_set mE_rfl (by omega)⟩
    | some v =>
      rw [hf] at hq
      obtain ⟨rfl, j22⟩ := hq
      obtain ⟨v7, hwd, hbl, h6⟩ := in2 v hf
      have M1 := MC_0 (f := J1) M
      have wl := wlS_le v
      have hJ1 : rtJ J1 S n (A + wlS v + 1) := jS_rt js1 hJ j22
      have evv := ofN_toInt (n := v) (by omega)
      have em1 : (Int32.ofInt (-1)).toInt = -1 := rfl
      have s1 : sgJ J1 s := ⟨(js1 0 (by decide) (by decide) (by decide)).trans q1, (js1 1 (by decide) (by decide) (by decide)).trans q2, (js1 6 (by decide) (by decide) (by decide)).trans q3, q4, q5, q6, q7, q8⟩
      have sq := sgJ_sq s1
      have sq64 := sq_le (s := s) q5 q7
      have E1 : mE h (h.set 60 (mO J1)) := mE_set mE_rfl (by omega)
      have a81 : (h.set 60 (mO J1))[71]? = some (.inl (1, 800, .inr (.inl cl))) := by rw [s_set_ne (by decide)]; exact a8
      have m01 : mS (J, so, ow, sh, fo, va) (J1, so, ow, sh, fo, va) := ⟨js1, rfl⟩
      refine g_istore_n (i := 2) (L1 := [some (.ref 60), some (.int (Int32.ofNat A)), some (.int (Int32.ofNat v)), none, none, none, none]) rfl (Nat.le_of_ble_eq_true rfl) rfl ?_
      refine g_iload_n (i := 2) rfl rfl ?_
      refine g_iconst (n := (-1)) rfl ?_
      refine g_icmp_ne 44 rfl rfl (fun _ => ?_) (fun hc => absurd hc (by intro z; rw [z, em1] at evv; omega))
      refine g_aload_n (i := 0) rfl rfl ?_
      refine g_getfield (v := .int (J1 0)) rfl M1.1 (by decide) rfl ?_
      refine g_aload_n (i := 0) rfl rfl ?_
      refine g_getfield (v := .int (J1 1)) rfl M1.1 (by decide) rfl ?_
      refine g_imul rfl ?_
      refine g_iconst (n := 1) rfl ?_
      refine g_isub rfl ?_
      refine g_istore_n (i := 3) (L1 := [some (.ref 60), some (.int (Int32.ofNat A)), some (.int (Int32.ofNat v)), some (.int (((J1 0) * (J1 1)) - (Int32.ofInt 1))), none, none, none]) rfl (Nat.le_of_ble_eq_true rfl) rfl ?_
      have x63 : (J1 0 * J1 1 - Int32.ofInt 1).toInt ≤ 63 := by omega
      match v, v7, hwd, hbl, h6, wl, hJ1 with
      | 0, _, hwd, hbl, h6, wl, hJ1 =>
        rw [show itmS T A s = sizS T (A + wlS 0) by unfold itmS; rw [hwd]; rfl]
        exact s_it0 (A := A + wlS 0) (x1 := Int32.ofNat A) (x3 := J1 0 * J1 1 - Int32.ofInt 1) (o4 := none) (o5 := none) (o6 := none) M1 m01 E1 a81 R hJ1 (by omega) (by omega) hbl
      | 1, _, hwd, hbl, h6, wl, hJ1 =>
        rw [show itmS T A s = soiS T (A + wlS 1) (((s.1 * s.2.1 : Nat) : Int) - 1) by unfold itmS; rw [hwd]; rfl]
        have k := s_it1 (d := d + 5) (A := A + wlS 1) (x1 := Int32.ofNat A) (x3 := J1 0 * J1 1 - Int32.ofInt 1) (o4 := none) (o5 := none) (o6 := none) M1 m01 E1 a81 R hJ1 (by omega) (by omega) hbl x63
        rw [sq] at k
        exact k
      | 2, _, hwd, hbl, h6, wl, hJ1 =>
        rw [show itmS T A s = plcS T (A + wlS 2) 0 0 3 by unfold itmS; rw [hwd]; rfl]
        exact s_itP (v := 2) (hi := 3) (A := A + wlS 2) (x1 := Int32.ofNat A) (x3 := J1 0 * J1 1 - Int32.ofInt 1) (o4 := none) (o5 := none) (o6 := none) M1 m01 E1 a81 R hJ1 (by omega) (by omega) hbl ⟨by decide, by decide⟩ rfl
      | 3, _, hwd, hbl, h6, wl, hJ1 =>
        rw [show itmS T A s = plcS T (A + wlS 3) 1 0 (((s.1 * s.2.1 : Nat) : Int) - 1) by unfold itmS; rw [hwd]; rfl]
        exact s_itP (v := 3) (hi := ((s.1 * s.2.1 : Nat) : Int) - 1) (A := A + wlS 3) (x1 := Int32.ofNat A) (x3 := J1 0 * J1 1 - Int32.ofInt 1) (o4 := none) (o5 := none) (o6 := none) M1 m01 E1 a81 R hJ1 (by omega) (by omega) hbl ⟨by decide, by decide⟩ sq.symm
      | 4, _, hwd, hbl, h6, wl, hJ1 =>
        rw [show itmS T A s = plcS T (A + wlS 4) 2 0 (((s.1 * s.2.1 : Nat) : Int) - 1) by unfold itmS; rw [hwd]; rfl]
        exact s_itP (v := 4) (hi := ((s.1 * s.2.1 : Nat) : Int) - 1) (A := A + wlS 4) (x1 := Int32.ofNat A) (x3 := J1 0 * J1 1 - Int32.ofInt 1) (o4 := none) (o5 := none) (o6 := none) M1 m01 E1 a81 R hJ1 (by omega) (by omega) hbl ⟨by decide, by decide⟩ sq.symm
      | 5, _, hwd, hbl, h6, wl, hJ1 =>
        rw [show itmS T A s = plcS T (A + wlS 5) 3 0 20 by unfold itmS; rw [hwd]; rfl]
        exact s_itP (v := 5) (hi := 20) (A := A + wlS 5) (x1 := Int32.ofNat A) (x3 := J1 0 * J1 1 - Int32.ofInt 1) (o4 := none) (o5 := none) (o6 := none) M1 m01 E1 a81 R hJ1 (by omega) (by omega) hbl ⟨by decide, by decide⟩ rfl
      | 6, _, hwd, hbl, h6, wl, hJ1 =>
        rw [show itmS T A s = heiS T (A + wlS 6) s.2.2 by unfold itmS; rw [hwd]; rfl]
        exact s_it6 (A := A + wlS 6) (x1 := Int32.ofNat A) (x3 := J1 0 * J1 1 - Int32.ofInt 1) (o4 := none) (o5 := none) (o6 := none) M1 m01 E1 a81 R hJ1 (by omega) (by omega) hbl s1.2.2.1 (h6 rfl)
      | k + 7, v7, _, _, _, _, _ => exact absurd v7 (by omega)
  refine sDo_of (d := d + 5) (nL := 7) (L := [some (.ref 60), none, none, none, none, none, none]) rfl rfl ?_
  refine g_aload_n (i := 0) rfl rfl ?_
  refine g_bipush (n := 6) rfl ?_
  refine g_virt1 (Qc := fun r h' => h' = h ∧ r = some (.int (if alS T A 6 4 0 = 4 then 1 else 0))) rfl (by decide) rfl M.1 rfl (Nat.le_of_ble_eq_true rfl) (sDo_up (d := 1) (by omega) (s_isWordAt (d := 0) M.1 a8 R hJ (by omega) hw W)) (fun r h9 hq => ?_)
  obtain ⟨rfl, rfl⟩ := hq
  by_cases c4 : alS T A 6 4 0 = 4
  · skip
    rw [if_pos c4]
    refine g_if_eq 27 rfl rfl (fun hc => absurd hc (by decide)) (fun _ => ?_)
    refine g_aload_n (i := 0) rfl rfl ?_
    refine g_bipush (n := 6) rfl ?_
    refine g_virt1 (Qc := fun r h' => h' = h9 ∧ r = some (.int (if J 6 = 5 then 1 else 0))) rfl (by decide) rfl M.1 rfl (Nat.le_of_ble_eq_true rfl) (sDo_up (d := 1) (by omega) (s_isWordFull (d := 0) M.1)) (fun r h8 hq => ?_)
    obtain ⟨rfl, rfl⟩ := hq
    by_cases c5 : s.2.2 = 5
    · skip
      rw [if_pos (show J 6 = 5 by rw [q3, c5]; rfl)]
      refine g_if_eq 27 rfl rfl (fun hc => absurd hc (by decide)) (fun _ => ?_)
      refine g_aload_n (i := 0) rfl rfl ?_
      refine g_aload_n (i := 0) rfl rfl ?_
      refine g_getfield (v := .int (J 22)) rfl M.1 (by decide) rfl ?_
      refine g_virt1 (Qc := fun r h' => r = some (.int 0) ∧ h' = List.set h8 60 (mO (upd J 25 (J 22)))) rfl (by decide) rfl M.1 rfl (Nat.le_of_ble_eq_true rfl) (sDo_up (d := 1) (by omega) (s_wrongE (d := 0) M.1)) (fun r h7 hq9 => ?_)
      obtain ⟨rfl, rfl⟩ := hq9
      refine g_ireturn (ty := .boolean) rfl rfl (by decide) ?_
      rw [if1 ⟨c4, c5⟩]
      exact ⟨rfl, _, MC_0 M, mE_set mE_rfl (by omega)⟩
    · skip
      rw [if_neg (show ¬ J 6 = 5 from fun z => by rw [q3] at z; have z2 := congrArg Int32.toInt z; rw [eE] at z2; exact c5 (by have : ((5 : Int32)).toInt = 5 := rfl; omega))]
      refine g_if_eq 27 rfl rfl (fun _ => ?_) (fun hc => absurd hc (by decide))
      exact rest (fun z => c5 z.2)
  · skip
    rw [if_neg c4]
    refine g_if_eq 27 rfl rfl (fun _ => ?_) (fun hc => absurd hc (by decide))
    exact rest (fun z => c4 z.1)
