/-! ===== status ===== -/
def bRZ (h : sHp) : Prop := (bR10 h ∧ bOw h) ∧ bTR h
theorem RfT_fr {W gg : Nat} {h h' : sHp} (a : bFr W gg h h') (w1 : W.testBit (43 * 64) = false) (w2 : W.testBit (61 * 64) = false) (q : RfT h) : RfT h' := by
  obtain ⟨R, Rm, r43, r61, eR⟩ := q
  exact ⟨R, Rm, bFr_rf (Or.inl rfl) a w1 r43, bFr_rf (Or.inr rfl) a w2 r61, eR⟩
theorem pr_iff {A B : sHp → Prop} {k1 k2 : Nat} {as : List Value} (ab : ∀ h, A h → B h) (ba : ∀ h, B h → A h) (p : pairR A k1 k2 as) : pairR B k1 k2 as := fun h hH hR => sDo_mono (p h hH (ba h hR)) (fun r1 h1 q => ⟨q.1, q.2.1, sDo_mono q.2.2 (fun r2 h2 z => ⟨z.1, z.2.1, ab _ z.2.2.1, z.2.2.2⟩)⟩)
/-- what status answers: counts of refusals R, what else there is V -/
def zsV (R V : Nat → Int32) (x : Int) : Int32 := if 10 < x ∧ x ≤ 17 then R (x - 10).toNat else if 0 ≤ x ∧ x ≤ 8 then V x.toNat else -1
theorem zsV_eq {R R2 V V2 : Nat → Int32} {x : Int} (a : ∀ X, X < 8 → R X = R2 X) (b : ∀ j, j < 9 → V j = V2 j) : zsV R V x = zsV R2 V2 x := by
  unfold zsV
  by_cases h1 : 10 < x ∧ x ≤ 17
  · rw [if_pos h1, if_pos h1]; exact a _ (by omega)
  · rw [if_neg h1, if_neg h1]
    by_cases h2 : 0 ≤ x ∧ x ≤ 8
    · rw [if_pos h2, if_pos h2]; exact b _ (by omega)
    · rw [if_neg h2, if_neg h2]
theorem zsV_r {R V : Nat → Int32} {x : Int} (h : 10 < x ∧ x ≤ 17) : zsV R V x = R (x - 10).toNat := if_pos h
theorem zsV_v {R V : Nat → Int32} {x : Int} {k : Nat} (h : x = k) (hk : k < 9) : zsV R V x = V k := by
  unfold zsV
  rw [if_neg (show ¬ (10 < x ∧ x ≤ 17) by omega), if_pos (show 0 ≤ x ∧ x ≤ 8 by omega), show x.toNat = k by omega]
theorem zsV_n {R V : Nat → Int32} {x : Int} (h : ¬ (10 < x ∧ x ≤ 17)) (h2 : x < 0 ∨ 8 < x) : zsV R V x = -1 := by
  unfold zsV
  rw [if_neg h, if_neg (show ¬ (0 ≤ x ∧ x ≤ 8) by omega)]
def zsC (c : CF) (K l : Nat) : Nat → Int32
  | 0 => c.1 0
  | 1 => c.1 1
  | 2 => c.1 11
  | 3 => c.1 7
  | 4 => c.1 8
  | 5 => c.1 9
  | 6 => c.1 10
  | 7 => Int32.ofNat K
  | _ => Int32.ofNat l
def zsM (J : Nat → Int32) (K : Nat) : Nat → Int32
  | 0 => J 0
  | 1 => J 1
  | 2 => J 6
  | 3 => J 2
  | 4 => J 3
  | 5 => J 4
  | 6 => J 5
  | 7 => Int32.ofNat K
  | _ => J 36
theorem s_st11_sw {d : Nat} {h : sHp} {ik tf so : Int32} {R : Nat → Int32} {c : CF} {s : Sg} {x : Int32} {l : Nat} (hd : 3 ≤ d) (h0 : h[0]? = some (cO ik tf)) (F : FC h 5 c) (g : gdF c s.1 s.2.1) (h3 : h[3]? = some (.inr (7, [.int so, .int (Int32.ofNat l), .ref 4]))) (hx : ¬ (10 < x.toInt ∧ x.toInt ≤ 17)) : sGo none 156 d 22 [some (.ref 0), some (.int x)] [] h (fun r h' => r = some (.int (zsV R (zsC c (cnt ((stO (fun _ => true) (s.1 * s.2.1) &&& (c.2.2.2.2.2.2 5 ^^^ Int64.ofNat 18446744073709551615)) &&& (c.2.2.2.2.2.2 6 ^^^ Int64.ofNat 18446744073709551615))) l) x.toInt)) ∧ h' = h) := by
  refine g_iload_n (i := 1) rfl rfl ?_
  rcases (show x.toInt = (0 : Nat) ∨ x.toInt = (1 : Nat) ∨ x.toInt = (2 : Nat) ∨ x.toInt = (3 : Nat) ∨ x.toInt = (4 : Nat) ∨ x.toInt = (5 : Nat) ∨ x.toInt = (6 : Nat) ∨ x.toInt = (7 : Nat) ∨ x.toInt = (8 : Nat) ∨ (x.toInt < 0 ∨ 8 < x.toInt) by omega) with hv | hv | hv | hv | hv | hv | hv | hv | hv | hv
  · skip
    refine g_tsIn 0 72 rfl (by omega) (by rw [hv]; rfl) rfl rfl ?_
    refine g_aload_n (i := 0) rfl rfl ?_
    refine g_getfield (v := .ref 5) rfl h0 (by decide) rfl ?_
    refine g_getfield (v := .int (c.1 0)) rfl F.1 (by decide) rfl ?_
    refine g_ireturn (ty := .int) rfl rfl rfl ?_
    exact ⟨(congrArg (fun z => some (Value.int z)) (zsV_v (V := (zsC c (cnt ((stO (fun _ => true) (s.1 * s.2.1) &&& (c.2.2.2.2.2.2 5 ^^^ Int64.ofNat 18446744073709551615)) &&& (c.2.2.2.2.2.2 6 ^^^ Int64.ofNat 18446744073709551615))) l)) hv (by decide))).symm, rfl⟩
  · skip
    refine g_tsIn 1 80 rfl (by omega) (by rw [hv]; rfl) rfl rfl ?_
    refine g_aload_n (i := 0) rfl rfl ?_
    refine g_getfield (v := .ref 5) rfl h0 (by decide) rfl ?_
    refine g_getfield (v := .int (c.1 1)) rfl F.1 (by decide) rfl ?_
    refine g_ireturn (ty := .int) rfl rfl rfl ?_
    exact ⟨(congrArg (fun z => some (Value.int z)) (zsV_v (V := (zsC c (cnt ((stO (fun _ => true) (s.1 * s.2.1) &&& (c.2.2.2.2.2.2 5 ^^^ Int64.ofNat 18446744073709551615)) &&& (c.2.2.2.2.2.2 6 ^^^ Int64.ofNat 18446744073709551615))) l)) hv (by decide))).symm, rfl⟩
  · skip
    refine g_tsIn 2 88 rfl (by omega) (by rw [hv]; rfl) rfl rfl ?_
    refine g_aload_n (i := 0) rfl rfl ?_
    refine g_getfield (v := .ref 5) rfl h0 (by decide) rfl ?_
    refine g_getfield (v := .int (c.1 11)) rfl F.1 (by decide) rfl ?_
    refine g_ireturn (ty := .int) rfl rfl rfl ?_
    exact ⟨(congrArg (fun z => some (Value.int z)) (zsV_v (V := (zsC c (cnt ((stO (fun _ => true) (s.1 * s.2.1) &&& (c.2.2.2.2.2.2 5 ^^^ Int64.ofNat 18446744073709551615)) &&& (c.2.2.2.2.2.2 6 ^^^ Int64.ofNat 18446744073709551615))) l)) hv (by decide))).symm, rfl⟩
  · skip
    refine g_tsIn 3 96 rfl (by omega) (by rw [hv]; rfl) rfl rfl ?_
    refine g_aload_n (i := 0) rfl rfl ?_
    refine g_getfield (v := .ref 5) rfl h0 (by decide) rfl ?_
    refine g_iload_n (i := 1) rfl rfl ?_
    refine g_iconst (n := 3) rfl ?_
    refine g_isub rfl ?_
    have hv3 : (x - Int32.ofInt 3).toInt = ((0 : Nat) : Int) := by rw [i_sub (by rw [hv]; decide) (by rw [hv]; decide), hv]; decide
    refine g_virt1 (Qc := fun r h' => h' = h ∧ r = some (.int (c.1 (7 + 0)))) rfl (by decide) rfl F.1 rfl (Nat.le_of_ble_eq_true rfl) (s_placeOf (by omega) F (by decide) hv3) (fun r h hq9 => ?_)
    obtain ⟨rfl, rfl⟩ := hq9
    refine g_ireturn (ty := .int) rfl rfl rfl ?_
    exact ⟨(congrArg (fun z => some (Value.int z)) (zsV_v (V := (zsC c (cnt ((stO (fun _ => true) (s.1 * s.2.1) &&& (c.2.2.2.2.2.2 5 ^^^ Int64.ofNat 18446744073709551615)) &&& (c.2.2.2.2.2.2 6 ^^^ Int64.ofNat 18446744073709551615))) l)) hv (by decide))).symm, rfl⟩
  · skip
    refine g_tsIn 4 96 rfl (by omega) (by rw [hv]; rfl) rfl rfl ?_
    refine g_aload_n (i := 0) rfl rfl ?_
    refine g_getfield (v := .ref 5) rfl h0 (by decide) rfl ?_
    refine g_iload_n (i := 1) rfl rfl ?_
    refine g_iconst (n := 3) rfl ?_
    refine g_isub rfl ?_
    have hv3 : (x - Int32.ofInt 3).toInt = ((1 : Nat) : Int) := by rw [i_sub (by rw [hv]; decide) (by rw [hv]; decide), hv]; decide
    refine g_virt1 (Qc := fun r h' => h' = h ∧ r = some (.int (c.1 (7 + 1)))) rfl (by decide) rfl F.1 rfl (Nat.le_of_ble_eq_true rfl) (s_placeOf (by omega) F (by decide) hv3) (fun r h hq9 => ?_)
    obtain ⟨rfl, rfl⟩ := hq9
    refine g_ireturn (ty := .int) rfl rfl rfl ?_
    exact ⟨(congrArg (fun z => some (Value.int z)) (zsV_v (V := (zsC c (cnt ((stO (fun _ => true) (s.1 * s.2.1) &&& (c.2.2.2.2.2.2 5 ^^^ Int64.ofNat 18446744073709551615)) &&& (c.2.2.2.2.2.2 6 ^^^ Int64.ofNat 18446744073709551615))) l)) hv (by decide))).symm, rfl⟩
  · skip
    refine g_tsIn 5 96 rfl (by omega) (by rw [hv]; rfl) rfl rfl ?_
    refine g_aload_n (i := 0) rfl rfl ?_
    refine g_getfield (v := .ref 5) rfl h0 (by decide) rfl ?_
    refine g_iload_n (i := 1) rfl rfl ?_
    refine g_iconst (n := 3) rfl ?_
    refine g_isub rfl ?_
    have hv3 : (x - Int32.ofInt 3).toInt = ((2 : Nat) : Int) := by rw [i_sub (by rw [hv]; decide) (by rw [hv]; decide), hv]; decide
    refine g_virt1 (Qc := fun r h' => h' = h ∧ r = some (.int (c.1 (7 + 2)))) rfl (by decide) rfl F.1 rfl (Nat.le_of_ble_eq_true rfl) (s_placeOf (by omega) F (by decide) hv3) (fun r h hq9 => ?_)
    obtain ⟨rfl, rfl⟩ := hq9
    refine g_ireturn (ty := .int) rfl rfl rfl ?_
    exact ⟨(congrArg (fun z => some (Value.int z)) (zsV_v (V := (zsC c (cnt ((stO (fun _ => true) (s.1 * s.2.1) &&& (c.2.2.2.2.2.2 5 ^^^ Int64.ofNat 18446744073709551615)) &&& (c.2.2.2.2.2.2 6 ^^^ Int64.ofNat 18446744073709551615))) l)) hv (by decide))).symm, rfl⟩
  · skip
    refine g_tsIn 6 96 rfl (by omega) (by rw [hv]; rfl) rfl rfl ?_
    refine g_aload_n (i := 0) rfl rfl ?_
    refine g_getfield (v := .ref 5) rfl h0 (by decide) rfl ?_
    refine g_iload_n (i := 1) rfl rfl ?_
    refine g_iconst (n := 3) rfl ?_
    refine g_isub rfl ?_
    have hv3 : (x - Int32.ofInt 3).toInt = ((3 : Nat) : Int) := by rw [i_sub (by rw [hv]; decide) (by rw [hv]; decide), hv]; decide
    refine g_virt1 (Qc := fun r h' => h' = h ∧ r = some (.int (c.1 (7 + 3)))) rfl (by decide) rfl F.1 rfl (Nat.le_of_ble_eq_true rfl) (s_placeOf (by omega) F (by decide) hv3) (fun r h hq9 => ?_)
    obtain ⟨rfl, rfl⟩ := hq9
    refine g_ireturn (ty := .int) rfl rfl rfl ?_
    exact ⟨(congrArg (fun z => some (Value.int z)) (zsV_v (V := (zsC c (cnt ((stO (fun _ => true) (s.1 * s.2.1) &&& (c.2.2.2.2.2.2 5 ^^^ Int64.ofNat 18446744073709551615)) &&& (c.2.2.2.2.2.2 6 ^^^ Int64.ofNat 18446744073709551615))) l)) hv (by decide))).symm, rfl⟩
  · skip
    refine g_tsIn 7 107 rfl (by omega) (by rw [hv]; rfl) rfl rfl ?_
    refine g_aload_n (i := 0) rfl rfl ?_
    refine g_getfield (v := .ref 5) rfl h0 (by decide) rfl ?_
    refine g_virt0 (Qc := fun r h' => h' = h ∧ r = some (.int (Int32.ofNat (cnt ((stO (fun _ => true) (s.1 * s.2.1) &&& (c.2.2.2.2.2.2 5 ^^^ Int64.ofNat 18446744073709551615)) &&& (c.2.2.2.2.2.2 6 ^^^ Int64.ofNat 18446744073709551615)))))) rfl (by decide) rfl F.1 rfl (Nat.le_of_ble_eq_true rfl) (s_heirs11 (by omega) F g) (fun r h hq9 => ?_)
    obtain ⟨rfl, rfl⟩ := hq9
    refine g_ireturn (ty := .int) rfl rfl rfl ?_
    exact ⟨(congrArg (fun z => some (Value.int z)) (zsV_v (V := (zsC c (cnt ((stO (fun _ => true) (s.1 * s.2.1) &&& (c.2.2.2.2.2.2 5 ^^^ Int64.ofNat 18446744073709551615)) &&& (c.2.2.2.2.2.2 6 ^^^ Int64.ofNat 18446744073709551615))) l)) hv (by decide))).symm, rfl⟩
  · skip
    refine g_tsIn 8 115 rfl (by omega) (by rw [hv]; rfl) rfl rfl ?_
    refine g_aload_n (i := 0) rfl rfl ?_
    refine g_getfield (v := .ref 3) rfl h0 (by decide) rfl ?_
    refine g_getfield (v := .int (Int32.ofNat l)) rfl h3 (by decide) rfl ?_
    refine g_ireturn (ty := .int) rfl rfl rfl ?_
    exact ⟨(congrArg (fun z => some (Value.int z)) (zsV_v (V := (zsC c (cnt ((stO (fun _ => true) (s.1 * s.2.1) &&& (c.2.2.2.2.2.2 5 ^^^ Int64.ofNat 18446744073709551615)) &&& (c.2.2.2.2.2.2 6 ^^^ Int64.ofNat 18446744073709551615))) l)) hv (by decide))).symm, rfl⟩
  · skip
    refine g_tsOut 123 rfl (by omega) rfl ?_
    refine g_iconst (n := (-1)) rfl ?_
    refine g_ireturn (ty := .int) rfl rfl rfl ?_
    exact ⟨(congrArg (fun z => some (Value.int z)) (zsV_n hx hv)).symm, rfl⟩
theorem s_status11 {d : Nat} {h : sHp} {ik tf so : Int32} {R : Nat → Int32} {c : CF} {s : Sg} {x : Int32} {l : Nat} (hd : 4 ≤ d) (h0 : h[0]? = some (cO ik tf)) (F : FC h 5 c) (g : gdF c s.1 s.2.1) (h3 : h[3]? = some (.inr (7, [.int so, .int (Int32.ofNat l), .ref 4]))) (hR : h[43]? = some (rFc R)) : sDo d 156 [.ref 0, .int x] h (fun r h' => r = some (.int (zsV R (zsC c (cnt ((stO (fun _ => true) (s.1 * s.2.1) &&& (c.2.2.2.2.2.2 5 ^^^ Int64.ofNat 18446744073709551615)) &&& (c.2.2.2.2.2.2 6 ^^^ Int64.ofNat 18446744073709551615))) l) x.toInt)) ∧ h' = h) := by
  refine sDo_of1 (nL := 2) (L := [some (.ref 0), some (.int x)]) (by omega) rfl rfl ?_
  refine g_iload_n (i := 1) rfl rfl ?_
  refine g_bipush (n := 10) rfl ?_
  have k_2 : ((Int8.ofInt 10).toInt32).toInt = 10 := rfl
  refine g_icmp_le 22 rfl rfl (fun c_1 => ?_) (fun c_1 => ?_)
  · skip
    rw [i_le, k_2] at c_1
    exact s_st11_sw (d := d - 1) (by omega) h0 F g h3 (by omega)
  · skip
    rw [i_le, k_2] at c_1
    refine g_iload_n (i := 1) rfl rfl ?_
    refine g_bipush (n := 17) rfl ?_
    have k_4 : ((Int8.ofInt 17).toInt32).toInt = 17 := rfl
    refine g_icmp_gt 22 rfl rfl (fun c_3 => ?_) (fun c_3 => ?_)
    · skip
      rw [i_lt, k_4] at c_3
      exact s_st11_sw (d := d - 1) (by omega) h0 F g h3 (by omega)
    · skip
      rw [i_lt, k_4] at c_3
      refine g_aload_n (i := 0) rfl rfl ?_
      refine g_getfield (v := .ref 43) rfl h0 (by decide) rfl ?_
      refine g_iload_n (i := 1) rfl rfl ?_
      refine g_bipush (n := 10) rfl ?_
      refine g_isub rfl ?_
      have t_5 : (x - (Int8.ofInt 10).toInt32).toInt = x.toInt - 10 := by rw [i_sub (by rw [k_2]; omega) (by rw [k_2]; omega), k_2]
      have t10 : (x - (Int8.ofInt 10).toInt32).toInt = x.toInt - 10 := t_5
      refine g_iaload (n := 8) (f := R) rfl hR (i_in (by omega) (by omega)) ?_
      refine g_ireturn (ty := .int) rfl rfl rfl ?_
      exact ⟨(congrArg (fun z => some (Value.int (R z))) (congrArg Int.toNat t10)).trans (congrArg (fun z => some (Value.int z)) (zsV_r ⟨by omega, by omega⟩)).symm, rfl⟩
theorem s_st12_go {d : Nat} {h : sHp} {m : MF} {s : Sg} {x : Int32} (hd : 2 ≤ d) (M : MC h m) (gM : gdM m.1 s.1 s.2.1) (sJ : sgJ m.1 s) : ∀ (f k : Nat), k + f = s.1 * s.2.1 → sGo none 256 d 113 [some (.ref 60), some (.int x), some (.int (Int32.ofNat (hcN s.2.2 m.2.2.1 k))), some (.int (Int32.ofNat k))] [] h (fun r h' => r = some (.int (Int32.ofNat (hcN s.2.2 m.2.2.1 (s.1 * s.2.1)))) ∧ h' = h) := by
  have gd := gM
  obtain ⟨gw, gh, w2, w8, h2, h8⟩ := gd
  have hn := gdM_n gM
  have hw0 : (m.1 0).toInt = ((s.1 : Nat) : Int) := by rw [gw]; exact ofN_toInt (by omega)
  have hw1 : (m.1 1).toInt = ((s.2.1 : Nat) : Int) := by rw [gh]; exact ofN_toInt (by omega)
  have hwn : (m.1 0 * m.1 1).toInt = ((s.1 * s.2.1 : Nat) : Int) := n_mul hw0 hw1 (by omega)
  have n5 := sJ.2.2.2.2.2.2.2
  intro f
  induction f with
  | zero =>
    intro k hk
    have eW : s.1 * s.2.1 = k := by omega
    have ek := ofN_toInt (n := k) (by omega)
    refine g_iload_n (i := 3) rfl rfl ?_
    refine g_aload_n (i := 0) rfl rfl ?_
    refine g_getfield (v := .int (m.1 0)) rfl M.1 (by decide) rfl ?_
    refine g_aload_n (i := 0) rfl rfl ?_
    refine g_getfield (v := .int (m.1 1)) rfl M.1 (by decide) rfl ?_
    refine g_imul rfl ?_
    refine g_icmp_ge 153 rfl rfl (fun _ => ?_) (fun hc => absurd hc (by rw [i_le, hwn, ek]; omega))
    refine g_iload_n (i := 2) rfl rfl ?_
    refine g_ireturn (ty := .int) rfl rfl rfl ?_
    exact ⟨by rw [eW], rfl⟩
  | succ f ih =>
    intro k hk
    have ek := ofN_toInt (n := k) (by omega)
    have hcl := hcN_le (N := s.2.2) (ow := m.2.2.1) k
    have eh := ofN_toInt (n := (hcN s.2.2 m.2.2.1 k)) (by omega)
    refine g_iload_n (i := 3) rfl rfl ?_
    refine g_aload_n (i := 0) rfl rfl ?_
    refine g_getfield (v := .int (m.1 0)) rfl M.1 (by decide) rfl ?_
    refine g_aload_n (i := 0) rfl rfl ?_
    refine g_getfield (v := .int (m.1 1)) rfl M.1 (by decide) rfl ?_
    refine g_imul rfl ?_
    refine g_icmp_ge 153 rfl rfl (fun hc => absurd hc (by rw [i_le, hwn, ek]; omega)) (fun _ => ?_)
    refine g_iload_n (i := 2) rfl rfl ?_
    refine g_aload_n (i := 0) rfl rfl ?_
    refine g_aload_n (i := 0) rfl rfl ?_
    refine g_getfield (v := .ref 63) rfl M.1 (by decide) rfl ?_
    refine g_iload_n (i := 3) rfl rfl ?_
    refine g_iaload (n := 64) (f := m.2.2.1) rfl M.2.2.1 (i_in (by omega) (by omega)) ?_
    rw [i_nat ek]
    refine g_virt1 (Qc := fun r h' => h' = h ∧ (((0 ≤ (m.2.2.1 k).toInt ∧ (m.2.2.1 k).toInt < (s.2.2 : Int)) ∧ r = some (.int 1)) ∨ (¬ (0 ≤ (m.2.2.1 k).toInt ∧ (m.2.2.1 k).toInt < (s.2.2 : Int)) ∧ r = some (.int 0)))) rfl (by decide) rfl M.1 rfl (Nat.le_of_ble_eq_true rfl) (s_hr12 (by omega) M.1 sJ.2.2.1 n5) (fun r h hq9 => ?_)
    obtain ⟨rfl, ⟨c_1, rfl⟩ | ⟨c_1, rfl⟩⟩ := hq9
    · skip
      have ec : (hcN s.2.2 m.2.2.1 (k + 1)) = (hcN s.2.2 m.2.2.1 k) + 1 := by
        show (hcN s.2.2 m.2.2.1 k) + _ = _
        rw [if_pos c_1]
      refine g_if_eq 144 rfl rfl (fun hc => absurd hc (by decide)) (fun _ => ?_)
      refine g_iconst (n := 1) rfl ?_
      refine g_goto 145 rfl rfl ?_
      have e_v : (Int32.ofInt 1).toInt = 1 := rfl
      refine g_iadd rfl ?_
      rw [show (Int32.ofNat (hcN s.2.2 m.2.2.1 k)) + (Int32.ofInt 1) = Int32.ofNat (hcN s.2.2 m.2.2.1 (k + 1)) from Int32.toInt_inj.mp (by rw [i_add (by rw [eh, e_v]; omega) (by rw [eh, e_v]; omega), eh, e_v, ofN_toInt (by omega), ec] <;> omega)]
      refine g_istore_n (i := 2) (L1 := [some (.ref 60), some (.int x), some (.int (Int32.ofNat (hcN s.2.2 m.2.2.1 (k + 1)))), some (.int (Int32.ofNat k))]) rfl (Nat.le_of_ble_eq_true rfl) rfl ?_
      refine g_iinc (i := 3) (L1 := [some (.ref 60), some (.int x), some (.int (Int32.ofNat (hcN s.2.2 m.2.2.1 (k + 1)))), some (.int ((Int32.ofNat k) + Int32.ofInt 1))]) rfl rfl rfl ?_
      rw [ofN_add (by omega)]
      refine g_goto 113 rfl rfl ?_
      exact ih (k + 1) (by omega)
    · skip
      have ec : (hcN s.2.2 m.2.2.1 (k + 1)) = (hcN s.2.2 m.2.2.1 k) := by
        show (hcN s.2.2 m.2.2.1 k) + _ = _
        rw [if_neg c_1, Nat.add_zero]
      refine g_if_eq 144 rfl rfl (fun _ => ?_) (fun hc => absurd hc (by decide))
      refine g_iconst (n := 0) rfl ?_
      have e_v : (Int32.ofInt 0).toInt = 0 := rfl
      refine g_iadd rfl ?_
      rw [show (Int32.ofNat (hcN s.2.2 m.2.2.1 k)) + (Int32.ofInt 0) = Int32.ofNat (hcN s.2.2 m.2.2.1 (k + 1)) from Int32.toInt_inj.mp (by rw [i_add (by rw [eh, e_v]; omega) (by rw [eh, e_v]; omega), eh, e_v, ofN_toInt (by omega), ec] <;> omega)]
      refine g_istore_n (i := 2) (L1 := [some (.ref 60), some (.int x), some (.int (Int32.ofNat (hcN s.2.2 m.2.2.1 (k + 1)))), some (.int (Int32.ofNat k))]) rfl (Nat.le_of_ble_eq_true rfl) rfl ?_
      refine g_iinc (i := 3) (L1 := [some (.ref 60), some (.int x), some (.int (Int32.ofNat (hcN s.2.2 m.2.2.1 (k + 1)))), some (.int ((Int32.ofNat k) + Int32.ofInt 1))]) rfl rfl rfl ?_
      rw [ofN_add (by omega)]
      refine g_goto 113 rfl rfl ?_
      exact ih (k + 1) (by omega)
theorem s_st12_sw {d : Nat} {h : sHp} {R : Nat → Int32} {m : MF} {s : Sg} {x : Int32} (hd : 2 ≤ d) (M : MC h m) (gM : gdM m.1 s.1 s.2.1) (sJ : sgJ m.1 s) (hx : ¬ (10 < x.toInt ∧ x.toInt ≤ 17)) : sGo none 256 d 22 [some (.ref 60), some (.int x), none, none] [] h (fun r h' => r = some (.int (zsV R (zsM m.1 (hcN s.2.2 m.2.2.1 (s.1 * s.2.1))) x.toInt)) ∧ h' = h) := by
  refine g_iconst (n := 0) rfl ?_
  refine g_istore_n (i := 2) (L1 := [some (.ref 60), some (.int x), some (.int (Int32.ofInt 0)), none]) rfl (Nat.le_of_ble_eq_true rfl) rfl ?_
  refine g_iload_n (i := 1) rfl rfl ?_
  rcases (show x.toInt = (0 : Nat) ∨ x.toInt = (1 : Nat) ∨ x.toInt = (2 : Nat) ∨ x.toInt = (3 : Nat) ∨ x.toInt = (4 : Nat) ∨ x.toInt = (5 : Nat) ∨ x.toInt = (6 : Nat) ∨ x.toInt = (7 : Nat) ∨ x.toInt = (8 : Nat) ∨ (x.toInt < 0 ∨ 8 < x.toInt) by omega) with hv | hv | hv | hv | hv | hv | hv | hv | hv | hv
  · skip
    refine g_tsIn 0 76 rfl (by omega) (by rw [hv]; rfl) rfl rfl ?_
    refine g_aload_n (i := 0) rfl rfl ?_
    refine g_getfield (v := .int (m.1 0)) rfl M.1 (by decide) rfl ?_
    refine g_ireturn (ty := .int) rfl rfl rfl ?_
    exact ⟨(congrArg (fun z => some (Value.int z)) (zsV_v (V := (zsM m.1 (hcN s.2.2 m.2.2.1 (s.1 * s.2.1)))) hv (by decide))).symm, rfl⟩
  · skip
    refine g_tsIn 1 81 rfl (by omega) (by rw [hv]; rfl) rfl rfl ?_
    refine g_aload_n (i := 0) rfl rfl ?_
    refine g_getfield (v := .int (m.1 1)) rfl M.1 (by decide) rfl ?_
    refine g_ireturn (ty := .int) rfl rfl rfl ?_
    exact ⟨(congrArg (fun z => some (Value.int z)) (zsV_v (V := (zsM m.1 (hcN s.2.2 m.2.2.1 (s.1 * s.2.1)))) hv (by decide))).symm, rfl⟩
  · skip
    refine g_tsIn 2 86 rfl (by omega) (by rw [hv]; rfl) rfl rfl ?_
    refine g_aload_n (i := 0) rfl rfl ?_
    refine g_getfield (v := .int (m.1 6)) rfl M.1 (by decide) rfl ?_
    refine g_ireturn (ty := .int) rfl rfl rfl ?_
    exact ⟨(congrArg (fun z => some (Value.int z)) (zsV_v (V := (zsM m.1 (hcN s.2.2 m.2.2.1 (s.1 * s.2.1)))) hv (by decide))).symm, rfl⟩
  · skip
    refine g_tsIn 3 91 rfl (by omega) (by rw [hv]; rfl) rfl rfl ?_
    refine g_aload_n (i := 0) rfl rfl ?_
    refine g_getfield (v := .int (m.1 2)) rfl M.1 (by decide) rfl ?_
    refine g_ireturn (ty := .int) rfl rfl rfl ?_
    exact ⟨(congrArg (fun z => some (Value.int z)) (zsV_v (V := (zsM m.1 (hcN s.2.2 m.2.2.1 (s.1 * s.2.1)))) hv (by decide))).symm, rfl⟩
  · skip
    refine g_tsIn 4 96 rfl (by omega) (by rw [hv]; rfl) rfl rfl ?_
    refine g_aload_n (i := 0) rfl rfl ?_
    refine g_getfield (v := .int (m.1 3)) rfl M.1 (by decide) rfl ?_
    refine g_ireturn (ty := .int) rfl rfl rfl ?_
    exact ⟨(congrArg (fun z => some (Value.int z)) (zsV_v (V := (zsM m.1 (hcN s.2.2 m.2.2.1 (s.1 * s.2.1)))) hv (by decide))).symm, rfl⟩
  · skip
    refine g_tsIn 5 101 rfl (by omega) (by rw [hv]; rfl) rfl rfl ?_
    refine g_aload_n (i := 0) rfl rfl ?_
    refine g_getfield (v := .int (m.1 4)) rfl M.1 (by decide) rfl ?_
    refine g_ireturn (ty := .int) rfl rfl rfl ?_
    exact ⟨(congrArg (fun z => some (Value.int z)) (zsV_v (V := (zsM m.1 (hcN s.2.2 m.2.2.1 (s.1 * s.2.1)))) hv (by decide))).symm, rfl⟩
  · skip
    refine g_tsIn 6 106 rfl (by omega) (by rw [hv]; rfl) rfl rfl ?_
    refine g_aload_n (i := 0) rfl rfl ?_
    refine g_getfield (v := .int (m.1 5)) rfl M.1 (by decide) rfl ?_
    refine g_ireturn (ty := .int) rfl rfl rfl ?_
    exact ⟨(congrArg (fun z => some (Value.int z)) (zsV_v (V := (zsM m.1 (hcN s.2.2 m.2.2.1 (s.1 * s.2.1)))) hv (by decide))).symm, rfl⟩
  · skip
    refine g_tsIn 7 111 rfl (by omega) (by rw [hv]; rfl) rfl rfl ?_
    refine g_iconst (n := 0) rfl ?_
    refine g_istore_n (i := 3) (L1 := [some (.ref 60), some (.int x), some (.int (Int32.ofInt 0)), some (.int (Int32.ofInt 0))]) rfl (Nat.le_of_ble_eq_true rfl) rfl ?_
    exact sGo_mono (s_st12_go (x := x) (by omega) M gM sJ (s.1 * s.2.1) 0 (Nat.zero_add _)) (fun r h' q => ⟨q.1.trans (congrArg (fun z => some (Value.int z)) (zsV_v (V := zsM m.1 (hcN s.2.2 m.2.2.1 (s.1 * s.2.1))) hv (by decide)).symm), q.2⟩)
  · skip
    refine g_tsIn 8 155 rfl (by omega) (by rw [hv]; rfl) rfl rfl ?_
    refine g_aload_n (i := 0) rfl rfl ?_
    refine g_getfield (v := .int (m.1 36)) rfl M.1 (by decide) rfl ?_
    refine g_ireturn (ty := .int) rfl rfl rfl ?_
    exact ⟨(congrArg (fun z => some (Value.int z)) (zsV_v (V := (zsM m.1 (hcN s.2.2 m.2.2.1 (s.1 * s.2.1)))) hv (by decide))).symm, rfl⟩
  · skip
    refine g_tsOut 160 rfl (by omega) rfl ?_
    refine g_iconst (n := (-1)) rfl ?_
    refine g_ireturn (ty := .int) rfl rfl rfl ?_
    exact ⟨(congrArg (fun z => some (Value.int z)) (zsV_n hx hv)).symm, rfl⟩
theorem s_status12 {d : Nat} {h : sHp} {R : Nat → Int32} {m : MF} {s : Sg} {x : Int32} (hd : 4 ≤ d) (M : MC h m) (gM : gdM m.1 s.1 s.2.1) (sJ : sgJ m.1 s) (hR : h[61]? = some (rFc R)) : sDo d 256 [.ref 60, .int x] h (fun r h' => r = some (.int (zsV R (zsM m.1 (hcN s.2.2 m.2.2.1 (s.1 * s.2.1))) x.toInt)) ∧ h' = h) := by
  refine sDo_of1 (nL := 4) (L := [some (.ref 60), some (.int x), none, none]) (by omega) rfl rfl ?_
  refine g_iload_n (i := 1) rfl rfl ?_
  refine g_bipush (n := 11) rfl ?_
  have k_2 : ((Int8.ofInt 11).toInt32).toInt = 11 := rfl
  refine g_icmp_lt 22 rfl rfl (fun c_1 => ?_) (fun c_1 => ?_)
  · skip
    rw [i_lt, k_2] at c_1
    exact s_st12_sw (d := d - 1) (by omega) M gM sJ (by omega)
  · skip
    rw [i_lt, k_2] at c_1
    refine g_iload_n (i := 1) rfl rfl ?_
    refine g_bipush (n := 17) rfl ?_
    have k_4 : ((Int8.ofInt 17).toInt32).toInt = 17 := rfl
    refine g_icmp_gt 22 rfl rfl (fun c_3 => ?_) (fun c_3 => ?_)
    · skip
      rw [i_lt, k_4] at c_3
      exact s_st12_sw (d := d - 1) (by omega) M gM sJ (by omega)
    · skip
      rw [i_lt, k_4] at c_3
      refine g_aload_n (i := 0) rfl rfl ?_
      refine g_getfield (v := .ref 61) rfl M.1 (by decide) rfl ?_
      refine g_iload_n (i := 1) rfl rfl ?_
      refine g_bipush (n := 10) rfl ?_
      have k_5 : ((Int8.ofInt 10).toInt32).toInt = 10 := rfl
      refine g_isub rfl ?_
      have t_6 : (x - (Int8.ofInt 10).toInt32).toInt = x.toInt - 10 := by rw [i_sub (by rw [k_5]; omega) (by rw [k_5]; omega), k_5]
      have t10 : (x - (Int8.ofInt 10).toInt32).toInt = x.toInt - 10 := t_6
      refine g_iaload (n := 8) (f := R) rfl hR (i_in (by omega) (by omega)) ?_
      refine g_ireturn (ty := .int) rfl rfl rfl ?_
      exact ⟨(congrArg (fun z => some (Value.int (R z))) (congrArg Int.toNat t10)).trans (congrArg (fun z => some (Value.int z)) (zsV_r ⟨by omega, by omega⟩)).symm, rfl⟩
theorem pz_status (a : Int32) : pairR bRZ 156 256 [.int a] := pr_qR (c1 := cn_X11_status_0) (c2 := cn_X12_status_0) ch_X11_status_0 ch_X12_status_0 (by decide +kernel) (by decide +kernel) (by decide +kernel) (by decide +kernel) rfl rfl (fun h hH => ⟨bt0 hH, vI0 a, trivial⟩) (fun h hH => ⟨bt60 hH, vI0 a, trivial⟩) (fun hH x q => ⟨⟨⟨bR9_fr hH x (by decide +kernel) q.1.1.1, RfT_fr x (by decide +kernel) (by decide +kernel) q.1.1.2⟩, bOw_fr hH x (by decide +kernel) (by decide +kernel) q.1.2⟩, bTR_fr x (by decide +kernel) q.2⟩) (fun hH x q => ⟨⟨⟨bR9_fr hH x (by decide +kernel) q.1.1.1, RfT_fr x (by decide +kernel) (by decide +kernel) q.1.1.2⟩, bOw_fr hH x (by decide +kernel) (by decide +kernel) q.1.2⟩, bTR_fr x (by decide +kernel) q.2⟩) (fun h hH hRZ => by
  obtain ⟨⟨⟨hR, R, Rm, r43, r61, eR⟩, hQ⟩, l, hl, ⟨so9, el, h3, -, -⟩, fs, tr, hf, -, -, -, f36, -, -⟩ := hRZ
  have q9 := hR
  obtain ⟨⟨hd, so, sz, co, cl, f, gg, q4, bs⟩, c, ck, m, gk, ik, tf, kc, km, ej, rl, rk⟩ := hR
  have F := kc.1
  have h0 := kc.2.2.1
  have M := km.1
  obtain ⟨R, hR43⟩ := RA_of hH (p := 43) (Or.inl rfl)
  obtain ⟨s, sI, sJ, g, gM⟩ := RN_sg rl.1.1
  have n5 := sI.2.2.2.2.2.2.2
  have hn := gdF_n g
  have PO := rl.2 s sI
  have e36 : m.1 36 = Int32.ofNat l.length := by
    have y := congrArg (fun e : va_E => match e with | .inr (_, l) => l[36]? | .inl _ => (none : Option Value)) (Option.some.inj (hf.symm.trans M.1))
    have y2 : fs[36]? = some (.int (m.1 36)) := y
    rw [f36] at y2
    exact (Value.int.inj (Option.some.inj y2)).symm
  have ho : ∀ q, q < s.1 * s.2.1 → ∃ k, okO s.2.2 (m.2.2.1 q) k := fun q hq => by
    obtain ⟨m9, g9, km9, qo9, -⟩ := hQ
    have y := qo9 q (by omega)
    rw [(MC_same M km9.1).1.1, (MC_same M km9.1).2, sJ.2.2.1] at y
    exact oOk_k n5 y
  have cc := hc_cnt (N := s.2.2) hn.1 n5 PO ho
  refine ⟨_, sDo_mono (s_status11 (d := 10) (s := s) (by omega) h0 F g h3 r43) (fun r h' q => ⟨q.1, by rw [q.2]; exact vE_rfl⟩), fun h1 hH1 E => sDo_mono (s_status12 (d := 10) (R := Rm) (by omega) (MC_vE M E) gM sJ (vE_at E r61 (by decide))) (fun r h' q => ?_)⟩
  rw [q.1]
  refine congrArg (fun z => some (Value.int z)) (zsV_eq (fun X hX => (eR X hX).symm) (fun j hj => ?_))
  obtain ⟨W', H', N', -, -, -, -, -, -, kk⟩ := rl.1.1
  match j, hj with
  | 0, _ => exact sJ.1.trans sI.1.symm
  | 1, _ => exact sJ.2.1.trans sI.2.1.symm
  | 2, _ => exact sJ.2.2.1.trans sI.2.2.1.symm
  | 3, _ => exact (kk 0 (by decide)).symm
  | 4, _ => exact (kk 1 (by decide)).symm
  | 5, _ => exact (kk 2 (by decide)).symm
  | 6, _ => exact (kk 3 (by decide)).symm
  | 7, _ => exact congrArg Int32.ofNat cc.symm
  | 8, _ => exact e36
  | k + 9, hj => exact absurd hj (by omega))
/-! ===== all pairs, with refusals, owners and traces ===== -/
theorem pz_row (a : Int32) (b : Int32) (x : Int32) : pairR bRZ 114 178 [.int a, .int b, .int x] := pr_iff (A := fun h => bR10 h ∧ (fun h => bOw h ∧ bTR h) h) (fun h q => ⟨⟨q.1, q.2.1⟩, q.2.2⟩) (fun h q => ⟨q.1.1, q.1.2, q.2⟩) (pr_and (R := bR10) (P := (fun h => bOw h ∧ bTR h)) (c1 := cn_X11_row_0) (c2 := cn_X12_row_0) (prz_row a b x) (fun hH a q => ⟨bOw_fr hH a (by decide +kernel) (by decide +kernel) q.1, bTR_fr a (by decide +kernel) q.2⟩) (fun hH a q => ⟨bOw_fr hH a (by decide +kernel) (by decide +kernel) q.1, bTR_fr a (by decide +kernel) q.2⟩) ch_X11_row_0 ch_X12_row_0 (by decide +kernel) (by decide +kernel) rfl rfl (fun h hH => ⟨bt0 hH, vI0 a, vI0 b, vI0 x, trivial⟩) (fun h hH => ⟨bt60 hH, vI0 a, vI0 b, vI0 x, trivial⟩))
theorem pz_set (a : Int32) (b : Int32) (x : Int64) : pairR bRZ 115 179 [.int a, .int b, .long x] := pr_iff (A := fun h => bR10 h ∧ (fun h => bOw h ∧ bTR h) h) (fun h q => ⟨⟨q.1, q.2.1⟩, q.2.2⟩) (fun h q => ⟨q.1.1, q.1.2, q.2⟩) (pr_and (R := bR10) (P := (fun h => bOw h ∧ bTR h)) (c1 := cn_X11_set_0) (c2 := cn_X12_set_0) (prz_set a b x) (fun hH a q => ⟨bOw_fr hH a (by decide +kernel) (by decide +kernel) q.1, bTR_fr a (by decide +kernel) q.2⟩) (fun hH a q => ⟨bOw_fr hH a (by decide +kernel) (by decide +kernel) q.1, bTR_fr a (by decide +kernel) q.2⟩) ch_X11_set_0 ch_X12_set_0 (by decide +kernel) (by decide +kernel) rfl rfl (fun h hH => ⟨bt0 hH, vI0 a, vI0 b, vL0 x, trivial⟩) (fun h hH => ⟨bt60 hH, vI0 a, vI0 b, vL0 x, trivial⟩))
theorem pz_copy (a : Int32) (b : Int32) (x : Int32) (y : Int32) (z : Int32) : pairR bRZ 116 180 [.int a, .int b, .int x, .int y, .int z] := pr_iff (A := fun h => bR10 h ∧ (fun h => bOw h ∧ bTR h) h) (fun h q => ⟨⟨q.1, q.2.1⟩, q.2.2⟩) (fun h q => ⟨q.1.1, q.1.2, q.2⟩) (pr_and (R := bR10) (P := (fun h => bOw h ∧ bTR h)) (c1 := cn_X11_copy_0) (c2 := cn_X12_copy_0) (prz_copy a b x y z) (fun hH a q => ⟨bOw_fr hH a (by decide +kernel) (by decide +kernel) q.1, bTR_fr a (by decide +kernel) q.2⟩) (fun hH a q => ⟨bOw_fr hH a (by decide +kernel) (by decide +kernel) q.1, bTR_fr a (by decide +kernel) q.2⟩) ch_X11_copy_0 ch_X12_copy_0 (by decide +kernel) (by decide +kernel) rfl rfl (fun h hH => ⟨bt0 hH, vI0 a, vI0 b, vI0 x, vI0 y, vI0 z, trivial⟩) (fun h hH => ⟨bt60 hH, vI0 a, vI0 b, vI0 x, vI0 y, vI0 z, trivial⟩))
theorem pz_cut (a : Int32) (b : Int32) : pairR bRZ 118 182 [.int a, .int b] := pr_iff (A := fun h => bR10 h ∧ (fun h => bOw h ∧ bTR h) h) (fun h q => ⟨⟨q.1, q.2.1⟩, q.2.2⟩) (fun h q => ⟨q.1.1, q.1.2, q.2⟩) (pr_and (R := bR10) (P := (fun h => bOw h ∧ bTR h)) (c1 := cn_X11_cut_0) (c2 := cn_X12_cut_0) (prz_cut a b) (fun hH a q => ⟨bOw_fr hH a (by decide +kernel) (by decide +kernel) q.1, bTR_fr a (by decide +kernel) q.2⟩) (fun hH a q => ⟨bOw_fr hH a (by decide +kernel) (by decide +kernel) q.1, bTR_fr a (by decide +kernel) q.2⟩) ch_X11_cut_0 ch_X12_cut_0 (by decide +kernel) (by decide +kernel) rfl rfl (fun h hH => ⟨bt0 hH, vI0 a, vI0 b, trivial⟩) (fun h hH => ⟨bt60 hH, vI0 a, vI0 b, trivial⟩))
theorem pz_says (a : Int32) (b : Int32) : pairR bRZ 120 189 [.int a, .int b] := pr_iff (A := fun h => bR10 h ∧ (fun h => bOw h ∧ bTR h) h) (fun h q => ⟨⟨q.1, q.2.1⟩, q.2.2⟩) (fun h q => ⟨q.1.1, q.1.2, q.2⟩) (pr_and (R := bR10) (P := (fun h => bOw h ∧ bTR h)) (c1 := cn_X11_says_0) (c2 := cn_X12_says_0) (prz_says a b) (fun hH a q => ⟨bOw_fr hH a (by decide +kernel) (by decide +kernel) q.1, bTR_fr a (by decide +kernel) q.2⟩) (fun hH a q => ⟨bOw_fr hH a (by decide +kernel) (by decide +kernel) q.1, bTR_fr a (by decide +kernel) q.2⟩) ch_X11_says_0 ch_X12_says_0 (by decide +kernel) (by decide +kernel) rfl rfl (fun h hH => ⟨bt0 hH, vI0 a, vI0 b, trivial⟩) (fun h hH => ⟨bt60 hH, vI0 a, vI0 b, trivial⟩))
theorem pz_heirOf (a : Int32) (b : Int32) : pairR bRZ 130 210 [.int a, .int b] := pr_iff (A := fun h => bR10 h ∧ (fun h => bOw h ∧ bTR h) h) (fun h q => ⟨⟨q.1, q.2.1⟩, q.2.2⟩) (fun h q => ⟨q.1.1, q.1.2, q.2⟩) (pr_and (R := bR10) (P := (fun h => bOw h ∧ bTR h)) (c1 := cn_X11_heirOf_0) (c2 := cn_X12_heirOf_0) (prz_heirOf a b) (fun hH a q => ⟨bOw_fr hH a (by decide +kernel) (by decide +kernel) q.1, bTR_fr a (by decide +kernel) q.2⟩) (fun hH a q => ⟨bOw_fr hH a (by decide +kernel) (by decide +kernel) q.1, bTR_fr a (by decide +kernel) q.2⟩) ch_X11_heirOf_0 ch_X12_heirOf_0 (by decide +kernel) (by decide +kernel) rfl rfl (fun h hH => ⟨bt0 hH, vI0 a, vI0 b, trivial⟩) (fun h hH => ⟨bt60 hH, vI0 a, vI0 b, trivial⟩))
theorem pz_worth (a : Int32) (b : Int64) : pairR bRZ 131 212 [.int a, .long b] := pr_iff (A := fun h => bR10 h ∧ (fun h => bOw h ∧ bTR h) h) (fun h q => ⟨⟨q.1, q.2.1⟩, q.2.2⟩) (fun h q => ⟨q.1.1, q.1.2, q.2⟩) (pr_and (R := bR10) (P := (fun h => bOw h ∧ bTR h)) (c1 := cn_X11_worth_0) (c2 := cn_X12_worth_0) (prz_worth a b) (fun hH a q => ⟨bOw_fr hH a (by decide +kernel) (by decide +kernel) q.1, bTR_fr a (by decide +kernel) q.2⟩) (fun hH a q => ⟨bOw_fr hH a (by decide +kernel) (by decide +kernel) q.1, bTR_fr a (by decide +kernel) q.2⟩) ch_X11_worth_0 ch_X12_worth_0 (by decide +kernel) (by decide +kernel) rfl rfl (fun h hH => ⟨bt0 hH, vI0 a, vL0 b, trivial⟩) (fun h hH => ⟨bt60 hH, vI0 a, vL0 b, trivial⟩))
theorem pz_choose (a : Int32) (b : Int32) (x : Int32) : pairR bRZ 143 237 [.int a, .int b, .int x] := pr_iff (A := fun h => bR10 h ∧ (fun h => bOw h ∧ bTR h) h) (fun h q => ⟨⟨q.1, q.2.1⟩, q.2.2⟩) (fun h q => ⟨q.1.1, q.1.2, q.2⟩) (pr_and (R := bR10) (P := (fun h => bOw h ∧ bTR h)) (c1 := cn_X11_choose_0) (c2 := cn_X12_choose_0) (prz_choose a b x) (fun hH a q => ⟨bOw_fr hH a (by decide +kernel) (by decide +kernel) q.1, bTR_fr a (by decide +kernel) q.2⟩) (fun hH a q => ⟨bOw_fr hH a (by decide +kernel) (by decide +kernel) q.1, bTR_fr a (by decide +kernel) q.2⟩) ch_X11_choose_0 ch_X12_choose_0 (by decide +kernel) (by decide +kernel) rfl rfl (fun h hH => ⟨bt0 hH, vI0 a, vI0 b, vI0 x, trivial⟩) (fun h hH => ⟨bt60 hH, vI0 a, vI0 b, vI0 x, trivial⟩))
theorem pz_envies (a : Int32) : pairR bRZ 144 238 [.int a] := pr_iff (A := fun h => bR10 h ∧ (fun h => bOw h ∧ bTR h) h) (fun h q => ⟨⟨q.1, q.2.1⟩, q.2.2⟩) (fun h q => ⟨q.1.1, q.1.2, q.2⟩) (pr_and (R := bR10) (P := (fun h => bOw h ∧ bTR h)) (c1 := cn_X11_envies_0) (c2 := cn_X12_envies_0) (prz_envies a) (fun hH a q => ⟨bOw_fr hH a (by decide +kernel) (by decide +kernel) q.1, bTR_fr a (by decide +kernel) q.2⟩) (fun hH a q => ⟨bOw_fr hH a (by decide +kernel) (by decide +kernel) q.1, bTR_fr a (by decide +kernel) q.2⟩) ch_X11_envies_0 ch_X12_envies_0 (by decide +kernel) (by decide +kernel) rfl rfl (fun h hH => ⟨bt0 hH, vI0 a, trivial⟩) (fun h hH => ⟨bt60 hH, vI0 a, trivial⟩))
theorem pz_evens (a : Int32) : pairR bRZ 145 239 [.int a] := pr_iff (A := fun h => bR10 h ∧ (fun h => bOw h ∧ bTR h) h) (fun h q => ⟨⟨q.1, q.2.1⟩, q.2.2⟩) (fun h q => ⟨q.1.1, q.1.2, q.2⟩) (pr_and (R := bR10) (P := (fun h => bOw h ∧ bTR h)) (c1 := cn_X11_evens_0) (c2 := cn_X12_evens_0) (prz_evens a) (fun hH a q => ⟨bOw_fr hH a (by decide +kernel) (by decide +kernel) q.1, bTR_fr a (by decide +kernel) q.2⟩) (fun hH a q => ⟨bOw_fr hH a (by decide +kernel) (by decide +kernel) q.1, bTR_fr a (by decide +kernel) q.2⟩) ch_X11_evens_0 ch_X12_evens_0 (by decide +kernel) (by decide +kernel) rfl rfl (fun h hH => ⟨bt0 hH, vI0 a, trivial⟩) (fun h hH => ⟨bt60 hH, vI0 a, trivial⟩))
theorem pz_fits (a : Int32) (b : Int32) : pairR bRZ 148 244 [.int a, .int b] := pr_iff (A := fun h => bR10 h ∧ (fun h => bOw h ∧ bTR h) h) (fun h q => ⟨⟨q.1, q.2.1⟩, q.2.2⟩) (fun h q => ⟨q.1.1, q.1.2, q.2⟩) (pr_and (R := bR10) (P := (fun h => bOw h ∧ bTR h)) (c1 := cn_X11_fits_0) (c2 := cn_X12_fits_0) (prz_fits a b) (fun hH a q => ⟨bOw_fr hH a (by decide +kernel) (by decide +kernel) q.1, bTR_fr a (by decide +kernel) q.2⟩) (fun hH a q => ⟨bOw_fr hH a (by decide +kernel) (by decide +kernel) q.1, bTR_fr a (by decide +kernel) q.2⟩) ch_X11_fits_0 ch_X12_fits_0 (by decide +kernel) (by decide +kernel) rfl rfl (fun h hH => ⟨bt0 hH, vI0 a, vI0 b, trivial⟩) (fun h hH => ⟨bt60 hH, vI0 a, vI0 b, trivial⟩))
theorem pz_old (a : Int32) : pairR bRZ 149 245 [.int a] := pr_iff (A := fun h => bR10 h ∧ (fun h => bOw h ∧ bTR h) h) (fun h q => ⟨⟨q.1, q.2.1⟩, q.2.2⟩) (fun h q => ⟨q.1.1, q.1.2, q.2⟩) (pr_and (R := bR10) (P := (fun h => bOw h ∧ bTR h)) (c1 := cn_X11_old_0) (c2 := cn_X12_old_0) (prz_old a) (fun hH a q => ⟨bOw_fr hH a (by decide +kernel) (by decide +kernel) q.1, bTR_fr a (by decide +kernel) q.2⟩) (fun hH a q => ⟨bOw_fr hH a (by decide +kernel) (by decide +kernel) q.1, bTR_fr a (by decide +kernel) q.2⟩) ch_X11_old_0 ch_X12_old_0 (by decide +kernel) (by decide +kernel) rfl rfl (fun h hH => ⟨bt0 hH, vI0 a, trivial⟩) (fun h hH => ⟨bt60 hH, vI0 a, trivial⟩))
theorem pz_sure (a : Int32) (b : Int32) : pairR bRZ 150 246 [.int a, .int b] := pr_iff (A := fun h => bR10 h ∧ (fun h => bOw h ∧ bTR h) h) (fun h q => ⟨⟨q.1, q.2.1⟩, q.2.2⟩) (fun h q => ⟨q.1.1, q.1.2, q.2⟩) (pr_and (R := bR10) (P := (fun h => bOw h ∧ bTR h)) (c1 := cn_X11_sure_0) (c2 := cn_X12_sure_0) (prz_sure a b) (fun hH a q => ⟨bOw_fr hH a (by decide +kernel) (by decide +kernel) q.1, bTR_fr a (by decide +kernel) q.2⟩) (fun hH a q => ⟨bOw_fr hH a (by decide +kernel) (by decide +kernel) q.1, bTR_fr a (by decide +kernel) q.2⟩) ch_X11_sure_0 ch_X12_sure_0 (by decide +kernel) (by decide +kernel) rfl rfl (fun h hH => ⟨bt0 hH, vI0 a, vI0 b, trivial⟩) (fun h hH => ⟨bt60 hH, vI0 a, vI0 b, trivial⟩))
theorem pz_judge (a : Int32) : pairR bRZ 151 247 [.int a] := pr_iff (A := fun h => bR10 h ∧ (fun h => bOw h ∧ bTR h) h) (fun h q => ⟨⟨q.1, q.2.1⟩, q.2.2⟩) (fun h q => ⟨q.1.1, q.1.2, q.2⟩) (pr_and (R := bR10) (P := (fun h => bOw h ∧ bTR h)) (c1 := cn_X11_judge_0) (c2 := cn_X12_judge_0) (prz_judge a) (fun hH a q => ⟨bOw_fr hH a (by decide +kernel) (by decide +kernel) q.1, bTR_fr a (by decide +kernel) q.2⟩) (fun hH a q => ⟨bOw_fr hH a (by decide +kernel) (by decide +kernel) q.1, bTR_fr a (by decide +kernel) q.2⟩) ch_X11_judge_0 ch_X12_judge_0 (by decide +kernel) (by decide +kernel) rfl rfl (fun h hH => ⟨bt0 hH, vI0 a, trivial⟩) (fun h hH => ⟨bt60 hH, vI0 a, trivial⟩))
theorem pz_size (a : Int32) (b : Int32) : pairR bRZ 124 204 [.int a, .int b] := pr_iff (A := fun h => (fun h => bR10 h ∧ bFL RQ h) h ∧ bTR h) (fun h q => ⟨⟨q.1.1, bOw_of q.1.2⟩, q.2⟩) (fun h q => ⟨⟨q.1.1, bFLQ q.1.1.1.2 q.1.2⟩, q.2⟩) (pr_and (R := (fun h => bR10 h ∧ bFL RQ h)) (P := bTR) (c1 := cn_X11_size_0) (c2 := cn_X12_size_0) (pr_both (prz_size a b) (pk_size RQ_ok  a b)) (fun hH a q => bTR_fr a (by decide +kernel) q) (fun hH a q => bTR_fr a (by decide +kernel) q) ch_X11_size_0 ch_X12_size_0 (by decide +kernel) (by decide +kernel) rfl rfl (fun h hH => ⟨bt0 hH, vI0 a, vI0 b, trivial⟩) (fun h hH => ⟨bt60 hH, vI0 a, vI0 b, trivial⟩))
theorem pz_place (a : Int32) (b : Int32) : pairR bRZ 126 206 [.int a, .int b] := pr_iff (A := fun h => (fun h => bR10 h ∧ bFL RQ h) h ∧ bTR h) (fun h q => ⟨⟨q.1.1, bOw_of q.1.2⟩, q.2⟩) (fun h q => ⟨⟨q.1.1, bFLQ q.1.1.1.2 q.1.2⟩, q.2⟩) (pr_and (R := (fun h => bR10 h ∧ bFL RQ h)) (P := bTR) (c1 := cn_X11_place_0) (c2 := cn_X12_place_0) (pr_both (prz_place a b) (pk_place RQ_ok  a b)) (fun hH a q => bTR_fr a (by decide +kernel) q) (fun hH a q => bTR_fr a (by decide +kernel) q) ch_X11_place_0 ch_X12_place_0 (by decide +kernel) (by decide +kernel) rfl rfl (fun h hH => ⟨bt0 hH, vI0 a, vI0 b, trivial⟩) (fun h hH => ⟨bt60 hH, vI0 a, vI0 b, trivial⟩))
theorem pz_heir (a : Int32) : pairR bRZ 127 207 [.int a] := pr_iff (A := fun h => (fun h => bR10 h ∧ bFL RQ h) h ∧ bTR h) (fun h q => ⟨⟨q.1.1, bOw_of q.1.2⟩, q.2⟩) (fun h q => ⟨⟨q.1.1, bFLQ q.1.1.1.2 q.1.2⟩, q.2⟩) (pr_and (R := (fun h => bR10 h ∧ bFL RQ h)) (P := bTR) (c1 := cn_X11_heir_0) (c2 := cn_X12_heir_0) (pr_both (prz_heir a) (pk_heir RQ_ok  a)) (fun hH a q => bTR_fr a (by decide +kernel) q) (fun hH a q => bTR_fr a (by decide +kernel) q) ch_X11_heir_0 ch_X12_heir_0 (by decide +kernel) (by decide +kernel) rfl rfl (fun h hH => ⟨bt0 hH, vI0 a, trivial⟩) (fun h hH => ⟨bt60 hH, vI0 a, trivial⟩))
theorem pz_restore : pairR bRZ 155 255 [] := pr_iff (A := fun h => (fun h => bR10 h ∧ bFL RQ h) h ∧ bTR h) (fun h q => ⟨⟨q.1.1, bOw_of q.1.2⟩, q.2⟩) (fun h q => ⟨⟨q.1.1, bFLQ q.1.1.1.2 q.1.2⟩, q.2⟩) (pr_and (R := (fun h => bR10 h ∧ bFL RQ h)) (P := bTR) (c1 := cn_X11_restore_0) (c2 := cn_X12_restore_0) (pr_both (prz_restore ) (pk_restore RQ_ok  )) (fun hH a q => bTR_fr a (by decide +kernel) q) (fun hH a q => bTR_fr a (by decide +kernel) q) ch_X11_restore_0 ch_X12_restore_0 (by decide +kernel) (by decide +kernel) rfl rfl (fun h hH => ⟨bt0 hH, trivial⟩) (fun h hH => ⟨bt60 hH, trivial⟩))
theorem pz_soil (a : Int32) (b : Int32) : pairR bRZ 125 205 [.int a, .int b] := pr_iff (A := fun h => (fun h => bR10 h ∧ bFL RQ h) h ∧ bTR h) (fun h q => ⟨⟨q.1.1, bOw_of q.1.2⟩, q.2⟩) (fun h q => ⟨⟨q.1.1, bFLQ q.1.1.1.2 q.1.2⟩, q.2⟩) (pr_and (R := (fun h => bR10 h ∧ bFL RQ h)) (P := bTR) (c1 := cn_X11_soil_0) (c2 := cn_X12_soil_0) (pr_both (prz_soil a b) (pk_soil RQ_ok (fun _ _ r => r.1.1) a b)) (fun hH a q => bTR_fr a (by decide +kernel) q) (fun hH a q => bTR_fr a (by decide +kernel) q) ch_X11_soil_0 ch_X12_soil_0 (by decide +kernel) (by decide +kernel) rfl rfl (fun h hH => ⟨bt0 hH, vI0 a, vI0 b, trivial⟩) (fun h hH => ⟨bt60 hH, vI0 a, vI0 b, trivial⟩))
theorem pz_worths (a : Int32) (b : Int32) (x : Int32) : pairR bRZ 128 208 [.int a, .int b, .int x] := pr_iff (A := fun h => (fun h => bR10 h ∧ bFL RQ h) h ∧ bTR h) (fun h q => ⟨⟨q.1.1, bOw_of q.1.2⟩, q.2⟩) (fun h q => ⟨⟨q.1.1, bFLQ q.1.1.1.2 q.1.2⟩, q.2⟩) (pr_and (R := (fun h => bR10 h ∧ bFL RQ h)) (P := bTR) (c1 := cn_X11_worths_0) (c2 := cn_X12_worths_0) (pr_both (prz_worths a b x) (pk_worths RQ_ok (fun _ _ r => r.1.1) a b x)) (fun hH a q => bTR_fr a (by decide +kernel) q) (fun hH a q => bTR_fr a (by decide +kernel) q) ch_X11_worths_0 ch_X12_worths_0 (by decide +kernel) (by decide +kernel) rfl rfl (fun h hH => ⟨bt0 hH, vI0 a, vI0 b, vI0 x, trivial⟩) (fun h hH => ⟨bt60 hH, vI0 a, vI0 b, vI0 x, trivial⟩))
theorem pz_fond (a : Int32) (b : Int32) (hb : b = 0 ∨ b = 1) : pairR bRZ 129 209 [.int a, .int b] := pr_iff (A := fun h => (fun h => bR10 h ∧ bFL RQ h) h ∧ bTR h) (fun h q => ⟨⟨q.1.1, bOw_of q.1.2⟩, q.2⟩) (fun h q => ⟨⟨q.1.1, bFLQ q.1.1.1.2 q.1.2⟩, q.2⟩) (pr_and (R := (fun h => bR10 h ∧ bFL RQ h)) (P := bTR) (c1 := cn_X11_fond_0) (c2 := cn_X12_fond_0) (pr_both (prz_fond a b hb) (pk_fond RQ_ok (fun _ _ r => r.1.1) RQ_fo a b hb)) (fun hH a q => bTR_fr a (by decide +kernel) q) (fun hH a q => bTR_fr a (by decide +kernel) q) ch_X11_fond_0 ch_X12_fond_0 (by decide +kernel) (by decide +kernel) rfl rfl (fun h hH => ⟨bt0 hH, vI0 a, vZ0 hb, trivial⟩) (fun h hH => ⟨bt60 hH, vI0 a, vZ0 hb, trivial⟩))
theorem pz_own (a : Int64) (b : Int32) : pairR bRZ 133 216 [.long a, .int b] := pr_iff (A := fun h => (fun h => bR10 h ∧ (bR9 h ∧ bOw h)) h ∧ bTR h) (fun h q => ⟨⟨q.1.1, q.1.2.2⟩, q.2⟩) (fun h q => ⟨⟨q.1.1, q.1.1.1, q.1.2⟩, q.2⟩) (pr_and (R := (fun h => bR10 h ∧ (bR9 h ∧ bOw h))) (P := bTR) (c1 := cn_X11_own_0) (c2 := cn_X12_own_0) (pr_both (prz_own a b) (prq_own a b)) (fun hH a q => bTR_fr a (by decide +kernel) q) (fun hH a q => bTR_fr a (by decide +kernel) q) ch_X11_own_0 ch_X12_own_0 (by decide +kernel) (by decide +kernel) rfl rfl (fun h hH => ⟨bt0 hH, vL0 a, vI0 b, trivial⟩) (fun h hH => ⟨bt60 hH, vL0 a, vI0 b, trivial⟩))
theorem pz_lay (a : Int32) (b : Int32) (x : Int32) : pairR bRZ 134 217 [.int a, .int b, .int x] := pr_iff (A := fun h => (fun h => bR10 h ∧ (bR9 h ∧ bOw h)) h ∧ bTR h) (fun h q => ⟨⟨q.1.1, q.1.2.2⟩, q.2⟩) (fun h q => ⟨⟨q.1.1, q.1.1.1, q.1.2⟩, q.2⟩) (pr_and (R := (fun h => bR10 h ∧ (bR9 h ∧ bOw h))) (P := bTR) (c1 := cn_X11_lay_0) (c2 := cn_X12_lay_0) (pr_both (prz_lay a b x) (prq_lay a b x)) (fun hH a q => bTR_fr a (by decide +kernel) q) (fun hH a q => bTR_fr a (by decide +kernel) q) ch_X11_lay_0 ch_X12_lay_0 (by decide +kernel) (by decide +kernel) rfl rfl (fun h hH => ⟨bt0 hH, vI0 a, vI0 b, vI0 x, trivial⟩) (fun h hH => ⟨bt60 hH, vI0 a, vI0 b, vI0 x, trivial⟩))
theorem pz_owners (a : Int32) : pairR bRZ 135 218 [.int a] := pr_iff (A := fun h => (fun h => bR10 h ∧ (bR9 h ∧ bOw h)) h ∧ bTR h) (fun h q => ⟨⟨q.1.1, q.1.2.2⟩, q.2⟩) (fun h q => ⟨⟨q.1.1, q.1.1.1, q.1.2⟩, q.2⟩) (pr_and (R := (fun h => bR10 h ∧ (bR9 h ∧ bOw h))) (P := bTR) (c1 := cn_X11_owners_0) (c2 := cn_X12_owners_0) (pr_both (prz_owners a) (prq_owners a)) (fun hH a q => bTR_fr a (by decide +kernel) q) (fun hH a q => bTR_fr a (by decide +kernel) q) ch_X11_owners_0 ch_X12_owners_0 (by decide +kernel) (by decide +kernel) rfl rfl (fun h hH => ⟨bt0 hH, vI0 a, trivial⟩) (fun h hH => ⟨bt60 hH, vI0 a, trivial⟩))
theorem pz_mend (a : Int32) : pairR bRZ 147 242 [.int a] := pr_iff (A := fun h => (fun h => bR10 h ∧ (bR9 h ∧ bOw h)) h ∧ bTR h) (fun h q => ⟨⟨q.1.1, q.1.2.2⟩, q.2⟩) (fun h q => ⟨⟨q.1.1, q.1.1.1, q.1.2⟩, q.2⟩) (pr_and (R := (fun h => bR10 h ∧ (bR9 h ∧ bOw h))) (P := bTR) (c1 := cn_X11_mend_0) (c2 := cn_X12_mend_0) (pr_both (prz_mend a) (prq_mend a)) (fun hH a q => bTR_fr a (by decide +kernel) q) (fun hH a q => bTR_fr a (by decide +kernel) q) ch_X11_mend_0 ch_X12_mend_0 (by decide +kernel) (by decide +kernel) rfl rfl (fun h hH => ⟨bt0 hH, vI0 a, trivial⟩) (fun h hH => ⟨bt60 hH, vI0 a, trivial⟩))
theorem pz_two (a : Int32) : pairR bRZ 141 235 [.int a] := pr_iff (A := fun h => (fun h => bR10 h ∧ (bR9 h ∧ bOw h)) h ∧ bTR h) (fun h q => ⟨⟨q.1.1, q.1.2.2⟩, q.2⟩) (fun h q => ⟨⟨q.1.1, q.1.1.1, q.1.2⟩, q.2⟩) (pr_and (R := (fun h => bR10 h ∧ (bR9 h ∧ bOw h))) (P := bTR) (c1 := cn_X11_two_0) (c2 := cn_X12_two_0) (pr_both (prz_two a) (prq_two a)) (fun hH a q => bTR_fr a (by decide +kernel) q) (fun hH a q => bTR_fr a (by decide +kernel) q) ch_X11_two_0 ch_X12_two_0 (by decide +kernel) (by decide +kernel) rfl rfl (fun h hH => ⟨bt0 hH, vI0 a, trivial⟩) (fun h hH => ⟨bt60 hH, vI0 a, trivial⟩))
theorem pz_three (a : Int32) : pairR bRZ 142 236 [.int a] := pr_iff (A := fun h => (fun h => bR10 h ∧ (bR9 h ∧ bOw h)) h ∧ bTR h) (fun h q => ⟨⟨q.1.1, q.1.2.2⟩, q.2⟩) (fun h q => ⟨⟨q.1.1, q.1.1.1, q.1.2⟩, q.2⟩) (pr_and (R := (fun h => bR10 h ∧ (bR9 h ∧ bOw h))) (P := bTR) (c1 := cn_X11_three_0) (c2 := cn_X12_three_0) (pr_both (prz_three a) (prq_three a)) (fun hH a q => bTR_fr a (by decide +kernel) q) (fun hH a q => bTR_fr a (by decide +kernel) q) ch_X11_three_0 ch_X12_three_0 (by decide +kernel) (by decide +kernel) rfl rfl (fun h hH => ⟨bt0 hH, vI0 a, trivial⟩) (fun h hH => ⟨bt60 hH, vI0 a, trivial⟩))
theorem pz_better : pairR bRZ 146 241 [] := pr_iff (A := fun h => (fun h => bR10 h ∧ (bR9 h ∧ bOw h)) h ∧ bTR h) (fun h q => ⟨⟨q.1.1, q.1.2.2⟩, q.2⟩) (fun h q => ⟨⟨q.1.1, q.1.1.1, q.1.2⟩, q.2⟩) (pr_and (R := (fun h => bR10 h ∧ (bR9 h ∧ bOw h))) (P := bTR) (c1 := cn_X11_better_0) (c2 := cn_X12_better_0) (pr_both (prz_better ) (prq_better )) (fun hH a q => bTR_fr a (by decide +kernel) q) (fun hH a q => bTR_fr a (by decide +kernel) q) ch_X11_better_0 ch_X12_better_0 (by decide +kernel) (by decide +kernel) rfl rfl (fun h hH => ⟨bt0 hH, trivial⟩) (fun h hH => ⟨bt60 hH, trivial⟩))
theorem pz_field (a : Int32) : pairR bRZ 122 202 [.int a] := pr_iff (A := fun h => (fun h => bR10 h ∧ (bR5 h ∧ bFL RQ h)) h ∧ bTR h) (fun h q => ⟨⟨q.1.1, bOw_of q.1.2.2⟩, q.2⟩) (fun h q => ⟨⟨q.1.1, q.1.1.1.1, bFLQ q.1.1.1.2 q.1.2⟩, q.2⟩) (pr_and (R := (fun h => bR10 h ∧ (bR5 h ∧ bFL RQ h))) (P := bTR) (c1 := cn_X11_field_0) (c2 := cn_X12_field_0) (pr_both (prz_field a) (pk_field RQ_ok a)) (fun hH a q => bTR_fr a (by decide +kernel) q) (fun hH a q => bTR_fr a (by decide +kernel) q) ch_X11_field_0 ch_X12_field_0 (by decide +kernel) (by decide +kernel) rfl rfl (fun h hH => ⟨bt0 hH, vI0 a, trivial⟩) (fun h hH => ⟨bt60 hH, vI0 a, trivial⟩))
theorem pz_image : pairR bRZ 154 254 [] := pr_iff (A := fun h => (fun h => bR9 h ∧ bFL RQ h) h ∧ (fun h => RfT h ∧ bTR h) h) (fun h q => ⟨⟨⟨q.1.1, q.2.1⟩, bOw_of q.1.2⟩, q.2.2⟩) (fun h q => ⟨⟨q.1.1.1, bFLQ q.1.1.1.2 q.1.2⟩, q.1.1.2, q.2⟩) (pr_and (R := (fun h => bR9 h ∧ bFL RQ h)) (P := (fun h => RfT h ∧ bTR h)) (c1 := cn_X11_image_0) (c2 := cn_X12_image_0) (pr_both pr9_image (pk_image RQ_ok)) (fun hH a q => ⟨RfT_fr a (by decide +kernel) (by decide +kernel) q.1, bTR_fr a (by decide +kernel) q.2⟩) (fun hH a q => ⟨RfT_fr a (by decide +kernel) (by decide +kernel) q.1, bTR_fr a (by decide +kernel) q.2⟩) ch_X11_image_0 ch_X12_image_0 (by decide +kernel) (by decide +kernel) rfl rfl (fun h hH => ⟨bt0 hH, trivial⟩) (fun h hH => ⟨bt60 hH, trivial⟩))
theorem pz_act (a : Int32) (b : Int32) (x : Int32) : pairR bRZ 152 252 [.int a, .int b, .int x] := pr_iff (A := fun h => bR6 h ∧ (fun h => bFL RO h ∧ (RfT h ∧ bOw h)) h) (fun h q => ⟨⟨⟨⟨q.1.1, q.2.1⟩, q.2.2.1⟩, q.2.2.2⟩, q.1.2⟩) (fun h q => ⟨⟨q.1.1.1.1, q.2⟩, q.1.1.1.2, q.1.1.2, q.1.2⟩) (pr_and (R := bR6) (P := (fun h => bFL RO h ∧ (RfT h ∧ bOw h))) (c1 := cn_X11_act_0) (c2 := cn_X12_act_0) (show pairR bR6 152 252 [.int a, .int b, .int x] from pr6_act a b x) (fun hH a q => ⟨bFL_fr RO_ok hH a (by decide +kernel) (by decide +kernel) (by decide +kernel) (by decide +kernel) q.1, RfT_fr a (by decide +kernel) (by decide +kernel) q.2.1, bOw_fr hH a (by decide +kernel) (by decide +kernel) q.2.2⟩) (fun hH a q => ⟨bFL_fr RO_ok hH a (by decide +kernel) (by decide +kernel) (by decide +kernel) (by decide +kernel) q.1, RfT_fr a (by decide +kernel) (by decide +kernel) q.2.1, bOw_fr hH a (by decide +kernel) (by decide +kernel) q.2.2⟩) ch_X11_act_0 ch_X12_act_0 (by decide +kernel) (by decide +kernel) rfl rfl (fun h hH => ⟨bt0 hH, vI0 a, vI0 b, vI0 x, trivial⟩) (fun h hH => ⟨bt60 hH, vI0 a, vI0 b, vI0 x, trivial⟩))
