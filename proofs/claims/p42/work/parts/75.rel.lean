/-! ===== the pair cut ===== -/
theorem i_dv {x y : Int32} (hy : 0 < y.toInt) : (x / y).toInt = x.toInt.tdiv y.toInt := Int32.toInt_div_of_ne_right _ _ (fun z => by rw [z] at hy; exact absurd hy (by decide))
theorem i_dvn {x y : Int32} (hx : 0 ≤ x.toInt) (hy : 0 < y.toInt) : (x / y).toInt = x.toInt / y.toInt := by rw [i_dv hy, Int.tdiv_eq_ediv_of_nonneg hx]
theorem i_rmn {x y : Int32} (hx : 0 ≤ x.toInt) (hy : 0 < y.toInt) : (x - x / y * y).toInt = x.toInt % y.toInt := by
  have f := aFull_ok x
  have f2 : x.toInt ≤ 2147483647 := f.2
  have e1 := i_dvn hx hy
  have e2 : x.toInt / y.toInt * y.toInt ≤ x.toInt := Int.ediv_mul_le _ (by omega)
  have e3 : 0 ≤ x.toInt / y.toInt * y.toInt := Int.mul_nonneg (Int.ediv_nonneg hx (by omega)) (by omega)
  have e4 : (x / y * y).toInt = x.toInt / y.toInt * y.toInt := by rw [i_mul (by rw [e1]; omega) (by rw [e1]; omega), e1]
  rw [i_sub (by rw [e4]; omega) (by rw [e4]; omega), e4]
  have e5 := Int.emod_add_mul_ediv x.toInt y.toInt
  rw [Int.mul_comm] at e5
  omega
theorem td7 {x : Int} : x.tdiv 1000 < 7 ↔ x < 7000 := by
  by_cases h : 0 ≤ x
  · rw [Int.tdiv_eq_ediv_of_nonneg h]
    omega
  · have h2 : 0 ≤ (-x).tdiv 1000 := Int.tdiv_nonneg (by omega) (by omega)
    rw [Int.neg_tdiv] at h2
    omega
def cOk (c : Int32) : Prop := c.toInt / 100 % 10 ≤ 8 ∧ c.toInt / 10 % 10 ≤ 8 ∧ c.toInt % 10 ≤ 8
theorem dg3 {c : Int32} (h : 0 ≤ c.toInt) : (cD c (Int8.ofInt 100).toInt32).toInt = c.toInt / 100 % 10 := by
  have e := i_dvn (y := (Int8.ofInt 100).toInt32) h (by decide)
  have e2 : (Int8.ofInt 100).toInt32.toInt = 100 := rfl
  have e3 : (Int8.ofInt 10).toInt32.toInt = 10 := rfl
  unfold cD
  rw [i_rmn (by rw [e, e2]; omega) (by decide), e, e2, e3]
theorem dg2 {c : Int32} (h : 0 ≤ c.toInt) : (cD c (Int8.ofInt 10).toInt32).toInt = c.toInt / 10 % 10 := by
  have e := i_dvn (y := (Int8.ofInt 10).toInt32) h (by decide)
  have e3 : (Int8.ofInt 10).toInt32.toInt = 10 := rfl
  unfold cD
  rw [i_rmn (by rw [e, e3]; omega) (by decide), e, e3]
theorem dg1 {c : Int32} (h : 0 ≤ c.toInt) : (cD1 c).toInt = c.toInt % 10 := by
  have e3 : (Int8.ofInt 10).toInt32.toInt = 10 := rfl
  unfold cD1
  rw [i_rmn h (by decide), e3]
/-- hasCutNumbers -/
theorem s_hcn {d : Nat} {h : sHp} {c : Int32} {b : Int32} (h0 : 0 ≤ c.toInt) (hb : (cOk c ∧ b = 1) ∨ (¬ cOk c ∧ b = 0)) : sDo (d + 1) 163 [.int c] h (fun r h' => h' = h ∧ r = some (.int b)) := by
  have e8 : (Int8.ofInt 8).toInt32.toInt = 8 := rfl
  have k3 := dg3 h0
  have k2 := dg2 h0
  have k1 := dg1 h0
  unfold cOk at hb
  unfold cD at k3 k2
  unfold cD1 at k1
  refine sDo_of (d := d) (nL := 1) (L := [some (.int c)]) rfl rfl ?_
  refine g_iload_n (i := 0) rfl rfl ?_
  refine g_bipush (n := 100) rfl ?_
  refine g_idiv rfl (by decide) ?_
  refine g_bipush (n := 10) rfl ?_
  refine g_irem rfl (by decide) ?_
  refine g_bipush (n := 8) rfl ?_
  refine g_icmp_gt 37 rfl rfl (fun c1 => ?_) (fun c1 => ?_)
  · skip
    rw [i_lt, k3, e8] at c1
    refine g_iconst (n := 0) rfl ?_
    refine g_ireturn (ty := .boolean) rfl rfl (by decide) ?_
    rcases hb with ⟨hk, rfl⟩ | ⟨hk, rfl⟩
    · exact absurd hk (by omega)
    · exact ⟨rfl, rfl⟩
  · skip
    rw [i_lt, k3, e8] at c1
    refine g_iload_n (i := 0) rfl rfl ?_
    refine g_bipush (n := 10) rfl ?_
    refine g_idiv rfl (by decide) ?_
    refine g_bipush (n := 10) rfl ?_
    refine g_irem rfl (by decide) ?_
    refine g_bipush (n := 8) rfl ?_
    refine g_icmp_gt 37 rfl rfl (fun c2 => ?_) (fun c2 => ?_)
    · skip
      rw [i_lt, k2, e8] at c2
      refine g_iconst (n := 0) rfl ?_
      refine g_ireturn (ty := .boolean) rfl rfl (by decide) ?_
      rcases hb with ⟨hk, rfl⟩ | ⟨hk, rfl⟩
      · exact absurd hk (by omega)
      · exact ⟨rfl, rfl⟩
    · skip
      rw [i_lt, k2, e8] at c2
      refine g_iload_n (i := 0) rfl rfl ?_
      refine g_bipush (n := 10) rfl ?_
      refine g_irem rfl (by decide) ?_
      refine g_bipush (n := 8) rfl ?_
      refine g_icmp_gt 37 rfl rfl (fun c3 => ?_) (fun c3 => ?_)
      · skip
        rw [i_lt, k1, e8] at c3
        refine g_iconst (n := 0) rfl ?_
        refine g_ireturn (ty := .boolean) rfl rfl (by decide) ?_
        rcases hb with ⟨hk, rfl⟩ | ⟨hk, rfl⟩
        · exact absurd hk (by omega)
        · exact ⟨rfl, rfl⟩
      · skip
        rw [i_lt, k1, e8] at c3
        refine g_iconst (n := 1) rfl ?_
        refine g_goto 38 rfl rfl ?_
        refine g_ireturn (ty := .boolean) rfl rfl (by decide) ?_
        rcases hb with ⟨hk, rfl⟩ | ⟨hk, rfl⟩
        · exact ⟨rfl, rfl⟩
        · exact absurd (by omega) hk
def oRel (S : Nat) : va_E := .inr (7, [.int (Int32.ofInt (-1)), .int (Int32.ofInt 0), .ref (45 + 2 * S)])
theorem s_release {d : Nat} {h : sHp} {p S : Nat} {o z : Int32} (hp : h[p]? = some (.inr (7, [.int o, .int z, .ref (45 + 2 * S)]))) : sDo (d + 1) 80 [.ref p] h (fun r h' => r = none ∧ h' = h.set p (oRel S)) := by
  refine sDo_of (d := d) (nL := 1) (L := [some (.ref p)]) rfl rfl ?_
  have hp1 : (h.set p (.inr (7, [.int (Int32.ofInt (-1)), .int z, .ref (45 + 2 * S)])))[p]? = some (.inr (7, [.int (Int32.ofInt (-1)), .int z, .ref (45 + 2 * S)])) := s_set_eq hp
  refine g_aload_n (i := 0) rfl rfl ?_
  refine g_iconst (n := (-1)) rfl ?_
  refine g_putfield (h1 := h.set p (.inr (7, [.int (Int32.ofInt (-1)), .int z, .ref (45 + 2 * S)]))) rfl hp (by decide) (Nat.le_of_ble_eq_true rfl) rfl rfl ?_
  refine g_aload_n (i := 0) rfl rfl ?_
  refine g_iconst (n := 0) rfl ?_
  refine g_putfield (h1 := h.set p (oRel S)) rfl hp1 (by decide) (Nat.le_of_ble_eq_true rfl) rfl (List.set_set ..) ?_
  refine g_return rfl rfl ?_
  exact ⟨rfl, rfl⟩
theorem nc_swE {x : Int32} {n t : Nat} {h : sHp} {L : sLo} {Q : Option Value → sHp → Prop} {d : Nat} (hx : x.toInt = n) (ht : [128, 44, 58, 72, 86, 100, 114][n]? = some t) (k : sGo none 164 d t L [] h Q) : sGo none 164 d 5 L [.int x] h Q := by
  have hF : sFk 164 5 = some (.tableswitch 123 1 6 #[39, 53, 67, 81, 95, 109]) := rfl
  have key : ∀ (m : Nat) (o : Int), x.toInt = m + 1 → m < 6 → #[(39 : Int), 53, 67, 81, 95, 109][m]? = some o → sTgt 5 o = some t → sGo none 164 d 5 L [.int x] h Q := by
    intro m o hn hm ho ht
    refine go_jmp (pc1 := t) (st1 := []) hF rfl ?_ k
    show (if x.toInt < 1 ∨ 6 < x.toInt then _ else (match #[(39 : Int), 53, 67, 81, 95, 109][(x.toInt - 1).toNat]? with
      | some off => (sTgt 5 off).map (fun t => (t, ([] : List Value)))
      | none => none)) = _
    rw [if_neg (by omega), show (x.toInt - 1).toNat = m by omega, ho]
    dsimp only
    rw [ht]; rfl
  match n, hx, ht with
  | 0, hx, ht =>
    cases ht
    refine go_jmp (pc1 := 128) (st1 := []) hF rfl ?_ k
    show (if x.toInt < 1 ∨ 6 < x.toInt then (sTgt 5 123).map (fun t => (t, ([] : List Value))) else _) = _
    rw [if_pos (by omega)]; rfl
  | 1, hx, ht => cases ht; exact key 0 39 hx (by decide) rfl rfl
  | 2, hx, ht => cases ht; exact key 1 53 hx (by decide) rfl rfl
  | 3, hx, ht => cases ht; exact key 2 67 hx (by decide) rfl rfl
  | 4, hx, ht => cases ht; exact key 3 81 hx (by decide) rfl rfl
  | 5, hx, ht => cases ht; exact key 4 95 hx (by decide) rfl rfl
  | 6, hx, ht => cases ht; exact key 5 109 hx (by decide) rfl rfl
  | k + 7, hx, ht => cases ht
theorem s_newCutE {d : Nat} {h : sHp} {fs : List Value} {s c : Int32} (hf : h[0]? = some (.inr (11, fs))) (f2 : fs[2]? = some (.ref 3)) (c0 : 0 ≤ c.toInt) (c7 : c.toInt < 7000) : sDo (d + 4) 164 [.ref 0, .int s, .int c] h (fun r h' => r = some (.ref h.length) ∧ h' = h ++ [.inr (bKi c, cutFs s c)]) := by
  have e1000 : (Int16.ofInt 1000).toInt32.toInt = 1000 := rfl
  have eq1 := i_dvn (y := (Int16.ofInt 1000).toInt32) c0 (by decide)
  rw [e1000] at eq1
  refine sDo_of (d := d + 3) (nL := 3) (L := [some (.ref 0), some (.int s), some (.int c)]) rfl rfl ?_
  refine g_iload_n (i := 2) rfl rfl ?_
  refine g_sipush (n := 1000) rfl ?_
  refine g_idiv rfl (by decide) ?_
  rcases (show c.toInt / 1000 = 0 ∨ c.toInt / 1000 = 1 ∨ c.toInt / 1000 = 2 ∨ c.toInt / 1000 = 3 ∨ c.toInt / 1000 = 4 ∨ c.toInt / 1000 = 5 ∨ c.toInt / 1000 = 6 by omega) with en | en | en | en | en | en | en
  · skip
    have hk : bKi c = 2 := by unfold bKi; rw [en]; rfl
    rw [hk]
    refine nc_swE (n := 0) (t := 128) (eq1.trans en) rfl ?_
    refine g_new (j := 2) rfl (by decide) ?_
    have hf2 : (h ++ [.inr (2, sDef 2)])[0]? = some (.inr (11, fs)) := s_app_lt hf
    have hp : (h ++ [.inr (2, sDef 2)])[h.length]? = some (.inr (2, [.int 0, .int 0, .int 0, .int 0, .int 0, .null])) := s_app_at _ _
    refine g_dup rfl rfl ?_
    refine g_iload_n (i := 1) rfl rfl ?_
    refine g_iload_n (i := 2) rfl rfl ?_
    refine g_aload_n (i := 0) rfl rfl ?_
    refine g_getfield (v := .ref 3) rfl hf2 (by decide) f2 ?_
    refine g_init3 (k1 := 9) (Qc := fun r h' => r = none ∧ h' = List.set (h ++ [(Sum.inr (2, sDef 2) : va_E)] : sHp) h.length (Sum.inr (2, cutFs s c))) rfl (by decide) rfl hp (Nat.le_of_ble_eq_true rfl) (sDo_up (d := 1) (by omega) (s_init9 (d := 0) (by decide) hp ⟨rfl, rfl⟩)) (fun r h1 hq => ?_)
    obtain ⟨rfl, rfl⟩ := hq
    refine g_areturn (C := RX2) rfl rfl ?_
    exact ⟨rfl, s_app_set _ _ _⟩
  · skip
    have hk : bKi c = 9 := by unfold bKi; rw [en]; rfl
    rw [hk]
    refine nc_swE (n := 1) (t := 44) (eq1.trans en) rfl ?_
    refine g_new (j := 9) rfl (by decide) ?_
    have hf2 : (h ++ [.inr (9, sDef 9)])[0]? = some (.inr (11, fs)) := s_app_lt hf
    have hp : (h ++ [.inr (9, sDef 9)])[h.length]? = some (.inr (9, [.int 0, .int 0, .int 0, .int 0, .int 0, .null])) := s_app_at _ _
    refine g_dup rfl rfl ?_
    refine g_iload_n (i := 1) rfl rfl ?_
    refine g_iload_n (i := 2) rfl rfl ?_
    refine g_aload_n (i := 0) rfl rfl ?_
    refine g_getfield (v := .ref 3) rfl hf2 (by decide) f2 ?_
    refine g_init3 (k1 := 104) (Qc := fun r h' => r = none ∧ h' = List.set (h ++ [(Sum.inr (9, sDef 9) : va_E)] : sHp) h.length (Sum.inr (9, cutFs s c))) rfl (by decide) rfl hp (Nat.le_of_ble_eq_true rfl) (sDo_up (d := 2) (by omega) (s_init104 (d := 0) (by decide) hp ⟨rfl, rfl⟩)) (fun r h1 hq => ?_)
    obtain ⟨rfl, rfl⟩ := hq
    refine g_areturn (C := RX2) rfl rfl ?_
    exact ⟨rfl, s_app_set _ _ _⟩
  · skip
    have hk : bKi c = 1 := by unfold bKi; rw [en]; rfl
    rw [hk]
    refine nc_swE (n := 2) (t := 58) (eq1.trans en) rfl ?_
    refine g_new (j := 1) rfl (by decide) ?_
    have hf2 : (h ++ [.inr (1, sDef 1)])[0]? = some (.inr (11, fs)) := s_app_lt hf
    have hp : (h ++ [.inr (1, sDef 1)])[h.length]? = some (.inr (1, [.int 0, .int 0, .int 0, .int 0, .int 0, .null])) := s_app_at _ _
    refine g_dup rfl rfl ?_
    refine g_iload_n (i := 1) rfl rfl ?_
    refine g_iload_n (i := 2) rfl rfl ?_
    refine g_aload_n (i := 0) rfl rfl ?_
    refine g_getfield (v := .ref 3) rfl hf2 (by decide) f2 ?_
    refine g_init3 (k1 := 5) (Qc := fun r h' => r = none ∧ h' = List.set (h ++ [(Sum.inr (1, sDef 1) : va_E)] : sHp) h.length (Sum.inr (1, cutFs s c))) rfl (by decide) rfl hp (Nat.le_of_ble_eq_true rfl) (sDo_up (d := 2) (by omega) (s_init5 (d := 0) (by decide) hp ⟨rfl, rfl⟩)) (fun r h1 hq => ?_)
    obtain ⟨rfl, rfl⟩ := hq
    refine g_areturn (C := RX2) rfl rfl ?_
    exact ⟨rfl, s_app_set _ _ _⟩
  · skip
    have hk : bKi c = 5 := by unfold bKi; rw [en]; rfl
    rw [hk]
    refine nc_swE (n := 3) (t := 72) (eq1.trans en) rfl ?_
    refine g_new (j := 5) rfl (by decide) ?_
    have hf2 : (h ++ [.inr (5, sDef 5)])[0]? = some (.inr (11, fs)) := s_app_lt hf
    have hp : (h ++ [.inr (5, sDef 5)])[h.length]? = some (.inr (5, [.int 0, .int 0, .int 0, .int 0, .int 0, .null])) := s_app_at _ _
    refine g_dup rfl rfl ?_
    refine g_iload_n (i := 1) rfl rfl ?_
    refine g_iload_n (i := 2) rfl rfl ?_
    refine g_aload_n (i := 0) rfl rfl ?_
    refine g_getfield (v := .ref 3) rfl hf2 (by decide) f2 ?_
    refine g_init3 (k1 := 59) (Qc := fun r h' => r = none ∧ h' = List.set (h ++ [(Sum.inr (5, sDef 5) : va_E)] : sHp) h.length (Sum.inr (5, cutFs s c))) rfl (by decide) rfl hp (Nat.le_of_ble_eq_true rfl) (sDo_up (d := 2) (by omega) (s_init59 (d := 0) (by decide) hp ⟨rfl, rfl⟩)) (fun r h1 hq => ?_)
    obtain ⟨rfl, rfl⟩ := hq
    refine g_areturn (C := RX2) rfl rfl ?_
    exact ⟨rfl, s_app_set _ _ _⟩
  · skip
    have hk : bKi c = 0 := by unfold bKi; rw [en]; rfl
    rw [hk]
    refine nc_swE (n := 4) (t := 86) (eq1.trans en) rfl ?_
    refine g_new (j := 0) rfl (by decide) ?_
    have hf2 : (h ++ [.inr (0, sDef 0)])[0]? = some (.inr (11, fs)) := s_app_lt hf
    have hp : (h ++ [.inr (0, sDef 0)])[h.length]? = some (.inr (0, [.int 0, .int 0, .int 0, .int 0, .int 0, .null])) := s_app_at _ _
    refine g_dup rfl rfl ?_
    refine g_iload_n (i := 1) rfl rfl ?_
    refine g_iload_n (i := 2) rfl rfl ?_
    refine g_aload_n (i := 0) rfl rfl ?_
    refine g_getfield (v := .ref 3) rfl hf2 (by decide) f2 ?_
    refine g_init3 (k1 := 0) (Qc := fun r h' => r = none ∧ h' = List.set (h ++ [(Sum.inr (0, sDef 0) : va_E)] : sHp) h.length (Sum.inr (0, cutFs s c))) rfl (by decide) rfl hp (Nat.le_of_ble_eq_true rfl) (sDo_up (d := 3) (by omega) (s_init0 (d := 0) (by decide) hp ⟨rfl, rfl⟩)) (fun r h1 hq => ?_)
    obtain ⟨rfl, rfl⟩ := hq
    refine g_areturn (C := RX2) rfl rfl ?_
    exact ⟨rfl, s_app_set _ _ _⟩
  · skip
    have hk : bKi c = 4 := by unfold bKi; rw [en]; rfl
    rw [hk]
    refine nc_swE (n := 5) (t := 100) (eq1.trans en) rfl ?_
    refine g_new (j := 4) rfl (by decide) ?_
    have hf2 : (h ++ [.inr (4, sDef 4)])[0]? = some (.inr (11, fs)) := s_app_lt hf
    have hp : (h ++ [.inr (4, sDef 4)])[h.length]? = some (.inr (4, [.int 0, .int 0, .int 0, .int 0, .int 0, .null])) := s_app_at _ _
    refine g_dup rfl rfl ?_
    refine g_iload_n (i := 1) rfl rfl ?_
    refine g_iload_n (i := 2) rfl rfl ?_
    refine g_aload_n (i := 0) rfl rfl ?_
    refine g_getfield (v := .ref 3) rfl hf2 (by decide) f2 ?_
    refine g_init3 (k1 := 55) (Qc := fun r h' => r = none ∧ h' = List.set (h ++ [(Sum.inr (4, sDef 4) : va_E)] : sHp) h.length (Sum.inr (4, cutFs s c))) rfl (by decide) rfl hp (Nat.le_of_ble_eq_true rfl) (sDo_up (d := 3) (by omega) (s_init55 (d := 0) (by decide) hp ⟨rfl, rfl⟩)) (fun r h1 hq => ?_)
    obtain ⟨rfl, rfl⟩ := hq
    refine g_areturn (C := RX2) rfl rfl ?_
    exact ⟨rfl, s_app_set _ _ _⟩
  · skip
    have hk : bKi c = 10 := by unfold bKi; rw [en]; rfl
    rw [hk]
    refine nc_swE (n := 6) (t := 114) (eq1.trans en) rfl ?_
    refine g_new (j := 10) rfl (by decide) ?_
    have hf2 : (h ++ [.inr (10, sDef 10)])[0]? = some (.inr (11, fs)) := s_app_lt hf
    have hp : (h ++ [.inr (10, sDef 10)])[h.length]? = some (.inr (10, [.int 0, .int 0, .int 0, .int 0, .int 0, .null])) := s_app_at _ _
    refine g_dup rfl rfl ?_
    refine g_iload_n (i := 1) rfl rfl ?_
    refine g_iload_n (i := 2) rfl rfl ?_
    refine g_aload_n (i := 0) rfl rfl ?_
    refine g_getfield (v := .ref 3) rfl hf2 (by decide) f2 ?_
    refine g_init3 (k1 := 108) (Qc := fun r h' => r = none ∧ h' = List.set (h ++ [(Sum.inr (10, sDef 10) : va_E)] : sHp) h.length (Sum.inr (10, cutFs s c))) rfl (by decide) rfl hp (Nat.le_of_ble_eq_true rfl) (sDo_up (d := 3) (by omega) (s_init108 (d := 0) (by decide) hp ⟨rfl, rfl⟩)) (fun r h1 hq => ?_)
    obtain ⟨rfl, rfl⟩ := hq
    refine g_areturn (C := RX2) rfl rfl ?_
    exact ⟨rfl, s_app_set _ _ _⟩
theorem s_cut11_no {h : sHp} {s c x : Int32} (hH : bH h) (hx : (¬ (0 ≤ s.toInt ∧ s.toInt < 8) ∧ x = -1) ∨ ((0 ≤ s.toInt ∧ s.toInt < 8) ∧ 7000 ≤ c.toInt ∧ x = -1) ∨ ((0 ≤ s.toInt ∧ s.toInt < 8) ∧ c.toInt < -1 ∧ x = -6) ∨ ((0 ≤ s.toInt ∧ s.toInt < 8) ∧ 0 ≤ c.toInt ∧ c.toInt < 7000 ∧ ¬ cOk c ∧ x = -6)) : sDo 10 118 [.ref 0, .int s, .int c] h (fun r h' => r = some (.int x) ∧ pRef h h') := by
  obtain ⟨fs, hf, -⟩ := bFldK hH (p := 0) (by decide) rfl
  have e1000 : (Int16.ofInt 1000).toInt32.toInt = 1000 := rfl
  have e7 : (Int8.ofInt 7).toInt32.toInt = 7 := rfl
  have em1 : (Int32.ofInt (-1)).toInt = -1 := rfl
  refine sDo_of (d := 9) (nL := 3) (L := [some (.ref 0), some (.int s), some (.int c)]) rfl rfl ?_
  rcases hx with ⟨hs, rfl⟩ | ⟨hs, hc, rfl⟩ | ⟨hs, hc, rfl⟩ | ⟨hs, hc0, hc2, hk, rfl⟩
  · skip
    refine g_iload_n (i := 1) rfl rfl ?_
    refine g_static1 (Qc := fun r h' => h' = h ∧ r = some (.int 0)) rfl (by decide) rfl (Nat.le_of_ble_eq_true rfl) (s_sh11 (by rw [if_neg hs])) (fun r h9 hq9 => ?_)
    obtain ⟨rfl, rfl⟩ := hq9
    refine g_if_eq 17 rfl rfl (fun _ => ?_) (fun hc => absurd hc (by decide))
    refine g_aload_n (i := 0) rfl rfl ?_
    refine g_iconst (n := (-1)) rfl ?_
    refine g_virt1 (Qc := fun r h' => r = some (.int (-1)) ∧ ∃ R, h' = h9.set 43 (.inl (0, 8, .inl R))) rfl (by decide) rfl hf rfl (Nat.le_of_ble_eq_true rfl) (sDo_up (d := 2) (by decide) (s_rfus (d := 0) hH (by decide) (by decide))) (fun r h8 hq9 => ?_)
    obtain ⟨rfl, hR⟩ := hq9
    refine g_ireturn (ty := .int) rfl rfl rfl ?_
    exact ⟨rfl, hR⟩
  · skip
    refine g_iload_n (i := 1) rfl rfl ?_
    refine g_static1 (Qc := fun r h' => h' = h ∧ r = some (.int 1)) rfl (by decide) rfl (Nat.le_of_ble_eq_true rfl) (s_sh11 (by rw [if_pos hs])) (fun r h9 hq9 => ?_)
    obtain ⟨rfl, rfl⟩ := hq9
    refine g_if_eq 17 rfl rfl (fun hc => absurd hc (by decide)) (fun _ => ?_)
    refine g_iload_n (i := 2) rfl rfl ?_
    refine g_sipush (n := 1000) rfl ?_
    refine g_idiv rfl (by decide) ?_
    refine g_bipush (n := 7) rfl ?_
    refine g_icmp_lt 23 rfl rfl (fun hc => absurd hc (by rw [i_lt, i_dv (by decide), e1000, e7, td7]; omega)) (fun _ => ?_)
    refine g_aload_n (i := 0) rfl rfl ?_
    refine g_iconst (n := (-1)) rfl ?_
    refine g_virt1 (Qc := fun r h' => r = some (.int (-1)) ∧ ∃ R, h' = h9.set 43 (.inl (0, 8, .inl R))) rfl (by decide) rfl hf rfl (Nat.le_of_ble_eq_true rfl) (sDo_up (d := 2) (by decide) (s_rfus (d := 0) hH (by decide) (by decide))) (fun r h8 hq9 => ?_)
    obtain ⟨rfl, hR⟩ := hq9
    refine g_ireturn (ty := .int) rfl rfl rfl ?_
    exact ⟨rfl, hR⟩
  · skip
    refine g_iload_n (i := 1) rfl rfl ?_
    refine g_static1 (Qc := fun r h' => h' = h ∧ r = some (.int 1)) rfl (by decide) rfl (Nat.le_of_ble_eq_true rfl) (s_sh11 (by rw [if_pos hs])) (fun r h9 hq9 => ?_)
    obtain ⟨rfl, rfl⟩ := hq9
    refine g_if_eq 17 rfl rfl (fun hc => absurd hc (by decide)) (fun _ => ?_)
    refine g_iload_n (i := 2) rfl rfl ?_
    refine g_sipush (n := 1000) rfl ?_
    refine g_idiv rfl (by decide) ?_
    refine g_bipush (n := 7) rfl ?_
    refine g_icmp_lt 23 rfl rfl (fun _ => ?_) (fun hc => absurd hc (by rw [i_lt, i_dv (by decide), e1000, e7, td7]; omega))
    refine g_iload_n (i := 2) rfl rfl ?_
    refine g_iconst (n := (-1)) rfl ?_
    refine g_icmp_lt 40 rfl rfl (fun _ => ?_) (fun hc => absurd hc (by rw [i_lt, em1]; omega))
    refine g_aload_n (i := 0) rfl rfl ?_
    refine g_bipush (n := (-6)) rfl ?_
    refine g_virt1 (Qc := fun r h' => r = some (.int (-6)) ∧ ∃ R, h' = h9.set 43 (.inl (0, 8, .inl R))) rfl (by decide) rfl hf rfl (Nat.le_of_ble_eq_true rfl) (sDo_up (d := 2) (by decide) (s_rfus (d := 0) hH (by decide) (by decide))) (fun r h8 hq9 => ?_)
    obtain ⟨rfl, hR⟩ := hq9
    refine g_ireturn (ty := .int) rfl rfl rfl ?_
    exact ⟨rfl, hR⟩
  · skip
    refine g_iload_n (i := 1) rfl rfl ?_
    refine g_static1 (Qc := fun r h' => h' = h ∧ r = some (.int 1)) rfl (by decide) rfl (Nat.le_of_ble_eq_true rfl) (s_sh11 (by rw [if_pos hs])) (fun r h9 hq9 => ?_)
    obtain ⟨rfl, rfl⟩ := hq9
    refine g_if_eq 17 rfl rfl (fun hc => absurd hc (by decide)) (fun _ => ?_)
    refine g_iload_n (i := 2) rfl rfl ?_
    refine g_sipush (n := 1000) rfl ?_
    refine g_idiv rfl (by decide) ?_
    refine g_bipush (n := 7) rfl ?_
    refine g_icmp_lt 23 rfl rfl (fun _ => ?_) (fun hc => absurd hc (by rw [i_lt, i_dv (by decide), e1000, e7, td7]; omega))
    refine g_iload_n (i := 2) rfl rfl ?_
    refine g_iconst (n := (-1)) rfl ?_
    refine g_icmp_lt 40 rfl rfl (fun hc => absurd hc (by rw [i_lt, em1]; omega)) (fun _ => ?_)
    refine g_iload_n (i := 2) rfl rfl ?_
    refine g_iconst (n := (-1)) rfl ?_
    refine g_icmp_eq 47 rfl rfl (fun hc => absurd hc (by intro z; rw [z, em1] at hc0; omega)) (fun _ => ?_)
    refine g_iload_n (i := 2) rfl rfl ?_
    refine g_static1 (Qc := fun r h' => h' = h9 ∧ r = some (.int 0)) rfl (by decide) rfl (Nat.le_of_ble_eq_true rfl) (s_hcn hc0 (Or.inr ⟨hk, rfl⟩)) (fun r h8 hq9 => ?_)
    obtain ⟨rfl, rfl⟩ := hq9
    refine g_if_ne 47 rfl rfl (fun hc => absurd hc (by decide)) (fun _ => ?_)
    refine g_aload_n (i := 0) rfl rfl ?_
    refine g_bipush (n := (-6)) rfl ?_
    refine g_virt1 (Qc := fun r h' => r = some (.int (-6)) ∧ ∃ R, h' = h8.set 43 (.inl (0, 8, .inl R))) rfl (by decide) rfl hf rfl (Nat.le_of_ble_eq_true rfl) (sDo_up (d := 2) (by decide) (s_rfus (d := 0) hH (by decide) (by decide))) (fun r h7 hq9 => ?_)
    obtain ⟨rfl, hR⟩ := hq9
    refine g_ireturn (ty := .int) rfl rfl rfl ?_
    exact ⟨rfl, hR⟩
/-- what cut of the class leaves -/
def pCutS (s c : Int32) (S : Nat) (h1 : sHp) (y : Int32) : Prop := ∃ (hd so sz co : Nat → Int32) (cl : Nat → Int64) (f g : Nat → Option Nat) (el : Nat → Int64) (pc : Option Nat), h1[1]? = some (.inl (3, 8, .inr (.inr (.inr (.inr f))))) ∧ (∀ s, s < 8 → f s = some (44 + 2 * s)) ∧ h1[2]? = some (.inl (4, 8, .inr (.inr (.inr (.inr (va_up g S pc)))))) ∧ h1[67]? = some (.inl (0, 8, .inl hd)) ∧ h1[68]? = some (.inl (0, 8, .inl so)) ∧ h1[69]? = some (.inl (0, 8, .inl sz)) ∧ h1[70]? = some (.inl (0, 8, .inl co)) ∧ h1[71]? = some (.inl (1, 800, .inr (.inl cl))) ∧ h1[44 + 2 * S]? = some (oRel S) ∧ h1[45 + 2 * S]? = some (.inl (1, 100, .inr (.inl el))) ∧ (∀ t, t < 8 → t ≠ S → bRS hd so sz co cl g h1 t) ∧ ((pc = none ∧ c = Int32.ofInt (-1) ∧ y = 0) ∨ (∃ p, pc = some p ∧ 79 ≤ p ∧ h1[p]? = some (.inr (bKi c, cutFs s c)) ∧ 0 ≤ c.toInt ∧ c.toInt < 7000 ∧ cOk c ∧ y = 1))
theorem bRS_app {hd so sz co : Nat → Int32} {cl : Nat → Int64} {g : Nat → Option Nat} {h : sHp} {s : Nat} {c : va_E} (q : bRS hd so sz co cl g h s) : bRS hd so sz co cl g (h ++ [c]) s := by
  obtain ⟨ot, z, el, b1, b2, b3⟩ := q
  refine ⟨ot, z, el, s_app_lt b1, s_app_lt b2, ?_⟩
  rcases b3 with x | x | ⟨x1, x2, pc, x3, x4, x5, x6⟩
  · exact Or.inl x
  · exact Or.inr (Or.inl x)
  · exact Or.inr (Or.inr ⟨x1, x2, pc, x3, x4, s_app_lt x5, x6⟩)
theorem s_cut11_in {h : sHp} {s c y : Int32} {S : Nat} (hH : bH h) (hR : bR5 h) (hs : s.toInt = S) (hS : S < 8) (hc : (c = Int32.ofInt (-1) ∧ y = 0) ∨ (0 ≤ c.toInt ∧ c.toInt < 7000 ∧ cOk c ∧ y = 1)) : sDo 10 118 [.ref 0, .int s, .int c] h (fun r h' => r = some (.int y) ∧ pCutS s c S h' y) := by
  obtain ⟨hd, so, sz, co, cl, f, g, q4, q5⟩ := hR
  obtain ⟨ot, z, el, b1, b2, b3⟩ := q5 S hS
  obtain ⟨a1, a2, a3, a4, a5, a6, a7, a8⟩ := q4
  obtain ⟨fs, hf, -, hfs⟩ := bFldK hH (p := 0) (by decide) rfl
  obtain ⟨v0, f0, r0⟩ := hfs 0 _ rfl
  cases bT_one (by decide) (by decide +kernel) r0
  obtain ⟨v1, f1, r1⟩ := hfs 1 _ rfl
  cases bT_one (by decide) (by decide +kernel) r1
  have sn : s.toNatClampNeg = S := i_nat hs
  have fS : va_rf (f s.toNatClampNeg) = .ref (44 + 2 * S) := by rw [sn, a2 S hS]; rfl
  obtain ⟨v2, f2, r2⟩ := hfs 2 _ rfl
  cases bT_one (by decide) (by decide +kernel) r2
  have h79 := hH.1
  have e1000 : (Int16.ofInt 1000).toInt32.toInt = 1000 := rfl
  have e7 : (Int8.ofInt 7).toInt32.toInt = 7 := rfl
  have em1 : (Int32.ofInt (-1)).toInt = -1 := rfl
  have n1 : (h.set (44 + 2 * S) (oRel S))[1]? = some (.inl (3, 8, .inr (.inr (.inr (.inr f))))) := by rw [s_set_ne (by omega)]; exact a1
  have n0 : (h.set (44 + 2 * S) (oRel S))[0]? = some (.inr (11, fs)) := by rw [s_set_ne (by omega)]; exact hf
  have n2 : (h.set (44 + 2 * S) (oRel S))[2]? = some (.inl (4, 8, .inr (.inr (.inr (.inr g))))) := by rw [s_set_ne (by omega)]; exact a3
  have n67 : (h.set (44 + 2 * S) (oRel S))[67]? = some (.inl (0, 8, .inl hd)) := by rw [s_set_ne (by omega)]; exact a4
  have n68 : (h.set (44 + 2 * S) (oRel S))[68]? = some (.inl (0, 8, .inl so)) := by rw [s_set_ne (by omega)]; exact a5
  have n69 : (h.set (44 + 2 * S) (oRel S))[69]? = some (.inl (0, 8, .inl sz)) := by rw [s_set_ne (by omega)]; exact a6
  have n70 : (h.set (44 + 2 * S) (oRel S))[70]? = some (.inl (0, 8, .inl co)) := by rw [s_set_ne (by omega)]; exact a7
  have n71 : (h.set (44 + 2 * S) (oRel S))[71]? = some (.inl (1, 800, .inr (.inl cl))) := by rw [s_set_ne (by omega)]; exact a8
  have nr : (h.set (44 + 2 * S) (oRel S))[44 + 2 * S]? = some (oRel S) := s_set_eq b1
  have ne : (h.set (44 + 2 * S) (oRel S))[45 + 2 * S]? = some (.inl (1, 100, .inr (.inl el))) := by rw [s_set_ne (by omega)]; exact b2
  have no : ∀ t, t < 8 → t ≠ S → bRS hd so sz co cl g (h.set (44 + 2 * S) (oRel S)) t := fun t ht hne => bRS_set (q5 t ht) (by omega) (by omega) (by omega)
  refine sDo_of (d := 9) (nL := 3) (L := [some (.ref 0), some (.int s), some (.int c)]) rfl rfl ?_
  rcases hc with ⟨rfl, rfl⟩ | ⟨c0, c7, ck, rfl⟩
  · skip
    refine g_iload_n (i := 1) rfl rfl ?_
    refine g_static1 (Qc := fun r h' => h' = h ∧ r = some (.int 1)) rfl (by decide) rfl (Nat.le_of_ble_eq_true rfl) (s_sh11 (by rw [if_pos (by omega)])) (fun r h9 hq9 => ?_)
    obtain ⟨rfl, rfl⟩ := hq9
    refine g_if_eq 17 rfl rfl (fun hc => absurd hc (by decide)) (fun _ => ?_)
    refine g_iload_n (i := 2) rfl rfl ?_
    refine g_sipush (n := 1000) rfl ?_
    refine g_idiv rfl (by decide) ?_
    refine g_bipush (n := 7) rfl ?_
    refine g_icmp_lt 23 rfl rfl (fun _ => ?_) (fun hc => absurd hc (by rw [i_lt, i_dv (by decide), e1000, e7, td7]; omega))
    refine g_iload_n (i := 2) rfl rfl ?_
    refine g_iconst (n := (-1)) rfl ?_
    refine g_icmp_lt 40 rfl rfl (fun hc => absurd hc (by rw [i_lt, em1]; omega)) (fun _ => ?_)
    refine g_iload_n (i := 2) rfl rfl ?_
    refine g_iconst (n := (-1)) rfl ?_
    refine g_icmp_eq 47 rfl rfl (fun _ => ?_) (fun hc => absurd hc (by exact fun z => z rfl))
    refine g_aload_n (i := 0) rfl rfl ?_
    refine g_getfield (v := .ref 1) rfl hf (by decide) f0 ?_
    refine g_iload_n (i := 1) rfl rfl ?_
    refine g_aaload rfl a1 (by decide) (i_in (by omega) (by omega)) ?_
    rw [fS]
    refine g_virt0 (Qc := fun r h' => r = none ∧ h' = List.set h9 (44 + 2 * S) (oRel S)) rfl (by decide) rfl b1 rfl (Nat.le_of_ble_eq_true rfl) (sDo_up (d := 1) (by decide) (s_release (d := 0) b1)) (fun r h7 hq9 => ?_)
    obtain ⟨rfl, rfl⟩ := hq9
    refine g_aload_n (i := 0) rfl rfl ?_
    refine g_getfield (v := .ref 2) rfl n0 (by decide) f1 ?_
    refine g_iload_n (i := 1) rfl rfl ?_
    refine g_iload_n (i := 2) rfl rfl ?_
    refine g_iconst (n := (-1)) rfl ?_
    refine g_icmp_ne 70 rfl rfl (fun hc => absurd hc (by exact fun z => z rfl)) (fun _ => ?_)
    refine g_aconst_null rfl ?_
    refine g_goto 76 rfl rfl ?_
    refine g_aastoreN rfl n2 (by decide) (i_in (by omega) (by omega)) rfl ?_
    rw [sn]
    refine g_iload_n (i := 2) rfl rfl ?_
    refine g_iconst (n := (-1)) rfl ?_
    refine g_icmp_ne 86 rfl rfl (fun hc => absurd hc (by exact fun z => z rfl)) (fun _ => ?_)
    refine g_iconst (n := 0) rfl ?_
    refine g_goto 87 rfl rfl ?_
    refine g_ireturn (ty := .int) rfl rfl rfl ?_
    exact ⟨rfl, hd, so, sz, co, cl, f, g, el, none, by rw [s_set_ne (by omega)]; exact n1, a2, s_set_eq n2, by rw [s_set_ne (by omega)]; exact n67, by rw [s_set_ne (by omega)]; exact n68, by rw [s_set_ne (by omega)]; exact n69, by rw [s_set_ne (by omega)]; exact n70, by rw [s_set_ne (by omega)]; exact n71, by rw [s_set_ne (by omega)]; exact nr, by rw [s_set_ne (by omega)]; exact ne, fun t ht hne => bRS_set (no t ht hne) (by omega) (by omega) (by omega), Or.inl ⟨rfl, rfl, rfl⟩⟩
  · skip
    refine g_iload_n (i := 1) rfl rfl ?_
    refine g_static1 (Qc := fun r h' => h' = h ∧ r = some (.int 1)) rfl (by decide) rfl (Nat.le_of_ble_eq_true rfl) (s_sh11 (by rw [if_pos (by omega)])) (fun r h9 hq9 => ?_)
    obtain ⟨rfl, rfl⟩ := hq9
    refine g_if_eq 17 rfl rfl (fun hc => absurd hc (by decide)) (fun _ => ?_)
    refine g_iload_n (i := 2) rfl rfl ?_
    refine g_sipush (n := 1000) rfl ?_
    refine g_idiv rfl (by decide) ?_
    refine g_bipush (n := 7) rfl ?_
    refine g_icmp_lt 23 rfl rfl (fun _ => ?_) (fun hc => absurd hc (by rw [i_lt, i_dv (by decide), e1000, e7, td7]; omega))
    refine g_iload_n (i := 2) rfl rfl ?_
    refine g_iconst (n := (-1)) rfl ?_
    refine g_icmp_lt 40 rfl rfl (fun hc => absurd hc (by rw [i_lt, em1]; omega)) (fun _ => ?_)
    refine g_iload_n (i := 2) rfl rfl ?_
    refine g_iconst (n := (-1)) rfl ?_
    refine g_icmp_eq 47 rfl rfl (fun hc => absurd hc (by intro z; rw [z, em1] at c0; omega)) (fun _ => ?_)
    refine g_iload_n (i := 2) rfl rfl ?_
    refine g_static1 (Qc := fun r h' => h' = h9 ∧ r = some (.int 1)) rfl (by decide) rfl (Nat.le_of_ble_eq_true rfl) (s_hcn c0 (Or.inl ⟨ck, rfl⟩)) (fun r h8 hq9 => ?_)
    obtain ⟨rfl, rfl⟩ := hq9
    refine g_if_ne 47 rfl rfl (fun _ => ?_) (fun hc => absurd hc (by decide))
    refine g_aload_n (i := 0) rfl rfl ?_
    refine g_getfield (v := .ref 1) rfl hf (by decide) f0 ?_
    refine g_iload_n (i := 1) rfl rfl ?_
    refine g_aaload rfl a1 (by decide) (i_in (by omega) (by omega)) ?_
    rw [fS]
    refine g_virt0 (Qc := fun r h' => r = none ∧ h' = List.set h8 (44 + 2 * S) (oRel S)) rfl (by decide) rfl b1 rfl (Nat.le_of_ble_eq_true rfl) (sDo_up (d := 1) (by decide) (s_release (d := 0) b1)) (fun r h7 hq9 => ?_)
    obtain ⟨rfl, rfl⟩ := hq9
    refine g_aload_n (i := 0) rfl rfl ?_
    refine g_getfield (v := .ref 2) rfl n0 (by decide) f1 ?_
    refine g_iload_n (i := 1) rfl rfl ?_
    refine g_iload_n (i := 2) rfl rfl ?_
    refine g_iconst (n := (-1)) rfl ?_
    refine g_icmp_ne 70 rfl rfl (fun _ => ?_) (fun hc => absurd hc (by intro z; rw [z, em1] at c0; omega))
    refine g_aload_n (i := 0) rfl rfl ?_
    refine g_iload_n (i := 1) rfl rfl ?_
    refine g_iload_n (i := 2) rfl rfl ?_
    refine g_virt2 (Qc := fun r h' => r = some (.ref (List.set h8 (44 + 2 * S) (oRel S)).length) ∧ h' = List.set h8 (44 + 2 * S) (oRel S) ++ [.inr (bKi c, cutFs s c)]) rfl (by decide) rfl n0 rfl (Nat.le_of_ble_eq_true rfl) (sDo_up (d := 4) (by decide) (s_newCutE (d := 0) n0 f2 c0 c7)) (fun r h7 hq9 => ?_)
    obtain ⟨rfl, rfl⟩ := hq9
    refine g_aastore rfl (s_app_lt n2) (by rw [s_app_at]; show (((4 : Nat) == 3 && bKi c == 7) || ((4 : Nat) == 4 && (sGrp (bKi c) == 2 && decide (bKi c < 11)))) = true; rw [(cut_ty (bKi_in c)).1, decide_eq_true (cut_ty (bKi_in c)).2.1]; rfl) (i_in (by omega) (by omega)) rfl ?_
    rw [sn]
    refine g_iload_n (i := 2) rfl rfl ?_
    refine g_iconst (n := (-1)) rfl ?_
    refine g_icmp_ne 86 rfl rfl (fun _ => ?_) (fun hc => absurd hc (by intro z; rw [z, em1] at c0; omega))
    refine g_iconst (n := 1) rfl ?_
    refine g_ireturn (ty := .int) rfl rfl rfl ?_
    exact ⟨rfl, hd, so, sz, co, cl, f, g, el, some (List.set h8 (44 + 2 * S) (oRel S)).length, by rw [s_set_ne (by omega)]; exact s_app_lt n1, a2, s_set_eq (s_app_lt n2), by rw [s_set_ne (by omega)]; exact s_app_lt n67, by rw [s_set_ne (by omega)]; exact s_app_lt n68, by rw [s_set_ne (by omega)]; exact s_app_lt n69, by rw [s_set_ne (by omega)]; exact s_app_lt n70, by rw [s_set_ne (by omega)]; exact s_app_lt n71, by rw [s_set_ne (by omega)]; exact s_app_lt nr, by rw [s_set_ne (by omega)]; exact s_app_lt ne, fun t ht hne => bRS_set (bRS_app (no t ht hne)) (by omega) (by omega) (by omega), Or.inr ⟨_, rfl, by rw [List.length_set]; exact h79, by rw [s_set_ne (by rw [List.length_set]; omega)]; exact s_app_at _ _, c0, c7, ck, rfl⟩⟩
theorem s_cut12_no {h : sHp} {s c x : Int32} (hH : bH h) (hR : bR5 h) (hx : (¬ (0 ≤ s.toInt ∧ s.toInt < 8) ∧ x = -1) ∨ ((0 ≤ s.toInt ∧ s.toInt < 8) ∧ 7000 ≤ c.toInt ∧ x = -1) ∨ ((0 ≤ s.toInt ∧ s.toInt < 8) ∧ c.toInt < -1 ∧ x = -6) ∨ ((0 ≤ s.toInt ∧ s.toInt < 8) ∧ 0 ≤ c.toInt ∧ c.toInt < 7000 ∧ ¬ cOk c ∧ x = -6)) : sDo 10 182 [.ref 60, .int s, .int c] h (fun r h' => r = some (.int x) ∧ bR5 h') := by
  obtain ⟨fs, hf, -⟩ := bObj60 hH
  have e7000 : (Int16.ofInt 7000).toInt32.toInt = 7000 := rfl
  have e9 : (Int8.ofInt 9).toInt32.toInt = 9 := rfl
  have em1 : (Int32.ofInt (-1)).toInt = -1 := rfl
  refine sDo_of (d := 9) (nL := 3) (L := [some (.ref 60), some (.int s), some (.int c)]) rfl rfl ?_
  rcases hx with ⟨hs, rfl⟩ | ⟨hs, hc, rfl⟩ | ⟨hs, hc, rfl⟩ | ⟨hs, hc0, hc2, hk, rfl⟩
  · skip
    refine g_aload_n (i := 0) rfl rfl ?_
    refine g_iload_n (i := 1) rfl rfl ?_
    refine g_virt1 (Qc := fun r h' => h' = h ∧ r = some (.int 0)) rfl (by decide) rfl hf rfl (Nat.le_of_ble_eq_true rfl) (s_sh12 (by rw [if_neg hs])) (fun r h9 hq9 => ?_)
    obtain ⟨rfl, rfl⟩ := hq9
    refine g_if_eq 15 rfl rfl (fun _ => ?_) (fun hc => absurd hc (by decide))
    refine g_aload_n (i := 0) rfl rfl ?_
    refine g_iconst (n := (-1)) rfl ?_
    refine g_virt1 (Qc := fun r h' => r = some (.int (-1)) ∧ ∃ R, h' = List.set h9 61 (.inl (0, 8, .inl R))) rfl (by decide) rfl hf rfl (Nat.le_of_ble_eq_true rfl) (sDo_up (d := 1) (by decide) (s_no (d := 0) hH (by decide) (by decide))) (fun r h8 hq9 => ?_)
    obtain ⟨rfl, R, rfl⟩ := hq9
    refine g_ireturn (ty := .int) rfl rfl rfl ?_
    exact ⟨rfl, no_R hR⟩
  · skip
    refine g_aload_n (i := 0) rfl rfl ?_
    refine g_iload_n (i := 1) rfl rfl ?_
    refine g_virt1 (Qc := fun r h' => h' = h ∧ r = some (.int 1)) rfl (by decide) rfl hf rfl (Nat.le_of_ble_eq_true rfl) (s_sh12 (by rw [if_pos hs])) (fun r h9 hq9 => ?_)
    obtain ⟨rfl, rfl⟩ := hq9
    refine g_if_eq 15 rfl rfl (fun hc => absurd hc (by decide)) (fun _ => ?_)
    refine g_iload_n (i := 2) rfl rfl ?_
    refine g_sipush (n := 7000) rfl ?_
    refine g_icmp_lt 21 rfl rfl (fun hc => absurd hc (by rw [i_lt, e7000]; omega)) (fun _ => ?_)
    refine g_aload_n (i := 0) rfl rfl ?_
    refine g_iconst (n := (-1)) rfl ?_
    refine g_virt1 (Qc := fun r h' => r = some (.int (-1)) ∧ ∃ R, h' = List.set h9 61 (.inl (0, 8, .inl R))) rfl (by decide) rfl hf rfl (Nat.le_of_ble_eq_true rfl) (sDo_up (d := 1) (by decide) (s_no (d := 0) hH (by decide) (by decide))) (fun r h8 hq9 => ?_)
    obtain ⟨rfl, R, rfl⟩ := hq9
    refine g_ireturn (ty := .int) rfl rfl rfl ?_
    exact ⟨rfl, no_R hR⟩
  · skip
    refine g_aload_n (i := 0) rfl rfl ?_
    refine g_iload_n (i := 1) rfl rfl ?_
    refine g_virt1 (Qc := fun r h' => h' = h ∧ r = some (.int 1)) rfl (by decide) rfl hf rfl (Nat.le_of_ble_eq_true rfl) (s_sh12 (by rw [if_pos hs])) (fun r h9 hq9 => ?_)
    obtain ⟨rfl, rfl⟩ := hq9
    refine g_if_eq 15 rfl rfl (fun hc => absurd hc (by decide)) (fun _ => ?_)
    refine g_iload_n (i := 2) rfl rfl ?_
    refine g_sipush (n := 7000) rfl ?_
    refine g_icmp_lt 21 rfl rfl (fun _ => ?_) (fun hc => absurd hc (by rw [i_lt, e7000]; omega))
    refine g_iload_n (i := 2) rfl rfl ?_
    refine g_iconst (n := (-1)) rfl ?_
    refine g_icmp_lt 59 rfl rfl (fun _ => ?_) (fun hc => absurd hc (by rw [i_lt, em1]; omega))
    refine g_aload_n (i := 0) rfl rfl ?_
    refine g_bipush (n := (-6)) rfl ?_
    refine g_virt1 (Qc := fun r h' => r = some (.int (-6)) ∧ ∃ R, h' = List.set h9 61 (.inl (0, 8, .inl R))) rfl (by decide) rfl hf rfl (Nat.le_of_ble_eq_true rfl) (sDo_up (d := 1) (by decide) (s_no (d := 0) hH (by decide) (by decide))) (fun r h8 hq9 => ?_)
    obtain ⟨rfl, R, rfl⟩ := hq9
    refine g_ireturn (ty := .int) rfl rfl rfl ?_
    exact ⟨rfl, no_R hR⟩
  · skip
    refine g_aload_n (i := 0) rfl rfl ?_
    refine g_iload_n (i := 1) rfl rfl ?_
    refine g_virt1 (Qc := fun r h' => h' = h ∧ r = some (.int 1)) rfl (by decide) rfl hf rfl (Nat.le_of_ble_eq_true rfl) (s_sh12 (by rw [if_pos hs])) (fun r h9 hq9 => ?_)
    obtain ⟨rfl, rfl⟩ := hq9
    refine g_if_eq 15 rfl rfl (fun hc => absurd hc (by decide)) (fun _ => ?_)
    refine g_iload_n (i := 2) rfl rfl ?_
    refine g_sipush (n := 7000) rfl ?_
    refine g_icmp_lt 21 rfl rfl (fun _ => ?_) (fun hc => absurd hc (by rw [i_lt, e7000]; omega))
    refine g_iload_n (i := 2) rfl rfl ?_
    refine g_iconst (n := (-1)) rfl ?_
    refine g_icmp_lt 59 rfl rfl (fun hc => absurd hc (by rw [i_lt, em1]; omega)) (fun _ => ?_)
    have k3 := dg3 hc0
    have k2 := dg2 hc0
    have k1 := dg1 hc0
    unfold cOk at hk
    refine g_iload_n (i := 2) rfl rfl ?_
    refine g_bipush (n := 10) rfl ?_
    refine g_irem rfl (by decide) ?_
    refine g_bipush (n := 9) rfl ?_
    refine g_icmp_eq 59 rfl rfl (fun c1 => ?_) (fun c1 => ?_)
    · skip
      refine g_aload_n (i := 0) rfl rfl ?_
      refine g_bipush (n := (-6)) rfl ?_
      refine g_virt1 (Qc := fun r h' => r = some (.int (-6)) ∧ ∃ R, h' = List.set h9 61 (.inl (0, 8, .inl R))) rfl (by decide) rfl hf rfl (Nat.le_of_ble_eq_true rfl) (sDo_up (d := 1) (by decide) (s_no (d := 0) hH (by decide) (by decide))) (fun r h8 hq9 => ?_)
      obtain ⟨rfl, R, rfl⟩ := hq9
      refine g_ireturn (ty := .int) rfl rfl rfl ?_
      exact ⟨rfl, no_R hR⟩
    · skip
      replace c1 : ¬ (cD1 c).toInt = 9 := fun z => c1 (Int32.toInt_inj.mp (z.trans e9.symm))
      refine g_iload_n (i := 2) rfl rfl ?_
      refine g_bipush (n := 10) rfl ?_
      refine g_idiv rfl (by decide) ?_
      refine g_bipush (n := 10) rfl ?_
      refine g_irem rfl (by decide) ?_
      refine g_bipush (n := 9) rfl ?_
      refine g_icmp_eq 59 rfl rfl (fun c2 => ?_) (fun c2 => ?_)
      · skip
        refine g_aload_n (i := 0) rfl rfl ?_
        refine g_bipush (n := (-6)) rfl ?_
        refine g_virt1 (Qc := fun r h' => r = some (.int (-6)) ∧ ∃ R, h' = List.set h9 61 (.inl (0, 8, .inl R))) rfl (by decide) rfl hf rfl (Nat.le_of_ble_eq_true rfl) (sDo_up (d := 1) (by decide) (s_no (d := 0) hH (by decide) (by decide))) (fun r h8 hq9 => ?_)
        obtain ⟨rfl, R, rfl⟩ := hq9
        refine g_ireturn (ty := .int) rfl rfl rfl ?_
        exact ⟨rfl, no_R hR⟩
      · skip
        replace c2 : ¬ (cD c (Int8.ofInt 10).toInt32).toInt = 9 := fun z => c2 (Int32.toInt_inj.mp (z.trans e9.symm))
        refine g_iload_n (i := 2) rfl rfl ?_
        refine g_bipush (n := 100) rfl ?_
        refine g_idiv rfl (by decide) ?_
        refine g_bipush (n := 10) rfl ?_
        refine g_irem rfl (by decide) ?_
        refine g_bipush (n := 9) rfl ?_
        refine g_icmp_ne 66 rfl rfl (fun hc => absurd hc (by intro z; exact z (Int32.toInt_inj.mp (Eq.trans (show (cD c (Int8.ofInt 100).toInt32).toInt = 9 by omega) e9.symm)))) (fun _ => ?_)
        refine g_aload_n (i := 0) rfl rfl ?_
        refine g_bipush (n := (-6)) rfl ?_
        refine g_virt1 (Qc := fun r h' => r = some (.int (-6)) ∧ ∃ R, h' = List.set h9 61 (.inl (0, 8, .inl R))) rfl (by decide) rfl hf rfl (Nat.le_of_ble_eq_true rfl) (sDo_up (d := 1) (by decide) (s_no (d := 0) hH (by decide) (by decide))) (fun r h8 hq9 => ?_)
        obtain ⟨rfl, R, rfl⟩ := hq9
        refine g_ireturn (ty := .int) rfl rfl rfl ?_
        exact ⟨rfl, no_R hR⟩
theorem s_cut12_in {h1 : sHp} {s c y : Int32} {S : Nat} (hH : bH h1) (hP : pCutS s c S h1 y) (hs : s.toInt = S) (hS : S < 8) : sDo 10 182 [.ref 60, .int s, .int c] h1 (fun r h' => r = some (.int y) ∧ bR5 h') := by
  obtain ⟨hd, so, sz, co, cl, f, g, el, pc, c1, a2, c3, c4, c5, c6, c7, c8, cr, ce, co', hk⟩ := hP
  obtain ⟨fs, hf, -⟩ := bObj60 hH
  obtain ⟨w14, f14, r14⟩ := bF60 hH hf (j := 14) (ty := .inr (2, 67)) (by decide +kernel)
  cases bT_one (by decide) (by decide +kernel) r14
  obtain ⟨w15, f15, r15⟩ := bF60 hH hf (j := 15) (ty := .inr (2, 68)) (by decide +kernel)
  cases bT_one (by decide) (by decide +kernel) r15
  obtain ⟨w16, f16, r16⟩ := bF60 hH hf (j := 16) (ty := .inr (2, 69)) (by decide +kernel)
  cases bT_one (by decide) (by decide +kernel) r16
  obtain ⟨w17, f17, r17⟩ := bF60 hH hf (j := 17) (ty := .inr (2, 70)) (by decide +kernel)
  cases bT_one (by decide) (by decide +kernel) r17
  obtain ⟨w18, f18, r18⟩ := bF60 hH hf (j := 18) (ty := .inr (2, 71)) (by decide +kernel)
  cases bT_one (by decide) (by decide +kernel) r18
  have sn : s.toNatClampNeg = S := i_nat hs
  have e7000 : (Int16.ofInt 7000).toInt32.toInt = 7000 := rfl
  have e9 : (Int8.ofInt 9).toInt32.toInt = 9 := rfl
  have em1 : (Int32.ofInt (-1)).toInt = -1 := rfl
  have hsS : Int32.ofNat S = s := by
    apply Int32.toInt_inj.mp
    rw [Int32.toInt_ofNat_of_lt (by omega), hs]
  have hc : -1 ≤ c.toInt ∧ c.toInt < 7000 := by
    rcases hk with ⟨-, z, -⟩ | ⟨p, -, -, -, z1, z2, -⟩
    · rw [z, em1]
      omega
    · omega
  have D : ¬ cD1 c = (Int8.ofInt 9).toInt32 ∧ ¬ cD c (Int8.ofInt 10).toInt32 = (Int8.ofInt 9).toInt32 ∧ ¬ cD c (Int8.ofInt 100).toInt32 = (Int8.ofInt 9).toInt32 := by
    rcases hk with ⟨-, z, -⟩ | ⟨p, -, -, -, z1, z2, z3, -⟩
    · rw [z]
      decide
    · have k3 := dg3 z1
      have k2 := dg2 z1
      have k1 := dg1 z1
      unfold cOk at z3
      refine ⟨fun z => ?_, fun z => ?_, fun z => ?_⟩
      · rw [z] at k1; omega
      · rw [z] at k2; omega
      · rw [z] at k3; omega
  refine sDo_of (d := 9) (nL := 3) (L := [some (.ref 60), some (.int s), some (.int c)]) rfl rfl ?_
  refine g_aload_n (i := 0) rfl rfl ?_
  refine g_iload_n (i := 1) rfl rfl ?_
  refine g_virt1 (Qc := fun r h' => h' = h1 ∧ r = some (.int 1)) rfl (by decide) rfl hf rfl (Nat.le_of_ble_eq_true rfl) (s_sh12 (by rw [if_pos (by omega)])) (fun r h9 hq9 => ?_)
  obtain ⟨rfl, rfl⟩ := hq9
  refine g_if_eq 15 rfl rfl (fun hc => absurd hc (by decide)) (fun _ => ?_)
  refine g_iload_n (i := 2) rfl rfl ?_
  refine g_sipush (n := 7000) rfl ?_
  refine g_icmp_lt 21 rfl rfl (fun _ => ?_) (fun hc => absurd hc (by rw [i_lt, e7000]; omega))
  refine g_iload_n (i := 2) rfl rfl ?_
  refine g_iconst (n := (-1)) rfl ?_
  refine g_icmp_lt 59 rfl rfl (fun hc => absurd hc (by rw [i_lt, em1]; omega)) (fun _ => ?_)
  refine g_iload_n (i := 2) rfl rfl ?_
  refine g_bipush (n := 10) rfl ?_
  refine g_irem rfl (by decide) ?_
  refine g_bipush (n := 9) rfl ?_
  refine g_icmp_eq 59 rfl rfl (fun hc => absurd hc (by exact D.1)) (fun _ => ?_)
  refine g_iload_n (i := 2) rfl rfl ?_
  refine g_bipush (n := 10) rfl ?_
  refine g_idiv rfl (by decide) ?_
  refine g_bipush (n := 10) rfl ?_
  refine g_irem rfl (by decide) ?_
  refine g_bipush (n := 9) rfl ?_
  refine g_icmp_eq 59 rfl rfl (fun hc => absurd hc (by exact D.2.1)) (fun _ => ?_)
  refine g_iload_n (i := 2) rfl rfl ?_
  refine g_bipush (n := 100) rfl ?_
  refine g_idiv rfl (by decide) ?_
  refine g_bipush (n := 10) rfl ?_
  refine g_irem rfl (by decide) ?_
  refine g_bipush (n := 9) rfl ?_
  refine g_icmp_ne 66 rfl rfl (fun _ => ?_) (fun hc => absurd hc (by exact D.2.2))
  refine g_aload_n (i := 0) rfl rfl ?_
  refine g_getfield (v := .ref 67) rfl hf (by decide) f14 ?_
  refine g_iload_n (i := 1) rfl rfl ?_
  refine g_iload_n (i := 2) rfl rfl ?_
  refine g_iconst (n := (-1)) rfl ?_
  rcases hk with ⟨rfl, rfl, rfl⟩ | ⟨p, rfl, p79, hpc, z1, z2, z3, rfl⟩
  · skip
    refine g_icmp_ne 80 rfl rfl (fun hc => absurd hc (by exact fun z => z rfl)) (fun _ => ?_)
    refine g_iconst (n := 0) rfl ?_
    refine g_goto 81 rfl rfl ?_
    refine g_iastore (h1 := (List.set h9 67 (.inl (0, 8, .inl (upd hd S (Int32.ofInt 0)))))) rfl c4 (i_in (by omega) (by omega)) (by rw [sn]) ?_
    have hf1 : ((List.set h9 67 (.inl (0, 8, .inl (upd hd S (Int32.ofInt 0))))) : sHp)[60]? = some (.inr (12, fs)) := by rw [s_set_ne (by decide)]; exact hf
    refine g_aload_n (i := 0) rfl rfl ?_
    refine g_getfield (v := .ref 70) rfl hf1 (by decide) f17 ?_
    refine g_iload_n (i := 1) rfl rfl ?_
    refine g_iload_n (i := 2) rfl rfl ?_
    refine g_iastore (h1 := (List.set (List.set h9 67 (.inl (0, 8, .inl (upd hd S (Int32.ofInt 0))))) 70 (.inl (0, 8, .inl (upd co S (Int32.ofInt (-1))))))) rfl (by rw [s_set_ne (by decide)]; exact c7) (i_in (by omega) (by omega)) (by rw [sn]) ?_
    refine g_iload_n (i := 2) rfl rfl ?_
    refine g_iconst (n := (-1)) rfl ?_
    refine g_icmp_ne 98 rfl rfl (fun hc => absurd hc (by exact fun z => z rfl)) (fun _ => ?_)
    refine g_iconst (n := 0) rfl ?_
    refine g_goto 99 rfl rfl ?_
    refine g_ireturn (ty := .int) rfl rfl rfl ?_
    refine ⟨rfl, upd hd S (Int32.ofInt 0), so, sz, upd co S (Int32.ofInt (-1)), cl, f, va_up g S none, ⟨?_, a2, ?_, ?_, ?_, ?_, ?_, ?_⟩, fun t ht => ?_⟩
    · rw [s_set_ne (by decide), s_set_ne (by decide)]; exact c1
    · rw [s_set_ne (by decide), s_set_ne (by decide)]; exact c3
    · rw [s_set_ne (by decide)]; exact s_set_eq c4
    · rw [s_set_ne (by decide), s_set_ne (by decide)]; exact c5
    · rw [s_set_ne (by decide), s_set_ne (by decide)]; exact c6
    · exact s_set_eq (by rw [s_set_ne (by decide)]; exact c7)
    · rw [s_set_ne (by decide), s_set_ne (by decide)]; exact c8
    · by_cases hts : t = S
      · subst hts
        exact ⟨Int32.ofInt (-1), Int32.ofInt 0, el, by rw [s_set_ne (by omega), s_set_ne (by omega)]; exact cr, by rw [s_set_ne (by omega), s_set_ne (by omega)]; exact ce, Or.inl ⟨u_at, va_up_self _ _ _, rfl⟩⟩
      · obtain ⟨ot', z', el', r1, r2, r3⟩ := bRS_set (p := 70) (c := .inl (0, 8, .inl (upd co S (Int32.ofInt (-1))))) (bRS_set (p := 67) (c := .inl (0, 8, .inl (upd hd S (Int32.ofInt 0)))) (co' t ht hts) (by decide) (by omega) (by omega)) (by decide) (by omega) (by omega)
        refine ⟨ot', z', el', r1, r2, ?_⟩
        rcases r3 with ⟨x1, x2, x3⟩ | ⟨x1, x2, x3, x4, x5, x6, x7, x8, x9⟩ | ⟨x1, x2, pc, x3, x4, x5⟩
        · exact Or.inl ⟨by rw [u_ne hts]; exact x1, by rw [va_up_ne _ _ hts]; exact x2, x3⟩
        · exact Or.inr (Or.inl ⟨by rw [u_ne hts]; exact x1, by rw [va_up_ne _ _ hts]; exact x2, x3, x4, x5, x6, x7, x8, x9⟩)
        · exact Or.inr (Or.inr ⟨by rw [u_ne hts]; exact x1, x2, pc, x3, by rw [va_up_ne _ _ hts]; exact x4, by rw [u_ne hts]; exact x5⟩)
  · skip
    refine g_icmp_ne 80 rfl rfl (fun _ => ?_) (fun hc => absurd hc (by intro z; rw [z, em1] at z1; omega))
    refine g_iconst (n := 2) rfl ?_
    refine g_iastore (h1 := (List.set h9 67 (.inl (0, 8, .inl (upd hd S (Int32.ofInt 2)))))) rfl c4 (i_in (by omega) (by omega)) (by rw [sn]) ?_
    have hf1 : ((List.set h9 67 (.inl (0, 8, .inl (upd hd S (Int32.ofInt 2))))) : sHp)[60]? = some (.inr (12, fs)) := by rw [s_set_ne (by decide)]; exact hf
    refine g_aload_n (i := 0) rfl rfl ?_
    refine g_getfield (v := .ref 70) rfl hf1 (by decide) f17 ?_
    refine g_iload_n (i := 1) rfl rfl ?_
    refine g_iload_n (i := 2) rfl rfl ?_
    refine g_iastore (h1 := (List.set (List.set h9 67 (.inl (0, 8, .inl (upd hd S (Int32.ofInt 2))))) 70 (.inl (0, 8, .inl (upd co S c))))) rfl (by rw [s_set_ne (by decide)]; exact c7) (i_in (by omega) (by omega)) (by rw [sn]) ?_
    refine g_iload_n (i := 2) rfl rfl ?_
    refine g_iconst (n := (-1)) rfl ?_
    refine g_icmp_ne 98 rfl rfl (fun _ => ?_) (fun hc => absurd hc (by intro z; rw [z, em1] at z1; omega))
    refine g_iconst (n := 1) rfl ?_
    refine g_ireturn (ty := .int) rfl rfl rfl ?_
    refine ⟨rfl, upd hd S (Int32.ofInt 2), so, sz, upd co S c, cl, f, va_up g S (some p), ⟨?_, a2, ?_, ?_, ?_, ?_, ?_, ?_⟩, fun t ht => ?_⟩
    · rw [s_set_ne (by decide), s_set_ne (by decide)]; exact c1
    · rw [s_set_ne (by decide), s_set_ne (by decide)]; exact c3
    · rw [s_set_ne (by decide)]; exact s_set_eq c4
    · rw [s_set_ne (by decide), s_set_ne (by decide)]; exact c5
    · rw [s_set_ne (by decide), s_set_ne (by decide)]; exact c6
    · exact s_set_eq (by rw [s_set_ne (by decide)]; exact c7)
    · rw [s_set_ne (by decide), s_set_ne (by decide)]; exact c8
    · by_cases hts : t = S
      · subst hts
        exact ⟨Int32.ofInt (-1), Int32.ofInt 0, el, by rw [s_set_ne (by omega), s_set_ne (by omega)]; exact cr, by rw [s_set_ne (by omega), s_set_ne (by omega)]; exact ce, Or.inr (Or.inr ⟨u_at, rfl, p, p79, va_up_self _ _ _, by rw [s_set_ne (by omega), s_set_ne (by omega), u_at, hsS]; exact hpc, by rw [u_at]; exact ⟨z1, z2⟩⟩)⟩
      · obtain ⟨ot', z', el', r1, r2, r3⟩ := bRS_set (p := 70) (c := .inl (0, 8, .inl (upd co S c))) (bRS_set (p := 67) (c := .inl (0, 8, .inl (upd hd S (Int32.ofInt 2)))) (co' t ht hts) (by decide) (by omega) (by omega)) (by decide) (by omega) (by omega)
        refine ⟨ot', z', el', r1, r2, ?_⟩
        rcases r3 with ⟨x1, x2, x3⟩ | ⟨x1, x2, x3, x4, x5, x6, x7, x8, x9⟩ | ⟨x1, x2, pc, x3, x4, x5⟩
        · exact Or.inl ⟨by rw [u_ne hts]; exact x1, by rw [va_up_ne _ _ hts]; exact x2, x3⟩
        · exact Or.inr (Or.inl ⟨by rw [u_ne hts]; exact x1, by rw [va_up_ne _ _ hts]; exact x2, x3, x4, x5, x6, x7, x8, x9⟩)
        · exact Or.inr (Or.inr ⟨by rw [u_ne hts]; exact x1, x2, pc, x3, by rw [va_up_ne _ _ hts]; exact x4, by rw [u_ne hts]; exact x5⟩)
theorem pr_cut (s c : Int32) : bPair 118 182 [.int s, .int c] := by
  have c1 : ∀ h, bH h → sDo 10 118 (.ref 0 :: [.int s, .int c]) h (fun _ h' => bH h' ∧ h'.length ≤ h.length + 1) := fun h hH => pr_use ch_X11_cut_0 (by decide +kernel) (by decide +kernel) rfl hH ⟨bt0 hH, vI0 s, vI0 c, trivial⟩
  have c2 : ∀ h, bH h → sDo 10 182 (.ref 60 :: [.int s, .int c]) h (fun _ h' => bH h' ∧ h'.length ≤ h.length + 1) := fun h hH => pr_use ch_X12_cut_0 (by decide +kernel) (by decide +kernel) rfl hH ⟨bt60 hH, vI0 s, vI0 c, trivial⟩
  intro h hH hR
  have no : ∀ x : Int32, ((¬ (0 ≤ s.toInt ∧ s.toInt < 8) ∧ x = -1) ∨ ((0 ≤ s.toInt ∧ s.toInt < 8) ∧ 7000 ≤ c.toInt ∧ x = -1) ∨ ((0 ≤ s.toInt ∧ s.toInt < 8) ∧ c.toInt < -1 ∧ x = -6) ∨ ((0 ≤ s.toInt ∧ s.toInt < 8) ∧ 0 ≤ c.toInt ∧ c.toInt < 7000 ∧ ¬ cOk c ∧ x = -6)) → _ := fun x hx => pair_case (x := .int x) hH c1 c2 (s_cut11_no hH hx) (fun h1 hH1 hP => s_cut12_no hH1 (pRef_5 hP hR) hx)
  by_cases hs : 0 ≤ s.toInt ∧ s.toInt < 8
  · obtain ⟨S, hS⟩ : ∃ S : Nat, s.toInt = S := ⟨s.toInt.toNat, by omega⟩
    have hS8 : S < 8 := by omega
    have yes : ∀ y : Int32, ((c = Int32.ofInt (-1) ∧ y = 0) ∨ (0 ≤ c.toInt ∧ c.toInt < 7000 ∧ cOk c ∧ y = 1)) → _ := fun y hy => pair_case (x := .int y) hH c1 c2 (s_cut11_in hH hR hS hS8 hy) (fun h1 hH1 hP => s_cut12_in hH1 hP hS hS8)
    by_cases h7 : 7000 ≤ c.toInt
    · exact no (-1) (Or.inr (Or.inl ⟨hs, h7, rfl⟩))
    · by_cases hm : c.toInt < -1
      · exact no (-6) (Or.inr (Or.inr (Or.inl ⟨hs, hm, rfl⟩)))
      · by_cases h0 : 0 ≤ c.toInt
        · by_cases hk : cOk c
          · exact yes 1 (Or.inr ⟨h0, by omega, hk, rfl⟩)
          · exact no (-6) (Or.inr (Or.inr (Or.inr ⟨hs, h0, by omega, hk, rfl⟩)))
        · exact yes 0 (Or.inl ⟨Int32.toInt_inj.mp (show c.toInt = -1 by omega), rfl⟩)
  · exact no (-1) (Or.inl ⟨hs, rfl⟩)
