section
/-! ===== the pair cut ===== -/
theorem i_dv {x y : Int32} (hy : 0 < y.toInt) : (x / y).toInt = x.toInt.tdiv y.toInt := Int32.toInt_div_of_ne_right _ _ (fun z => by rw [z] at hy; exact absurd hy (by decide))
theorem i_dvn {x y : Int32} (hx : 0 ≤ x.toInt) (hy : 0 < y.toInt) : (x / y).toInt = x.toInt / y.toInt := by rw [i_dv hy, Int.tdiv_eq_ediv_of_nonneg hx]
theorem i_rmn {x y : Int32} (hx : 0 ≤ x.toInt) (hy : 0 < y.toInt) : (x - x / y * y).toInt = x.toInt % y.toInt := by
  have f := aFull_ok x
  have f2 : x.toInt ≤ 2147483647 := f.2
  have e1 := i_dvn hx hy
  have e2 : x.toInt / y.toInt * y.toInt ≤ x.toInt := Int.ediv_mul_le _ (by omega)
  have e3 : 0 ≤ x.toInt / y.toInt * y.toInt := Int.mul_nonneg (Int.ediv_nonneg hx (by omega)) (by omega)
  have e4 : (x / y * y).toInt = x.toInt / y.toInt * y.toInt := by rw [i_mul (by rw [e1]; omega) (by rw [e1]; omega), e1]
  rw [i_sub (by rw [e4]; omega) (by rw [e4]; omega), e4]
  have e5 := Int.emod_add_mul_ediv x.toInt y.toInt
  rw [Int.mul_comm] at e5
  omega
theorem td7 {x : Int} : x.tdiv 1000 < 7 ↔ x < 7000 := by
  by_cases h : 0 ≤ x
  · rw [Int.tdiv_eq_ediv_of_nonneg h]
    omega
  · have h2 : 0 ≤ (-x).tdiv 1000 := Int.tdiv_nonneg (by omega) (by omega)
    rw [Int.neg_tdiv] at h2
    omega
def cOk (c : Int32) : Prop := c.toInt / 100 % 10 ≤ 8 ∧ c.toInt / 10 % 10 ≤ 8 ∧ c.toInt % 10 ≤ 8
theorem dg3 {c : Int32} (h : 0 ≤ c.toInt) : (cD c (Int8.ofInt 100).toInt32).toInt = c.toInt / 100 % 10 := by
  have e := i_dvn (y := (Int8.ofInt 100).toInt32) h (by decide)
  have e2 : (Int8.ofInt 100).toInt32.toInt = 100 := rfl
  have e3 : (Int8.ofInt 10).toInt32.toInt = 10 := rfl
  unfold cD
  rw [i_rmn (by rw [e, e2]; omega) (by decide), e, e2, e3]
theorem dg2 {c : Int32} (h : 0 ≤ c.toInt) : (cD c (Int8.ofInt 10).toInt32).toInt = c.toInt / 10 % 10 := by
  have e := i_dvn (y := (Int8.ofInt 10).toInt32) h (by decide)
  have e3 : (Int8.ofInt 10).toInt32.toInt = 10 := rfl
  unfold cD
  rw [i_rmn (by rw [e, e3]; omega) (by decide), e, e3]
theorem dg1 {c : Int32} (h : 0 ≤ c.toInt) : (cD1 c).toInt = c.toInt % 10 := by
  have e3 : (Int8.ofInt 10).toInt32.toInt = 10 := rfl
  unfold cD1
  rw [i_rmn h (by decide), e3]
/-- hasCutNumbers -/
theorem s_hcn {d : Nat} {h : sHp} {c : Int32} {b : Int32} (h0 : 0 ≤ c.toInt) (hb : (cOk c ∧ b = 1) ∨ (¬ cOk c ∧ b = 0)) : sDo (d + 1) 163 [.int c] h (fun r h' => h' = h ∧ r = some (.int b)) := by
  have e8 : (Int8.ofInt 8).toInt32.toInt = 8 := rfl
  have k3 := dg3 h0
  have k2 := dg2 h0
  have k1 := dg1 h0
  unfold cOk at hb
  unfold cD at k3 k2
  unfold cD1 at k1
  refine sDo_of (d := d) (nL := 1) (L := [some (.int c)]) rfl rfl ?_
  refine g_iload_n (i := 0) rfl rfl ?_
  refine g_bipush (n := 100) rfl ?_
  refine g_idiv rfl (by decide) ?_
  refine g_bipush (n := 10) rfl ?_
  refine g_irem rfl (by decide) ?_
  refine g_bipush (n := 8) rfl ?_
  refine g_icmp_gt 37 rfl rfl (fun c1 => ?_) (fun c1 => ?_)
  · skip
    rw [i_lt, k3, e8] at c1
    refine g_iconst (n := 0) rfl ?_
    refine g_ireturn (ty := .boolean) rfl rfl (by decide) ?_
    rcases hb with ⟨hk, rfl⟩ | ⟨hk, rfl⟩
    · exact absurd hk (by omega)
    · exact ⟨rfl, rfl⟩
  · skip
    rw [i_lt, k3, e8] at c1
    refine g_iload_n (i := 0) rfl rfl ?_
    refine g_bipush (n := 10) rfl ?_
    refine g_idiv rfl (by decide) ?_
    refine g_bipush (n := 10) rfl ?_
    refine g_irem rfl (by decide) ?_
    refine g_bipush (n := 8) rfl ?_
    refine g_icmp_gt 37 rfl rfl (fun c2 => ?_) (fun c2 => ?_)
    · skip
      rw [i_lt, k2, e8] at c2
      refine g_iconst (n := 0) rfl ?_
      refine g_ireturn (ty := .boolean) rfl rfl (by decide) ?_
      rcases hb with ⟨hk, rfl⟩ | ⟨hk, rfl⟩
      · exact absurd hk (by omega)
      · exact ⟨rfl, rfl⟩
    · skip
      rw [i_lt, k2, e8] at c2
      refine g_iload_n (i := 0) rfl rfl ?_
      refine g_bipush (n := 10) rfl ?_
      refine g_irem rfl (by decide) ?_
      refine g_bipush (n := 8) rfl ?_
      refine g_icmp_gt 37 rfl rfl (fun c3 => ?_) (fun c3 => ?_)
      · skip
        rw [i_lt, k1, e8] at c3
        refine g_iconst (n := 0) rfl ?_
        refine g_ireturn (ty := .boolean) rfl rfl (by decide) ?_
        rcases hb with ⟨hk, rfl⟩ | ⟨hk, rfl⟩
        · exact absurd hk (by omega)
        · exact ⟨rfl, rfl⟩
      · skip
        rw [i_lt, k1, e8] at c3
        refine g_iconst (n := 1) rfl ?_
        refine g_goto 38 rfl rfl ?_
        refine g_ireturn (ty := .boolean) rfl rfl (by decide) ?_
        rcases hb with ⟨hk, rfl⟩ | ⟨hk, rfl⟩
        · exact ⟨rfl, rfl⟩
        · exact absurd (by omega) hk
def oRel (S : Nat) : va_E := .inr (7, [.int (Int32.ofInt (-1)), .int (Int32.ofInt 0), .ref (45 + 2 * S)])
theorem s_release {d : Nat} {h : sHp} {p S : Nat} {o z : Int32} (hp : h[p]? = some (.inr (7, [.int o, .int z, .ref (45 + 2 * S)]))) : sDo (d + 1) 80 [.ref p] h (fun r h' => r = none ∧ h' = h.set p (oRel S)) := by
  refine sDo_of (d := d) (nL := 1) (L := [some (.ref p)]) rfl rfl ?_
  have hp1 : (h.set p (.inr (7, [.int (Int32.ofInt (-1)), .int z, .ref (45 + 2 * S)])))[p]? = some (.inr (7, [.int (Int32.ofInt (-1)), .int z, .ref (45 + 2 * S)])) := s_set_eq hp
  refine g_aload_n (i := 0) rfl rfl ?_
  refine g_iconst (n := (-1)) rfl ?_
  refine g_putfield (h1 := h.set p (.inr (7, [.int (Int32.ofInt (-1)), .int z, .ref (45 + 2 * S)]))) rfl hp (by decide) (Nat.le_of_ble_eq_true rfl) rfl rfl ?_
  refine g_aload_n (i := 0) rfl rfl ?_
  refine g_iconst (n := 0) rfl ?_
  refine g_putfield (h1 := h.set p (oRel S)) rfl hp1 (by decide) (Nat.le_of_ble_eq_true rfl) rfl (List.set_set ..) ?_
  refine g_return rfl rfl ?_
  exact ⟨rfl, rfl⟩
theorem nc_swE {x : Int32} {n t : Nat} {h : sHp} {L : sLo} {Q : Option Value → sHp → Prop} {d : Nat} (hx : x.toInt = n) (ht : [128, 44, 58, 72, 86, 100, 114][n]? = some t) (k : sGo none 164 d t L [] h Q) : sGo none 164 d 5 L [.int x] h Q := by
  have hF : sFk 164 5 = some (.tableswitch 123 1 6 #[39, 53, 67, 81, 95, 109]) := rfl
  have key : ∀ (m : Nat) (o : Int), x.toInt = m + 1 → m < 6 → #[(39 : Int), 53, 67, 81, 95, 109][m]? = some o → sTgt 5 o = some t → sGo none 164 d 5 L [.int x] h Q := by
    intro m o hn hm ho ht
    refine go_jmp (pc1 := t) (st1 := []) hF rfl ?_ k
    show (if x.toInt < 1 ∨ 6 < x.toInt then _ else (match #[(39 : Int), 53, 67, 81, 95, 109][(x.toInt - 1).toNat]? with
      | some off => (sTgt 5 off).map (fun t => (t, ([] : List Value)))
      | none => none)) = _
    rw [if_neg (by omega), show (x.toInt - 1).toNat = m by omega, ho]
    dsimp only
    rw [ht]; rfl
  match n, hx, ht with
  | 0, hx, ht =>
    cases ht
    refine go_jmp (pc1 := 128) (st1 := []) hF rfl ?_ k
    show (if x.toInt < 1 ∨ 6 < x.toInt then (sTgt 5 123).map (fun t => (t, ([] : List Value))) else _) = _
    rw [if_pos (by omega)]; rfl
  | 1, hx, ht => cases ht; exact key 0 39 hx (by decide) rfl rfl
  | 2, hx, ht => cases ht; exact key 1 53 hx (by decide) rfl rfl
  | 3, hx, ht => cases ht; exact key 2 67 hx (by decide) rfl rfl
  | 4, hx, ht => cases ht; exact key 3 81 hx (by decide) rfl rfl
  | 5, hx, ht => cases ht; exact key 4 95 hx (by decide) rfl rfl
  | 6, hx, ht => cases ht; exact key 5 109 hx (by decide) rfl rfl
  | k + 7, hx, ht => cases ht
theorem s_newCutE {d : Nat} {h : sHp} {fs : List Value} {s c : Int32} (hf : h[0]? = some (.inr (11, fs))) (f2 : fs[2]? = some (.ref 3)) (c0 : 0 ≤ c.toInt) (c7 : c.toInt < 7000) : sDo (d + 4) 164 [.ref 0, .int s, .int c] h (fun r h' => r = some (.ref h.length) ∧ h' = h ++ [.inr (bKi c, cutFs s c)]) := by
  have e1000 : (Int16.ofInt 1000).toInt32.toInt = 1000 := rfl
  have eq1 := i_dvn (y := (Int16.ofInt 1000).toInt32) c0 (by decide)
  rw [e1000] at eq1
  refine sDo_of (d := d + 3) (nL := 3) (L := [some (.ref 0), some (.int s), some (.int c)]) rfl rfl ?_
  refine g_iload_n (i := 2) rfl rfl ?_
  refine g_sipush (n := 1000) rfl ?_
  refine g_idiv rfl (by decide) ?_
  rcases (show c.toInt / 1000 = 0 ∨ c.toInt / 1000 = 1 ∨ c.toInt / 1000 = 2 ∨ c.toInt / 1000 = 3 ∨ c.toInt / 1000 = 4 ∨ c.toInt / 1000 = 5 ∨ c.toInt / 1000 = 6 by omega) with en | en | en | en | en | en | en
  · skip
    have hk : bKi c = 2 := by unfold bKi; rw [en]; rfl
    rw [hk]
    refine nc_swE (n := 0) (t := 128) (eq1.trans en) rfl ?_
    refine g_new (j := 2) rfl (by decide) ?_
    have hf2 : (h ++ [.inr (2, sDef 2)])[0]? = some (.inr (11, fs)) := s_app_lt hf
    have hp : (h ++ [.inr (2, sDef 2)])[h.length]? = some (.inr (2, [.int 0, .int 0, .int 0, .int 0, .int 0, .null])) := s_app_at _ _
    refine g_dup rfl rfl ?_
    refine g_iload_n (i := 1) rfl rfl ?_
    refine g_iload_n (i := 2) rfl rfl ?_
    refine g_aload_n (i := 0) rfl rfl ?_
    refine g_getfield (v := .ref 3) rfl hf2 (by decide) f2 ?_
    refine g_init3 (k1 := 9) (Qc := fun r h' => r = none ∧ h' = List.set (h ++ [(Sum.inr (2, sDef 2) : va_E)] : sHp) h.length (Sum.inr (2, cutFs s c))) rfl (by decide) rfl hp (Nat.le_of_ble_eq_true rfl) (sDo_up (d := 1) (by omega) (s_init9 (d := 0) (by decide) hp ⟨rfl, rfl⟩)) (fun r h1 hq => ?_)
    obtain ⟨rfl, rfl⟩ := hq
    refine g_areturn (C := RX2) rfl rfl ?_
    exact ⟨rfl, s_app_set _ _ _⟩
  · skip
    have hk : bKi c = 9 := by unfold bKi; rw [en]; rfl
    rw [hk]
    refine nc_swE (n := 1) (t := 44) (eq1.trans en) rfl ?_
    refine g_new (j := 9) rfl (by decide) ?_
    have hf2 : (h ++ [.inr (9, sDef 9)])[0]? = some (.inr (11, fs)) := s_app_lt hf
    have hp : (h ++ [.inr (9, sDef 9)])[h.length]? = some (.inr (9, [.int 0, .int 0, .int 0, .int 0, .int 0, .null])) := s_app_at _ _
    refine g_dup rfl rfl ?_
    refine g_iload_n (i := 1) rfl rfl ?_
    refine g_iload_n (i := 2) rfl rfl ?_
    refine g_aload_n (i := 0) rfl rfl ?_
    refine g_getfield (v := .ref 3) rfl hf2 (by decide) f2 ?_
    refine g_init3 (k1 := 104) (Qc := fun r h' => r = none ∧ h' = List.set (h ++ [(Sum.inr (9, sDef 9) : va_E)] : sHp) h.length (Sum.inr (9, cutFs s c))) rfl (by decide) rfl hp (Nat.le_of_ble_eq_true rfl) (sDo_up (d := 2) (by omega) (s_init104 (d := 0) (by decide) hp ⟨rfl, rfl⟩)) (fun r h1 hq => ?_)
    obtain ⟨rfl, rfl⟩ := hq
    refine g_areturn (C := RX2) rfl rfl ?_
    exact ⟨rfl, s_app_set _ _ _⟩
  · skip
    have hk : bKi c = 1 := by unfold bKi; rw [en]; rfl
    rw [hk]
    refine nc_swE (n := 2) (t := 58) (eq1.trans en) rfl ?_
    refine g_new (j := 1) rfl (by decide) ?_
    have hf2 : (h ++ [.inr (1, sDef 1)])[0]? = some (.inr (11, fs)) := s_app_lt hf
    have hp : (h ++ [.inr (1, sDef 1)])[h.length]? = some (.inr (1, [.int 0, .int 0, .int 0, .int 0, .int 0, .null])) := s_app_at _ _
    refine g_dup rfl rfl ?_
    refine g_iload_n (i := 1) rfl rfl ?_
    refine g_iload_n (i := 2) rfl rfl ?_
    refine g_aload_n (i := 0) rfl rfl ?_
    refine g_getfield (v := .ref 3) rfl hf2 (by decide) f2 ?_
    refine g_init3 (k1 := 5) (Qc := fun r h' => r = none ∧ h' = List.set (h ++ [(Sum.inr (1, sDef 1) : va_E)] : sHp) h.length (Sum.inr (1, cutFs s c))) rfl (by decide) rfl hp (Nat.le_of_ble_eq_true rfl) (sDo_up (d := 2) (by omega) (s_init5 (d := 0) (by decide) hp ⟨rfl, rfl⟩)) (fun r h1 hq => ?_)
    obtain ⟨rfl, rfl⟩ := hq
    refine g_areturn (C := RX2) rfl rfl ?_
    exact ⟨rfl, s_app_set _ _ _⟩
  · skip
    have hk : bKi c = 5 := by unfold bKi; rw [en]; rfl
    rw [hk]
    refine nc_swE (n := 3) (t := 72) (eq1.trans en) rfl ?_
    refine g_new (j := 5) rfl (by decide) ?_
    have hf2 : (h ++ [.inr (5, sDef 5)])[0]? = some (.inr (11, fs)) := s_app_lt hf
    have hp : (h ++ [.inr (5, sDef 5)])[h.length]? = some (.inr (5, [.int 0, .int 0, .int 0, .int 0, .int 0, .null])) := s_app_at _ _
    refine g_dup rfl rfl ?_
    refine g_iload_n (i := 1) rfl rfl ?_
    refine g_iload_n (i := 2) rfl rfl ?_
    refine g_aload_n (i := 0) rfl rfl ?_
    refine g_getfield (v := .ref 3) rfl hf2 (by decide) f2 ?_
    refine g_init3 (k1 := 59) (Qc := fun r h' => r = none ∧ h' = List.set (h ++ [(Sum.inr (5, sDef 5) : va_E)] : sHp) h.length (Sum.inr (5, cutFs s c))) rfl (by decide) rfl hp (Nat.le_of_ble_eq_true rfl) (sDo_up (d := 2) (by omega) (s_init59 (d := 0) (by decide) hp ⟨rfl, rfl⟩)) (fun r h1 hq => ?_)
    obtain ⟨rfl, rfl⟩ := hq
    refine g_areturn (C := RX2) rfl rfl ?_
    exact ⟨rfl, s_app_set _ _ _⟩
  · skip
    have hk : bKi c = 0 := by unfold bKi; rw [en]; rfl
    rw [hk]
    refine nc_swE (n := 4) (t := 86) (eq1.trans en) rfl ?_
    refine g_new (j := 0) rfl (by decide) ?_
    have hf2 : (h ++ [.inr (0, sDef 0)])[0]? = some (.inr (11, fs)) := s_app_lt hf
    have hp : (h ++ [.inr (0, sDef 0)])[h.length]? = some (.inr (0, [.int 0, .int 0, .int 0, .int 0, .int 0, .null])) := s_app_at _ _
    refine g_dup rfl rfl ?_
    refine g_iload_n (i := 1) rfl rfl ?_
    refine g_iload_n (i := 2) rfl rfl ?_
    refine g_aload_n (i := 0) rfl rfl ?_
    refine g_getfield (v := .ref 3) rfl hf2 (by decide) f2 ?_
    refine g_init3 (k1 := 0) (Qc := fun r h' => r = none ∧ h' = List.set (h ++ [(Sum.inr (0, sDef 0) : va_E)] : sHp) h.length (Sum.inr (0, cutFs s c))) rfl (by decide) rfl hp (Nat.le_of_ble_eq_true rfl) (sDo_up (d := 3) (by omega) (s_init0 (d := 0) (by decide) hp ⟨rfl, rfl⟩)) (fun r h1 hq => ?_)
    obtain ⟨rfl, rfl⟩ := hq
    refine g_areturn (C := RX2) rfl rfl ?_
    exact ⟨rfl, s_app_set _ _ _⟩
  · skip
    have hk : bKi c = 4 := by unfold bKi; rw [en]; rfl
    rw [hk]
    refine nc_swE (n := 5) (t := 100) (eq1.trans en) rfl ?_
    refine g_new (j := 4) rfl (by decide) ?_
    have hf2 : (h ++ [.inr (4, sDef 4)])[0]? = some (.inr (11, fs)) := s_app_lt hf
    have hp : (h ++ [.inr (4, sDef 4)])[h.length]? = some (.inr (4, [.int 0, .int 0, .int 0, .int 0, .int 0, .null])) := s_app_at _ _
    refine g_dup rfl rfl ?_
    refine g_iload_n (i := 1) rfl rfl ?_
    refine g_iload_n (i := 2) rfl rfl ?_
    refine g_aload_n (i := 0) rfl rfl ?_
    refine g_getfield (v := .ref 3) rfl hf2 (by decide) f2 ?_
    refine g_init3 (k1 := 55) (Qc := fun r h' => r = none ∧ h' = List.set (h ++ [(Sum.inr (4, sDef 4) : va_E)] : sHp) h.length (Sum.inr (4, cutFs s c))) rfl (by decide) rfl hp (Nat.le_of_ble_eq_true rfl) (sDo_up (d := 3) (by omega) (s_init55 (d := 0) (by decide) hp ⟨rfl, rfl⟩)) (fun r h1 hq => ?_)
    obtain ⟨rfl, rfl⟩ := hq
    refine g_areturn (C := RX2) rfl rfl ?_
    exact ⟨rfl, s_app_set _ _ _⟩
  · skip
    have hk : bKi c = 10 := by unfold bKi; rw [en]; rfl
    rw [hk]
    refine nc_swE (n := 6) (t := 114) (eq1.trans en) rfl ?_
    refine g_new (j := 10) rfl (by decide) ?_
    have hf2 : (h ++ [.inr (10, sDef 10)])[0]? = some (.inr (11, fs)) := s_app_lt hf
    have hp : (h ++ [.inr (10, sDef 10)])[h.length]? = some (.inr (10, [.int 0, .int 0, .int 0, .int 0, .int 0, .null])) := s_app_at _ _
    refine g_dup rfl rfl ?_
    refine g_iload_n (i := 1) rfl rfl ?_
    refine g_iload_n (i := 2) rfl rfl ?_
    refine g_aload_n (i := 0) rfl rfl ?_
    refine g_getfield (v := .ref 3) rfl hf2 (by decide) f2 ?_
    refine g_init3 (k1 := 108) (Qc := fun r h' => r = none ∧ h' = List.set (h ++ [(Sum.inr (10, sDef 10) : va_E)] : sHp) h.length (Sum.inr (10, cutFs s c))) rfl (by decide) rfl hp (Nat.le_of_ble_eq_true rfl) (sDo_up (d := 3) (by omega) (s_init108 (d := 0) (by decide) hp ⟨rfl, rfl⟩)) (fun r h1 hq => ?_)
    obtain ⟨rfl, rfl⟩ := hq
    refine g_areturn (C := RX2) rfl rfl ?_
    exact ⟨rfl, s_app_set _ _ _⟩
theorem s_cut11_no {h : sHp} {s c x : Int32} (hH : bH h) (hx : (¬ (0 ≤ s.toInt ∧ s.toInt < 8) ∧ x = -1) ∨ ((0 ≤ s.toInt ∧ s.toInt < 8) ∧ 7000 ≤ c.toInt ∧ x = -1) ∨ ((0 ≤ s.toInt ∧ s.toInt < 8) ∧ c.toInt < -1 ∧ x = -6) ∨ ((0 ≤ s.toInt ∧ s.toInt < 8) ∧ 0 ≤ c.toInt ∧ c.toInt < 7000 ∧ ¬ cOk c ∧ x = -6)) : sDo 10 118 [.ref 0, .int s, .int c] h (fun r h' => r = some (.int x) ∧ pRef h h') := by
  obtain ⟨fs, hf, -⟩ := bFldK hH (p := 0) (by decide) rfl
  have e1000 : (Int16.ofInt 1000).toInt32.toInt = 1000 := rfl
  have e7 : (Int8.ofInt 7).toInt32.toInt = 7 := rfl
  have em1 : (Int32.ofInt (-1)).toInt = -1 := rfl
  refine sDo_of (d := 9) (nL := 3) (L := [some (.ref 0), some (.int s), some (.int c)]) rfl rfl ?_
  rcases hx with ⟨hs, rfl⟩ | ⟨hs, hc, rfl⟩ | ⟨hs, hc, rfl⟩ | ⟨hs, hc0, hc2, hk, rfl⟩
  · skip
    refine g_iload_n (i := 1) rfl rfl ?_
    refine g_static1 (Qc := fun r h' => h' = h ∧ r = some (.int 0)) rfl (by decide) rfl (Nat.le_of_ble_eq_true rfl) (s_sh11 (by rw [if_neg hs])) (fun r h9 hq9 => ?_)
    obtain ⟨rfl, rfl⟩ := hq9
    refine g_if_eq 17 rfl rfl (fun _ => ?_) (fun hc => absurd hc (by decide))
    refine g_aload_n (i := 0) rfl rfl ?_
    refine g_iconst (n := (-1)) rfl ?_
    refine g_virt1 (Qc := fun r h' => r = some (.int (-1)) ∧ ∃ R, h' = h9.set 43 (.inl (0, 8, .inl R))) rfl (by decide) rfl hf rfl (Nat.le_of_ble_eq_true rfl) (sDo_up (d := 2) (by decide) (s_rfus (d := 0) hH (by decide) (by decide))) (fun r h8 hq9 => ?_)
    obtain ⟨rfl, hR⟩ := hq9
    refine g_ireturn (ty := .int) rfl rfl rfl ?_
    exact ⟨rfl, hR⟩
  · skip
    refine g_iload_n (i := 1) rfl rfl ?_
    refine g_static1 (Qc := fun r h' => h' = h ∧ r = some (.int 1)) rfl (by decide) rfl (Nat.le_of_ble_eq_true rfl) (s_sh11 (by rw [if_pos hs])) (fun r h9 hq9 => ?_)
    obtain ⟨rfl, rfl⟩ := hq9
    refine g_if_eq 17 rfl rfl (fun hc => absurd hc (by decide)) (fun _ => ?_)
    refine g_iload_n (i := 2) rfl rfl ?_
    refine g_sipush (n := 1000) rfl ?_
    refine g_idiv rfl (by decide) ?_
    refine g_bipush (n := 7) rfl ?_
    refine g_icmp_lt 23 rfl rfl (fun hc => absurd hc (by rw [i_lt, i_dv (by decide), e1000, e7, td7]; omega)) (fun _ => ?_)
    refine g_aload_n (i := 0) rfl rfl ?_
    refine g_iconst (n := (-1)) rfl ?_
    refine g_virt1 (Qc := fun r h' => r = some (.int (-1)) ∧ ∃ R, h' = h9.set 43 (.inl (0, 8, .inl R))) rfl (by decide) rfl hf rfl (Nat.le_of_ble_eq_true rfl) (sDo_up (d := 2) (by decide) (s_rfus (d := 0) hH (by decide) (by decide))) (fun r h8 hq9 => ?_)
    obtain ⟨rfl, hR⟩ := hq9
    refine g_ireturn (ty := .int) rfl rfl rfl ?_
    exact ⟨rfl, hR⟩
  · skip
    refine g_iload_n (i := 1) rfl rfl ?_
    refine g_static1 (Qc := fun r h' => h' = h ∧ r = some (.int 1)) rfl (by decide) rfl (Nat.le_of_ble_eq_true rfl) (s_sh11 (by rw [if_pos hs])) (fun r h9 hq9 => ?_)
    obtain ⟨rfl, rfl⟩ := hq9
    refine g_if_eq 17 rfl rfl (fun hc => absurd hc (by decide)) (fun _ => ?_)
    refine g_iload_n (i := 2) rfl rfl ?_
    refine g_sipush (n := 1000) rfl ?_
    refine g_idiv rfl (by decide) ?_
    refine g_bipush (n := 7) rfl ?_
    refine g_icmp_lt 23 rfl rfl (fun _ => ?_) (fun hc => absurd hc (by rw [i_lt, i_dv (by decide), e1000, e7, td7]; omega))
    refine g_iload_n (i := 2) rfl rfl ?_
    refine g_iconst (n := (-1)) rfl ?_
    refine g_icmp_lt 40 rfl rfl (fun _ => ?_) (fun hc => absurd hc (by rw [i_lt, em1]; omega))
    refine g_aload_n (i := 0) rfl rfl ?_
    refine g_bipush (n := (-6)) rfl ?_
    refine g_virt1 (Qc := fun r h' => r = some (.int (-6)) ∧ ∃ R, h' = h9.set 43 (.inl (0, 8, .inl R))) rfl (by decide) rfl hf rfl (Nat.le_of_ble_eq_true rfl) (sDo_up (d := 2) (by decide) (s_rfus (d := 0) hH (by decide) (by decide))) (fun r h8 hq9 => ?_)
    obtain ⟨rfl, hR⟩ := hq9
    refine g_ireturn (ty := .int) rfl rfl rfl ?_
    exact ⟨rfl, hR⟩
  · skip
    refine g_iload_n (i := 1) rfl rfl ?_
    refine g_static1 (Qc := fun r h' => h' = h ∧ r = some (.int 1)) rfl (by decide) rfl (Nat.le_of_ble_eq_true rfl) (s_sh11 (by rw [if_pos hs])) (fun r h9 hq9 => ?_)
    obtain ⟨rfl, rfl⟩ := hq9
    refine g_if_eq 17 rfl rfl (fun hc => absurd hc (by decide)) (fun _ => ?_)
    refine g_iload_n (i := 2) rfl rfl ?_
    refine g_sipush (n := 1000) rfl ?_
    refine g_idiv rfl (by decide) ?_
    refine g_bipush (n := 7) rfl ?_
    refine g_icmp_lt 23 rfl rfl (fun _ => ?_) (fun hc => absurd hc (by rw [i_lt, i_dv (by decide), e1000, e7, td7]; omega))
    refine g_iload_n (i := 2) rfl rfl ?_
    refine g_iconst (n := (-1)) rfl ?_
    refine g_icmp_lt 40 rfl rfl (fun hc => absurd hc (by rw [i_lt, em1]; omega)) (fun _ => ?_)
    refine g_iload_n (i := 2) rfl rfl ?_
    refine g_iconst (n := (-1)) rfl ?_
    refine g_icmp_eq 47 rfl rfl (fun hc => absurd hc (by intro z; rw [z, em1] at hc0; omega)) (fun _ => ?_)
    refine g_iload_n (i := 2) rfl rfl ?_
    refine g_static1 (Qc := fun r h' => h' = h9 ∧ r = some (.int 0)) rfl (by decide) rfl (Nat.le_of_ble_eq_true rfl) (s_hcn hc0 (Or.inr ⟨hk, rfl⟩)) (fun r h8 hq9 => ?_)
    obtain ⟨rfl, rfl⟩ := hq9
    refine g_if_ne 47 rfl rfl (fun hc => absurd hc (by decide)) (fun _ => ?_)
    refine g_aload_n (i := 0) rfl rfl ?_
    refine g_bipush (n := (-6)) rfl ?_
    refine g_virt1 (Qc := fun r h' => r = some (.int (-6)) ∧ ∃ R, h' = h8.set 43 (.inl (0, 8, .inl R))) rfl (by decide) rfl hf rfl (Nat.le_of_ble_eq_true rfl) (sDo_up (d := 2) (by decide) (s_rfus (d := 0) hH (by decide) (by decide))) (fun r h7 hq9 => ?_)
    obtain ⟨rfl, hR⟩ := hq9
    refine g_ireturn (ty := .int) rfl rfl rfl ?_
    exact ⟨rfl, hR⟩
/-- what cut of the class leaves -/
def pCutS (s c : Int32) (S : Nat) (h1 : sHp) (y : Int32) : Prop := ∃ (hd so sz co : Nat → Int32) (cl : Nat → Int64) (f g : Nat → Option Nat) (el : Nat → Int64) (pc : Option Nat), h1[1]? = some (.inl (3, 8, .inr (.inr (.inr (.inr f))))) ∧ (∀ s, s < 8 → f s = some (44 + 2 * s)) ∧ h1[2]? = some (.inl (4, 8, .inr (.inr (.inr (.inr (va_up g S pc)))))) ∧ h1[67]? = some (.inl (0, 8, .inl hd)) ∧ h1[68]? = some (.inl (0, 8, .inl so)) ∧ h1[69]? = some (.inl (0, 8, .inl sz)) ∧ h1[70]? = some (.inl (0, 8, .inl co)) ∧ h1[71]? = some (.inl (1, 800, .inr (.inl cl))) ∧ h1[44 + 2 * S]? = some (oRel S) ∧ h1[45 + 2 * S]? = some (.inl (1, 100, .inr (.inl el))) ∧ (∀ t, t < 8 → t ≠ S → bRS hd so sz co cl g h1 t) ∧ ((pc = none ∧ c = Int32.ofInt (-1) ∧ y = 0) ∨ (∃ p, pc = some p ∧ 79 ≤ p ∧ h1[p]? = some (.inr (bKi c, cutFs s c)) ∧ 0 ≤ c.toInt ∧ c.toInt < 7000 ∧ cOk c ∧ y = 1))
theorem bRS_app {hd so sz co : Nat → Int32} {cl : Nat → Int64} {g : Nat → Option Nat} {h : sHp} {s : Nat} {c : va_E} (q : bRS hd so sz co cl g h s) : bRS hd so sz co cl g (h ++ [c]) s := by
  obtain ⟨ot, z, el, b1, b2, b3⟩ := q
  refine ⟨ot, z, el, s_app_lt b1, s_app_lt b2, ?_⟩
  rcases b3 with x | x | ⟨x1, x2, pc, x3, x4, x5, x6⟩
  · exact Or.inl x
  · exact Or.inr (Or.inl x)
  · exact Or.inr (Or.inr ⟨x1, x2, pc, x3, x4, s_app_lt x5, x6⟩)
theorem s_cut11_in {h : sHp} {s c y : Int32} {S : Nat} (hH : bH h) (hR : bR5 h) (hs : s.toInt = S) (hS : S < 8) (hc : (c = Int32.ofInt (-1) ∧ y = 0) ∨ (0 ≤ c.toInt ∧ c.toInt < 7000 ∧ cOk c ∧ y = 1)) : sDo 10 118 [.ref 0, .int s, .int c] h (fun r h' => r = some (.int y) ∧ pCutS s c S h' y) := by
  obtain ⟨hd, so, sz, co, cl, f, g, q4, q5⟩ := hR
  obtain ⟨ot, z, el, b1, b2, b3⟩ := q5 S hS
  obtain ⟨a1, a2, a3, a4, a5, a6, a7, a8⟩ := q4
  obtain ⟨fs, hf, -, hfs⟩ := bFldK hH (p := 0) (by decide) rfl
  obtain ⟨v0, f0, r0⟩ := hfs 0 _ rfl
  cases bT_one (by decide) (by decide +kernel) r0
  obtain ⟨v1, f1, r1⟩ := hfs 1 _ rfl
  cases bT_one (by decide) (by decide +kernel) r1
  have sn : s.toNatClampNeg = S := i_nat hs
  have fS : va_rf (f s.toNatClampNeg) = .ref (44 + 2 * S) := by rw [sn, a2 S hS]; rfl
  obtain ⟨v2, f2, r2⟩ := hfs 2 _ rfl
  cases bT_one (by decide) (by decide +kernel) r2
  have h79 := hH.1
  have e1000 : (Int16.ofInt 1000).toInt32.toInt = 1000 := rfl
  have e7 : (Int8.ofInt 7).toInt32.toInt = 7 := rfl
  have em1 : (Int32.ofInt (-1)).toInt = -1 := rfl
  have n1 : (h.set (44 + 2 * S) (oRel S))[1]? = some (.inl (3, 8, .inr (.inr (.inr (.inr f))))) := by rw [s_set_ne (by omega)]; exact a1
  have n0 : (h.set (44 + 2 * S) (oRel S))[0]? = some (.inr (11, fs)) := by rw [s_set_ne (by omega)]; exact hf
  have n2 : (h.set (44 + 2 * S) (oRel S))[2]? = some (.inl (4, 8, .inr (.inr (.inr (.inr g))))) := by rw [s_set_ne (by omega)]; exact a3
  have n67 : (h.set (44 + 2 * S) (oRel S))[67]? = some (.inl (0, 8, .inl hd)) := by rw [s_set_ne (by omega)]; exact a4
  have n68 : (h.set (44 + 2 * S) (oRel S))[68]? = some (.inl (0, 8, .inl so)) := by rw [s_set_ne (by omega)]; exact a5
  have n69 : (h.set (44 + 2 * S) (oRel S))[69]? = some (.inl (0, 8, .inl sz)) := by rw [s_set_ne (by omega)]; exact a6
  have n70 : (h.set (44 + 2 * S) (oRel S))[70]? = some (.inl (0, 8, .inl co)) := by rw [s_set_ne (by omega)]; exact a7
  have n71 : (h.set (44 + 2 * S) (oRel S))[71]? = some (.inl (1, 800, .inr (.inl cl))) := by rw [s_set_ne (by omega)]; exact a8
  have nr : (h.set (44 + 2 * S) (oRel S))[44 + 2 * S]? = some (oRel S) := s_set_eq b1
  have ne : (h.set (44 + 2 * S) (oRel S))[45 + 2 * S]? = some (.inl (1, 100, .inr (.inl el))) := by rw [s_set_ne (by omega)]; exact b2
  have no : ∀ t, t < 8 → t ≠ S → bRS hd so sz co cl g (h.set (44 + 2 * S) (oRel S)) t := fun t ht hne => bRS_set (q5 t ht) (by omega) (by omega) (by omega)
  refine sDo_of (d := 9) (nL := 3) (L := [some (.ref 0), some (.int s), some (.int c)]) rfl rfl ?_
  rcases hc with ⟨rfl, rfl⟩ | ⟨c0, c7, ck, rfl⟩
  · skip
    refine g_iload_n (i := 1) rfl rfl ?_
    refine g_static1 (Qc := fun r h' => h' = h ∧ r = some (.int 1)) rfl (by decide) rfl (Nat.le_of_ble_eq_true rfl) (s_sh11 (by rw [if_pos (by omega)])) (fun r h9 hq9 => ?_)
    obtain ⟨rfl, rfl⟩ := hq9
    refine g_if_eq 17 rfl rfl (fun hc => absurd hc (by decide)) (fun _ => ?_)
    refine g_iload_n (i := 2) rfl rfl ?_
    refine g_sipush (n := 1000) rfl ?_
    refine g_idiv rfl (by decide) ?_
    refine g_bipush (n := 7) rfl ?_
    refine g_icmp_lt 23 rfl rfl (fun _ => ?_) (fun hc => absurd hc (by rw [i_lt, i_dv (by decide), e1000, e7, td7]; omega))
    refine g_iload_n (i := 2) rfl rfl ?_
    refine g_iconst (n := (-1)) rfl ?_
    refine g_icmp_lt 40 rfl rfl (fun hc => absurd hc (by rw [i_lt, em1]; omega)) (fun _ => ?_)
    refine g_iload_n (i := 2) rfl rfl ?_
    refine g_iconst (n := (-1)) rfl ?_
    refine g_icmp_eq 47 rfl rfl (fun _ => ?_) (fun hc => absurd hc (by exact fun z => z rfl))
    refine g_aload_n (i := 0) rfl rfl ?_
    refine g_getfield (v := .ref 1) rfl hf (by decide) f0 ?_
    refine g_iload_n (i := 1) rfl rfl ?_
    refine g_aaload rfl a1 (by decide) (i_in (by omega) (by omega)) ?_
    rw [fS]
    refine g_virt0 (Qc := fun r h' => r = none ∧ h' = List.set h9 (44 + 2 * S) (oRel S)) rfl (by decide) rfl b1 rfl (Nat.le_of_ble_eq_true rfl) (sDo_up (d := 1) (by decide) (s_release (d := 0) b1)) (fun r h7 hq9 => ?_)
    obtain ⟨rfl, rfl⟩ := hq9
    refine g_aload_n (i := 0) rfl rfl ?_
    refine g_getfield (v := .ref 2) rfl n0 (by decide) f1 ?_
    refine g_iload_n (i := 1) rfl rfl ?_
    refine g_iload_n (i := 2) rfl rfl ?_
    refine g_iconst (n := (-1)) rfl ?_
    refine g_icmp_ne 70 rfl rfl (fun hc => absurd hc (by exact fun z => z rfl)) (fun _ => ?_)
    refine g_aconst_null rfl ?_
    refine g_goto 76 rfl rfl ?_
    refine g_aastoreN rfl n2 (by decide) (i_in (by omega) (by omega)) rfl ?_
    rw [sn]
    refine g_iload_n (i := 2) rfl rfl ?_
    refine g_iconst (n := (-1)) rfl ?_
    refine g_icmp_ne 86 rfl rfl (fun hc => absurd hc (by exact fun z => z rfl)) (fun _ => ?_)
    refine g_iconst (n := 0) rfl ?_
    refine g_goto 87 rfl rfl ?_
    refine g_ireturn (ty := .int) rfl rfl rfl ?_
    exact ⟨rfl, hd, so, sz, co, cl, f, g, el, none, by rw [s_set_ne (by omega)]; exact n1, a2, s_set_eq n2, by rw [s_set_ne (by omega)]; exact n67, by rw [s_set_ne (by omega)]; exact n68, by rw [s_set_ne (by omega)]; exact n69, by rw [s_set_ne (by omega)]; exact n70, by rw [s_set_ne (by omega)]; exact n71, by rw [s_set_ne (by omega)]; exact nr, by rw [s_set_ne (by omega)]; exact ne, fun t ht hne => bRS_set (no t ht hne) (by omega) (by omega) (by omega), Or.inl ⟨rfl, rfl, rfl⟩⟩
  · skip
    refine g_iload_n (i := 1) rfl rfl ?_
    refine g_static1 (Qc := fun r h' => h' = h ∧ r = some (.int 1)) rfl (by decide) rfl (Nat.le_of_ble_eq_true rfl) (s_sh11 (by rw [if_pos (by omega)])) (fun r h9 hq9 => ?_)
    obtain ⟨rfl, rfl⟩ := hq9
    refine g_if_eq 17 rfl rfl (fun hc => absurd hc (by decide)) (fun _ => ?_)
    refine g_iload_n (i := 2) rfl rfl ?_
    refine g_sipush (n := 1000) rfl ?_
    refine g_idiv rfl (by decide) ?_
    refine g_bipush (n := 7) rfl ?_
    refine g_icmp_lt 23 rfl rfl (fun _ => ?_) (fun hc => absurd hc (by rw [i_lt, i_dv (by decide), e1000, e7, td7]; omega))
    refine g_iload_n (i := 2) rfl rfl ?_
    refine g_iconst (n := (-1)) rfl ?_
    refine g_icmp_lt 40 rfl rfl (fun hc => absurd hc (by rw [i_lt, em1]; omega)) (fun _ => ?_)
    refine g_iload_n (i := 2) rfl rfl ?_
    refine g_iconst (n := (-1)) rfl ?_
    refine g_icmp_eq 47 rfl rfl (fun hc => absurd hc (by intro z; rw [z, em1] at c0; omega)) (fun _ => ?_)
    refine g_iload_n (i := 2) rfl rfl ?_
    refine g_static1 (Qc := fun r h' => h' = h9 ∧ r = some (.int 1)) rfl (by decide) rfl (Nat.le_of_ble_eq_true rfl) (s_hcn c0 (Or.inl ⟨ck, rfl⟩)) (fun r h8 hq9 => ?_)
    obtain ⟨rfl, rfl⟩ := hq9
    refine g_if_ne 47 rfl rfl (fun _ => ?_) (fun hc => absurd hc (by decide))
    refine g_aload_n (i := 0) rfl rfl ?_
    refine g_getfield (v := .ref 1) rfl hf (by decide) f0 ?_
    refine g_iload_n (i := 1) rfl rfl ?_
    refine g_aaload rfl a1 (by decide) (i_in (by omega) (by omega)) ?_
    rw [fS]
    refine g_virt0 (Qc := fun r h' => r = none ∧ h' = List.set h8 (44 + 2 * S) (oRel S)) rfl (by decide) rfl b1 rfl (Nat.le_of_ble_eq_true rfl) (sDo_up (d := 1) (by decide) (s_release (d := 0) b1)) (fun r h7 hq9 => ?_)
    obtain ⟨rfl, rfl⟩ := hq9
    refine g_aload_n (i := 0) rfl rfl ?_
    refine g_getfield (v := .ref 2) rfl n0 (by decide) f1 ?_
    refine g_iload_n (i := 1) rfl rfl ?_
    refine g_iload_n (i := 2) rfl rfl ?_
    refine g_iconst (n := (-1)) rfl ?_
    refine g_icmp_ne 70 rfl rfl (fun _ => ?_) (fun hc => absurd hc (by intro z; rw [z, em1] at c0; omega))
    refine g_aload_n (i := 0) rfl rfl ?_
    refine g_iload_n (i := 1) rfl rfl ?_
    refine g_iload_n (i := 2) rfl rfl ?_
    refine g_virt2 (Qc := fun r h' => r = some (.ref (List.set h8 (44 + 2 * S) (oRel S)).length) ∧ h' = List.set h8 (44 + 2 * S) (oRel S) ++ [.inr (bKi c, cutFs s c)]) rfl (by decide) rfl n0 rfl (Nat.le_of_ble_eq_true rfl) (sDo_up (d := 4) (by decide) (s_newCutE (d := 0) n0 f2 c0 c7)) (fun r h7 hq9 => ?_)
    obtain ⟨rfl, rfl⟩ := hq9
    refine g_aastore rfl (s_app_lt n2) (by rw [s_app_at]; show (((4 : Nat) == 3 && bKi c == 7) || ((4 : Nat) == 4 && (sGrp (bKi c) == 2 && decide (bKi c < 11)))) = true; rw [(cut_ty (bKi_in c)).1, decide_eq_true (cut_ty (bKi_in c)).2.1]; rfl) (i_in (by omega) (by omega)) rfl ?_
    rw [sn]
    refine g_iload_n (i := 2) rfl rfl ?_
    refine g_iconst (n := (-1)) rfl ?_
    refine g_icmp_ne 86 rfl rfl (fun _ => ?_) (fun hc => absurd hc (by intro z; rw [z, em1] at c0; omega))
    refine g_iconst (n := 1) rfl ?_
    refine g_ireturn (ty := .int) rfl rfl rfl ?_
    exact ⟨rfl, hd, so, sz, co, cl, f, g, el, some (List.set h8 (44 + 2 * S) (oRel S)).length, by rw [s_set_ne (by omega)]; exact s_app_lt n1, a2, s_set_eq (s_app_lt n2), by rw [s_set_ne (by omega)]; exact s_app_lt n67, by rw [s_set_ne (by omega)]; exact s_app_lt n68, by rw [s_set_ne (by omega)]; exact s_app_lt n69, by rw [s_set_ne (by omega)]; exact s_app_lt n70, by rw [s_set_ne (by omega)]; exact s_app_lt n71, by rw [s_set_ne (by omega)]; exact s_app_lt nr, by rw [s_set_ne (by omega)]; exact s_app_lt ne, fun t ht hne => bRS_set (bRS_app (no t ht hne)) (by omega) (by omega) (by omega), Or.inr ⟨_, rfl, by rw [List.length_set]; exact h79, by rw [s_set_ne (by rw [List.length_set]; omega)]; exact s_app_at _ _, c0, c7, ck, rfl⟩⟩
theorem s_cut12_no {h : sHp} {s c x : Int32} (hH : bH h) (hR : bR5 h) (hx : (¬ (0 ≤ s.toInt ∧ s.toInt < 8) ∧ x = -1) ∨ ((0 ≤ s.toInt ∧ s.toInt < 8) ∧ 7000 ≤ c.toInt ∧ x = -1) ∨ ((0 ≤ s.toInt ∧ s.toInt < 8) ∧ c.toInt < -1 ∧ x = -6) ∨ ((0 ≤ s.toInt ∧ s.toInt < 8) ∧ 0 ≤ c.toInt ∧ c.toInt < 7000 ∧ ¬ cOk c ∧ x = -6)) : sDo 10 182 [.ref 60, .int s, .int c] h (fun r h' => r = some (.int x) ∧ bR5 h') := by
  obtain ⟨fs, hf, -⟩ := bObj60 hH
  have e7000 : (Int16.ofInt 7000).toInt32.toInt = 7000 := rfl
  have e9 : (Int8.ofInt 9).toInt32.toInt = 9 := rfl
  have em1 : (Int32.ofInt (-1)).toInt = -1 := rfl
  refine sDo_of (d := 9) (nL := 3) (L := [some (.ref 60), some (.int s), some (.int c)]) rfl rfl ?_
  rcases hx with ⟨hs, rfl⟩ | ⟨hs, hc, rfl⟩ | ⟨hs, hc, rfl⟩ | ⟨hs, hc0, hc2, hk, rfl⟩
  · skip
    refine g_aload_n (i := 0) rfl rfl ?_
    refine g_iload_n (i := 1) rfl rfl ?_
    refine g_virt1 (Qc := fun r h' => h' = h ∧ r = some (.int 0)) rfl (by decide) rfl hf rfl (Nat.le_of_ble_eq_true rfl) (s_sh12 (by rw [if_neg hs])) (fun r h9 hq9 => ?_)
    obtain ⟨rfl, rfl⟩ := hq9
    refine g_if_eq 15 rfl rfl (fun _ => ?_) (fun hc => absurd hc (by decide))
    refine g_aload_n (i := 0) rfl rfl ?_
    refine g_iconst (n := (-1)) rfl ?_
    refine g_virt1 (Qc := fun r h' => r = some (.int (-1)) ∧ ∃ R, h' = List.set h9 61 (.inl (0, 8, .inl R))) rfl (by decide) rfl hf rfl (Nat.le_of_ble_eq_true rfl) (sDo_up (d := 1) (by decide) (s_no (d := 0) hH (by decide) (by decide))) (fun r h8 hq9 => ?_)
    obtain ⟨rfl, R, rfl⟩ := hq9
    refine g_ireturn (ty := .int) rfl rfl rfl ?_
    exact ⟨rfl, no_R hR⟩
  · skip
    refine g_aload_n (i := 0) rfl rfl ?_
    refine g_iload_n (i := 1) rfl rfl ?_
    refine g_virt1 (Qc := fun r h' => h' = h ∧ r = some (.int 1)) rfl (by decide) rfl hf rfl (Nat.le_of_ble_eq_true rfl) (s_sh12 (by rw [if_pos hs])) (fun r h9 hq9 => ?_)
    obtain ⟨rfl, rfl⟩ := hq9
    refine g_if_eq 15 rfl rfl (fun hc => absurd hc (by decide)) (fun _ => ?_)
    refine g_iload_n (i := 2) rfl rfl ?_
    refine g_sipush (n := 7000) rfl ?_
    refine g_icmp_lt 21 rfl rfl (fun hc => absurd hc (by rw [i_lt, e7000]; omega)) (fun _ => ?_)
    refine g_aload_n (i := 0) rfl rfl ?_
    refine g_iconst (n := (-1)) rfl ?_
    refine g_virt1 (Qc := fun r h' => r = some (.int (-1)) ∧ ∃ R, h' = List.set h9 61 (.inl (0, 8, .inl R))) rfl (by decide) rfl hf rfl (Nat.le_of_ble_eq_true rfl) (sDo_up (d := 1) (by decide) (s_no (d := 0) hH (by decide) (by decide))) (fun r h8 hq9 => ?_)
    obtain ⟨rfl, R, rfl⟩ := hq9
    refine g_ireturn (ty := .int) rfl rfl rfl ?_
    exact ⟨rfl, no_R hR⟩
  · skip
    refine g_aload_n (i := 0) rfl rfl ?_
    refine g_iload_n (i := 1) rfl rfl ?_
    refine g_virt1 (Qc := fun r h' => h' = h ∧ r = some (.int 1)) rfl (by decide) rfl hf rfl (Nat.le_of_ble_eq_true rfl) (s_sh12 (by rw [if_pos hs])) (fun r h9 hq9 => ?_)
    obtain ⟨rfl, rfl⟩ := hq9
    refine g_if_eq 15 rfl rfl (fun hc => absurd hc (by decide)) (fun _ => ?_)
    refine g_iload_n (i := 2) rfl rfl ?_
    refine g_sipush (n := 7000) rfl ?_
    refine g_icmp_lt 21 rfl rfl (fun _ => ?_) (fun hc => absurd hc (by rw [i_lt, e7000]; omega))
    refine g_iload_n (i := 2) rfl rfl ?_
    refine g_iconst (n := (-1)) rfl ?_
    refine g_icmp_lt 59 rfl rfl (fun _ => ?_) (fun hc => absurd hc (by rw [i_lt, em1]; omega))
    refine g_aload_n (i := 0) rfl rfl ?_
    refine g_bipush (n := (-6)) rfl ?_
    refine g_virt1 (Qc := fun r h' => r = some (.int (-6)) ∧ ∃ R, h' = List.set h9 61 (.inl (0, 8, .inl R))) rfl (by decide) rfl hf rfl (Nat.le_of_ble_eq_true rfl) (sDo_up (d := 1) (by decide) (s_no (d := 0) hH (by decide) (by decide))) (fun r h8 hq9 => ?_)
    obtain ⟨rfl, R, rfl⟩ := hq9
    refine g_ireturn (ty := .int) rfl rfl rfl ?_
    exact ⟨rfl, no_R hR⟩
  · skip
    refine g_aload_n (i := 0) rfl rfl ?_
    refine g_iload_n (i := 1) rfl rfl ?_
    refine g_virt1 (Qc := fun r h' => h' = h ∧ r = some (.int 1)) rfl (by decide) rfl hf rfl (Nat.le_of_ble_eq_true rfl) (s_sh12 (by rw [if_pos hs])) (fun r h9 hq9 => ?_)
    obtain ⟨rfl, rfl⟩ := hq9
    refine g_if_eq 15 rfl rfl (fun hc => absurd hc (by decide)) (fun _ => ?_)
    refine g_iload_n (i := 2) rfl rfl ?_
    refine g_sipush (n := 7000) rfl ?_
    refine g_icmp_lt 21 rfl rfl (fun _ => ?_) (fun hc => absurd hc (by rw [i_lt, e7000]; omega))
    refine g_iload_n (i := 2) rfl rfl ?_
    refine g_iconst (n := (-1)) rfl ?_
    refine g_icmp_lt 59 rfl rfl (fun hc => absurd hc (by rw [i_lt, em1]; omega)) (fun _ => ?_)
    have k3 := dg3 hc0
    have k2 := dg2 hc0
    have k1 := dg1 hc0
    unfold cOk at hk
    refine g_iload_n (i := 2) rfl rfl ?_
    refine g_bipush (n := 10) rfl ?_
    refine g_irem rfl (by decide) ?_
    refine g_bipush (n := 9) rfl ?_
    refine g_icmp_eq 59 rfl rfl (fun c1 => ?_) (fun c1 => ?_)
    · skip
      refine g_aload_n (i := 0) rfl rfl ?_
      refine g_bipush (n := (-6)) rfl ?_
      refine g_virt1 (Qc := fun r h' => r = some (.int (-6)) ∧ ∃ R, h' = List.set h9 61 (.inl (0, 8, .inl R))) rfl (by decide) rfl hf rfl (Nat.le_of_ble_eq_true rfl) (sDo_up (d := 1) (by decide) (s_no (d := 0) hH (by decide) (by decide))) (fun r h8 hq9 => ?_)
      obtain ⟨rfl, R, rfl⟩ := hq9
      refine g_ireturn (ty := .int) rfl rfl rfl ?_
      exact ⟨rfl, no_R hR⟩
    · skip
      replace c1 : ¬ (cD1 c).toInt = 9 := fun z => c1 (Int32.toInt_inj.mp (z.trans e9.symm))
      refine g_iload_n (i := 2) rfl rfl ?_
      refine g_bipush (n := 10) rfl ?_
      refine g_idiv rfl (by decide) ?_
      refine g_bipush (n := 10) rfl ?_
      refine g_irem rfl (by decide) ?_
      refine g_bipush (n := 9) rfl ?_
      refine g_icmp_eq 59 rfl rfl (fun c2 => ?_) (fun c2 => ?_)
      · skip
        refine g_aload_n (i := 0) rfl rfl ?_
        refine g_bipush (n := (-6)) rfl ?_
        refine g_virt1 (Qc := fun r h' => r = some (.int (-6)) ∧ ∃ R, h' = List.set h9 61 (.inl (0, 8, .inl R))) rfl (by decide) rfl hf rfl (Nat.le_of_ble_eq_true rfl) (sDo_up (d := 1) (by decide) (s_no (d := 0) hH (by decide) (by decide))) (fun r h8 hq9 => ?_)
        obtain ⟨rfl, R, rfl⟩ := hq9
        refine g_ireturn (ty := .int) rfl rfl rfl ?_
        exact ⟨rfl, no_R hR⟩
      · skip
        replace c2 : ¬ (cD c (Int8.ofInt 10).toInt32).toInt = 9 := fun z => c2 (Int32.toInt_inj.mp (z.trans e9.symm))
        refine g_iload_n (i := 2) rfl rfl ?_
        refine g_bipush (n := 100) rfl ?_
        refine g_idiv rfl (by decide) ?_
        refine g_bipush (n := 10) rfl ?_
        refine g_irem rfl (by decide) ?_
        refine g_bipush (n := 9) rfl ?_
        refine g_icmp_ne 66 rfl rfl (fun hc => absurd hc (by intro z; exact z (Int32.toInt_inj.mp (Eq.trans (show (cD c (Int8.ofInt 100).toInt32).toInt = 9 by omega) e9.symm)))) (fun _ => ?_)
        refine g_aload_n (i := 0) rfl rfl ?_
        refine g_bipush (n := (-6)) rfl ?_
        refine g_virt1 (Qc := fun r h' => r = some (.int (-6)) ∧ ∃ R, h' = List.set h9 61 (.inl (0, 8, .inl R))) rfl (by decide) rfl hf rfl (Nat.le_of_ble_eq_true rfl) (sDo_up (d := 1) (by decide) (s_no (d := 0) hH (by decide) (by decide))) (fun r h8 hq9 => ?_)
        obtain ⟨rfl, R, rfl⟩ := hq9
        refine g_ireturn (ty := .int) rfl rfl rfl ?_
        exact ⟨rfl, no_R hR⟩
theorem s_cut12_in {h1 : sHp} {s c y : Int32} {S : Nat} (hH : bH h1) (hP : pCutS s c S h1 y) (hs : s.toInt = S) (hS : S < 8) : sDo 10 182 [.ref 60, .int s, .int c] h1 (fun r h' => r = some (.int y) ∧ bR5 h') := by
  obtain ⟨hd, so, sz, co, cl, f, g, el, pc, c1, a2, c3, c4, c5, c6, c7, c8, cr, ce, co', hk⟩ := hP
  obtain ⟨fs, hf, -⟩ := bObj60 hH
  obtain ⟨w14, f14, r14⟩ := bF60 hH hf (j := 14) (ty := .inr (2, 67)) (by decide +kernel)
  cases bT_one (by decide) (by decide +kernel) r14
  obtain ⟨w15, f15, r15⟩ := bF60 hH hf (j := 15) (ty := .inr (2, 68)) (by decide +kernel)
  cases bT_one (by decide) (by decide +kernel) r15
  obtain ⟨w16, f16, r16⟩ := bF60 hH hf (j := 16) (ty := .inr (2, 69)) (by decide +kernel)
  cases bT_one (by decide) (by decide +kernel) r16
  obtain ⟨w17, f17, r17⟩ := bF60 hH hf (j := 17) (ty := .inr (2, 70)) (by decide +kernel)
  cases bT_one (by decide) (by decide +kernel) r17
  obtain ⟨w18, f18, r18⟩ := bF60 hH hf (j := 18) (ty := .inr (2, 71)) (by decide +kernel)
  cases bT_one (by decide) (by decide +kernel) r18
  have sn : s.toNatClampNeg = S := i_nat hs
  have e7000 : (Int16.ofInt 7000).toInt32.toInt = 7000 := rfl
  have e9 : (Int8.ofInt 9).toInt32.toInt = 9 := rfl
  have em1 : (Int32.ofInt (-1)).toInt = -1 := rfl
  have hsS : Int32.ofNat S = s := by
    apply Int32.toInt_inj.mp
    rw [Int32.toInt_ofNat_of_lt (by omega), hs]
  have hc : -1 ≤ c.toInt ∧ c.toInt < 7000 := by
    rcases hk with ⟨-, z, -⟩ | ⟨p, -, -, -, z1, z2, -⟩
    · rw [z, em1]
      omega
    · omega
  have D : ¬ cD1 c = (Int8.ofInt 9).toInt32 ∧ ¬ cD c (Int8.ofInt 10).toInt32 = (Int8.ofInt 9).toInt32 ∧ ¬ cD c (Int8.ofInt 100).toInt32 = (Int8.ofInt 9).toInt32 := by
    rcases hk with ⟨-, z, -⟩ | ⟨p, -, -, -, z1, z2, z3, -⟩
    · rw [z]
      decide
    · have k3 := dg3 z1
      have k2 := dg2 z1
      have k1 := dg1 z1
      unfold cOk at z3
      refine ⟨fun z => ?_, fun z => ?_, fun z => ?_⟩
      · rw [z] at k1; omega
      · rw [z] at k2; omega
      · rw [z] at k3; omega
  refine sDo_of (d := 9) (nL := 3) (L := [some (.ref 60), some (.int s), some (.int c)]) rfl rfl ?_
  refine g_aload_n (i := 0) rfl rfl ?_
  refine g_iload_n (i := 1) rfl rfl ?_
  refine g_virt1 (Qc := fun r h' => h' = h1 ∧ r = some (.int 1)) rfl (by decide) rfl hf rfl (Nat.le_of_ble_eq_true rfl) (s_sh12 (by rw [if_pos (by omega)])) (fun r h9 hq9 => ?_)
  obtain ⟨rfl, rfl⟩ := hq9
  refine g_if_eq 15 rfl rfl (fun hc => absurd hc (by decide)) (fun _ => ?_)
  refine g_iload_n (i := 2) rfl rfl ?_
  refine g_sipush (n := 7000) rfl ?_
  refine g_icmp_lt 21 rfl rfl (fun _ => ?_) (fun hc => absurd hc (by rw [i_lt, e7000]; omega))
  refine g_iload_n (i := 2) rfl rfl ?_
  refine g_iconst (n := (-1)) rfl ?_
  refine g_icmp_lt 59 rfl rfl (fun hc => absurd hc (by rw [i_lt, em1]; omega)) (fun _ => ?_)
  refine g_iload_n (i := 2) rfl rfl ?_
  refine g_bipush (n := 10) rfl ?_
  refine g_irem rfl (by decide) ?_
  refine g_bipush (n := 9) rfl ?_
  refine g_icmp_eq 59 rfl rfl (fun hc => absurd hc (by exact D.1)) (fun _ => ?_)
  refine g_iload_n (i := 2) rfl rfl ?_
  refine g_bipush (n := 10) rfl ?_
  refine g_idiv rfl (by decide) ?_
  refine g_bipush (n := 10) rfl ?_
  refine g_irem rfl (by decide) ?_
  refine g_bipush (n := 9) rfl ?_
  refine g_icmp_eq 59 rfl rfl (fun hc => absurd hc (by exact D.2.1)) (fun _ => ?_)
  refine g_iload_n (i := 2) rfl rfl ?_
  refine g_bipush (n := 100) rfl ?_
  refine g_idiv rfl (by decide) ?_
  refine g_bipush (n := 10) rfl ?_
  refine g_irem rfl (by decide) ?_
  refine g_bipush (n := 9) rfl ?_
  refine g_icmp_ne 66 rfl rfl (fun _ => ?_) (fun hc => absurd hc (by exact D.2.2))
  refine g_aload_n (i := 0) rfl rfl ?_
  refine g_getfield (v := .ref 67) rfl hf (by decide) f14 ?_
  refine g_iload_n (i := 1) rfl rfl ?_
  refine g_iload_n (i := 2) rfl rfl ?_
  refine g_iconst (n := (-1)) rfl ?_
  rcases hk with ⟨rfl, rfl, rfl⟩ | ⟨p, rfl, p79, hpc, z1, z2, z3, rfl⟩
  · skip
    refine g_icmp_ne 80 rfl rfl (fun hc => absurd hc (by exact fun z => z rfl)) (fun _ => ?_)
    refine g_iconst (n := 0) rfl ?_
    refine g_goto 81 rfl rfl ?_
    refine g_iastore (h1 := (List.set h9 67 (.inl (0, 8, .inl (upd hd S (Int32.ofInt 0)))))) rfl c4 (i_in (by omega) (by omega)) (by rw [sn]) ?_
    have hf1 : ((List.set h9 67 (.inl (0, 8, .inl (upd hd S (Int32.ofInt 0))))) : sHp)[60]? = some (.inr (12, fs)) := by rw [s_set_ne (by decide)]; exact hf
    refine g_aload_n (i := 0) rfl rfl ?_
    refine g_getfield (v := .ref 70) rfl hf1 (by decide) f17 ?_
    refine g_iload_n (i := 1) rfl rfl ?_
    refine g_iload_n (i := 2) rfl rfl ?_
    refine g_iastore (h1 := (List.set (List.set h9 67 (.inl (0, 8, .inl (upd hd S (Int32.ofInt 0))))) 70 (.inl (0, 8, .inl (upd co S (Int32.ofInt (-1))))))) rfl (by rw [s_set_ne (by decide)]; exact c7) (i_in (by omega) (by omega)) (by rw [sn]) ?_
    refine g_iload_n (i := 2) rfl rfl ?_
    refine g_iconst (n := (-1)) rfl ?_
    refine g_icmp_ne 98 rfl rfl (fun hc => absurd hc (by exact fun z => z rfl)) (fun _ => ?_)
    refine g_iconst (n := 0) rfl ?_
    refine g_goto 99 rfl rfl ?_
    refine g_ireturn (ty := .int) rfl rfl rfl ?_
    refine ⟨rfl, upd hd S (Int32.ofInt 0), so, sz, upd co S (Int32.ofInt (-1)), cl, f, va_up g S none, ⟨?_, a2, ?_, ?_, ?_, ?_, ?_, ?_⟩, fun t ht => ?_⟩
    · rw [s_set_ne (by decide), s_set_ne (by decide)]; exact c1
    · rw [s_set_ne (by decide), s_set_ne (by decide)]; exact c3
    · rw [s_set_ne (by decide)]; exact s_set_eq c4
    · rw [s_set_ne (by decide), s_set_ne (by decide)]; exact c5
    · rw [s_set_ne (by decide), s_set_ne (by decide)]; exact c6
    · exact s_set_eq (by rw [s_set_ne (by decide)]; exact c7)
    · rw [s_set_ne (by decide), s_set_ne (by decide)]; exact c8
    · by_cases hts : t = S
      · subst hts
        exact ⟨Int32.ofInt (-1), Int32.ofInt 0, el, by rw [s_set_ne (by omega), s_set_ne (by omega)]; exact cr, by rw [s_set_ne (by omega), s_set_ne (by omega)]; exact ce, Or.inl ⟨u_at, va_up_self _ _ _, rfl⟩⟩
      · obtain ⟨ot', z', el', r1, r2, r3⟩ := bRS_set (p := 70) (c := .inl (0, 8, .inl (upd co S (Int32.ofInt (-1))))) (bRS_set (p := 67) (c := .inl (0, 8, .inl (upd hd S (Int32.ofInt 0)))) (co' t ht hts) (by decide) (by omega) (by omega)) (by decide) (by omega) (by omega)
        refine ⟨ot', z', el', r1, r2, ?_⟩
        rcases r3 with ⟨x1, x2, x3⟩ | ⟨x1, x2, x3, x4, x5, x6, x7, x8, x9⟩ | ⟨x1, x2, pc, x3, x4, x5⟩
        · exact Or.inl ⟨by rw [u_ne hts]; exact x1, by rw [va_up_ne _ _ hts]; exact x2, x3⟩
        · exact Or.inr (Or.inl ⟨by rw [u_ne hts]; exact x1, by rw [va_up_ne _ _ hts]; exact x2, x3, x4, x5, x6, x7, x8, x9⟩)
        · exact Or.inr (Or.inr ⟨by rw [u_ne hts]; exact x1, x2, pc, x3, by rw [va_up_ne _ _ hts]; exact x4, by rw [u_ne hts]; exact x5⟩)
  · skip
    refine g_icmp_ne 80 rfl rfl (fun _ => ?_) (fun hc => absurd hc (by intro z; rw [z, em1] at z1; omega))
    refine g_iconst (n := 2) rfl ?_
    refine g_iastore (h1 := (List.set h9 67 (.inl (0, 8, .inl (upd hd S (Int32.ofInt 2)))))) rfl c4 (i_in (by omega) (by omega)) (by rw [sn]) ?_
    have hf1 : ((List.set h9 67 (.inl (0, 8, .inl (upd hd S (Int32.ofInt 2))))) : sHp)[60]? = some (.inr (12, fs)) := by rw [s_set_ne (by decide)]; exact hf
    refine g_aload_n (i := 0) rfl rfl ?_
    refine g_getfield (v := .ref 70) rfl hf1 (by decide) f17 ?_
    refine g_iload_n (i := 1) rfl rfl ?_
    refine g_iload_n (i := 2) rfl rfl ?_
    refine g_iastore (h1 := (List.set (List.set h9 67 (.inl (0, 8, .inl (upd hd S (Int32.ofInt 2))))) 70 (.inl (0, 8, .inl (upd co S c))))) rfl (by rw [s_set_ne (by decide)]; exact c7) (i_in (by omega) (by omega)) (by rw [sn]) ?_
    refine g_iload_n (i := 2) rfl rfl ?_
    refine g_iconst (n := (-1)) rfl ?_
    refine g_icmp_ne 98 rfl rfl (fun _ => ?_) (fun hc => absurd hc (by intro z; rw [z, em1] at z1; omega))
    refine g_iconst (n := 1) rfl ?_
    refine g_ireturn (ty := .int) rfl rfl rfl ?_
    refine ⟨rfl, upd hd S (Int32.ofInt 2), so, sz, upd co S c, cl, f, va_up g S (some p), ⟨?_, a2, ?_, ?_, ?_, ?_, ?_, ?_⟩, fun t ht => ?_⟩
    · rw [s_set_ne (by decide), s_set_ne (by decide)]; exact c1
    · rw [s_set_ne (by decide), s_set_ne (by decide)]; exact c3
    · rw [s_set_ne (by decide)]; exact s_set_eq c4
    · rw [s_set_ne (by decide), s_set_ne (by decide)]; exact c5
    · rw [s_set_ne (by decide), s_set_ne (by decide)]; exact c6
    · exact s_set_eq (by rw [s_set_ne (by decide)]; exact c7)
    · rw [s_set_ne (by decide), s_set_ne (by decide)]; exact c8
    · by_cases hts : t = S
      · subst hts
        exact ⟨Int32.ofInt (-1), Int32.ofInt 0, el, by rw [s_set_ne (by omega), s_set_ne (by omega)]; exact cr, by rw [s_set_ne (by omega), s_set_ne (by omega)]; exact ce, Or.inr (Or.inr ⟨u_at, rfl, p, p79, va_up_self _ _ _, by rw [s_set_ne (by omega), s_set_ne (by omega), u_at, hsS]; exact hpc, by rw [u_at]; exact ⟨z1, z2⟩⟩)⟩
      · obtain ⟨ot', z', el', r1, r2, r3⟩ := bRS_set (p := 70) (c := .inl (0, 8, .inl (upd co S c))) (bRS_set (p := 67) (c := .inl (0, 8, .inl (upd hd S (Int32.ofInt 2)))) (co' t ht hts) (by decide) (by omega) (by omega)) (by decide) (by omega) (by omega)
        refine ⟨ot', z', el', r1, r2, ?_⟩
        rcases r3 with ⟨x1, x2, x3⟩ | ⟨x1, x2, x3, x4, x5, x6, x7, x8, x9⟩ | ⟨x1, x2, pc, x3, x4, x5⟩
        · exact Or.inl ⟨by rw [u_ne hts]; exact x1, by rw [va_up_ne _ _ hts]; exact x2, x3⟩
        · exact Or.inr (Or.inl ⟨by rw [u_ne hts]; exact x1, by rw [va_up_ne _ _ hts]; exact x2, x3, x4, x5, x6, x7, x8, x9⟩)
        · exact Or.inr (Or.inr ⟨by rw [u_ne hts]; exact x1, x2, pc, x3, by rw [va_up_ne _ _ hts]; exact x4, by rw [u_ne hts]; exact x5⟩)
theorem pr_cut (s c : Int32) : bPair 118 182 [.int s, .int c] := by
  have c1 : ∀ h, bH h → sDo 10 118 (.ref 0 :: [.int s, .int c]) h (fun _ h' => bH h' ∧ h'.length ≤ h.length + 1) := fun h hH => pr_use ch_X11_cut_0 (by decide +kernel) (by decide +kernel) rfl hH ⟨bt0 hH, vI0 s, vI0 c, trivial⟩
  have c2 : ∀ h, bH h → sDo 10 182 (.ref 60 :: [.int s, .int c]) h (fun _ h' => bH h' ∧ h'.length ≤ h.length + 1) := fun h hH => pr_use ch_X12_cut_0 (by decide +kernel) (by decide +kernel) rfl hH ⟨bt60 hH, vI0 s, vI0 c, trivial⟩
  intro h hH hR
  have no : ∀ x : Int32, ((¬ (0 ≤ s.toInt ∧ s.toInt < 8) ∧ x = -1) ∨ ((0 ≤ s.toInt ∧ s.toInt < 8) ∧ 7000 ≤ c.toInt ∧ x = -1) ∨ ((0 ≤ s.toInt ∧ s.toInt < 8) ∧ c.toInt < -1 ∧ x = -6) ∨ ((0 ≤ s.toInt ∧ s.toInt < 8) ∧ 0 ≤ c.toInt ∧ c.toInt < 7000 ∧ ¬ cOk c ∧ x = -6)) → _ := fun x hx => pair_case (x := .int x) hH c1 c2 (s_cut11_no hH hx) (fun h1 hH1 hP => s_cut12_no hH1 (pRef_5 hP hR) hx)
  by_cases hs : 0 ≤ s.toInt ∧ s.toInt < 8
  · obtain ⟨S, hS⟩ : ∃ S : Nat, s.toInt = S := ⟨s.toInt.toNat, by omega⟩
    have hS8 : S < 8 := by omega
    have yes : ∀ y : Int32, ((c = Int32.ofInt (-1) ∧ y = 0) ∨ (0 ≤ c.toInt ∧ c.toInt < 7000 ∧ cOk c ∧ y = 1)) → _ := fun y hy => pair_case (x := .int y) hH c1 c2 (s_cut11_in hH hR hS hS8 hy) (fun h1 hH1 hP => s_cut12_in hH1 hP hS hS8)
    by_cases h7 : 7000 ≤ c.toInt
    · exact no (-1) (Or.inr (Or.inl ⟨hs, h7, rfl⟩))
    · by_cases hm : c.toInt < -1
      · exact no (-6) (Or.inr (Or.inr (Or.inl ⟨hs, hm, rfl⟩)))
      · by_cases h0 : 0 ≤ c.toInt
        · by_cases hk : cOk c
          · exact yes 1 (Or.inr ⟨h0, by omega, hk, rfl⟩)
          · exact no (-6) (Or.inr (Or.inr (Or.inr ⟨hs, h0, by omega, hk, rfl⟩)))
        · exact yes 0 (Or.inl ⟨Int32.toInt_inj.mp (show c.toInt = -1 by omega), rfl⟩)
  · exact no (-1) (Or.inl ⟨hs, rfl⟩)
end
section
/-! ===== the pair copy ===== -/
def eaOf (a b : Int32) : Int32 := if a = 0 then b else if b = 0 then a else if a < b then b else a
theorem s_earlier {d : Nat} {h : sHp} {a b : Int32} : sDo (d + 1) 159 [.int a, .int b] h (fun r h' => h' = h ∧ r = some (.int (eaOf a b))) := by
  refine sDo_of (d := d) (nL := 2) (L := [some (.int a), some (.int b)]) rfl rfl ?_
  unfold eaOf
  refine g_iload_n (i := 0) rfl rfl ?_
  refine g_if_ne 6 rfl rfl (fun c1 => ?_) (fun c1 => ?_)
  · skip
    replace c1 : ¬ a = 0 := c1
    rw [if_neg c1]
    refine g_iload_n (i := 1) rfl rfl ?_
    refine g_if_ne 14 rfl rfl (fun c2 => ?_) (fun c2 => ?_)
    · skip
      replace c2 : ¬ b = 0 := c2
      rw [if_neg c2]
      refine g_iload_n (i := 0) rfl rfl ?_
      refine g_iload_n (i := 1) rfl rfl ?_
      refine g_max rfl (Nat.le_of_ble_eq_true rfl) ?_
      refine g_ireturn (ty := .int) rfl rfl rfl ?_
      exact ⟨rfl, rfl⟩
    · skip
      rw [if_pos (show b = 0 from c2)]
      refine g_iload_n (i := 0) rfl rfl ?_
      refine g_goto 19 rfl rfl ?_
      refine g_ireturn (ty := .int) rfl rfl rfl ?_
      exact ⟨rfl, rfl⟩
  · skip
    rw [if_pos (show a = 0 from c1)]
    refine g_iload_n (i := 1) rfl rfl ?_
    refine g_ireturn (ty := .int) rfl rfl rfl ?_
    exact ⟨rfl, rfl⟩
theorem s_rangeE {d : Nat} {h : sHp} {rp ep : Nat} {ot a n sz b : Int32} (hp : h[rp]? = some (.inr (7, [.int ot, .int sz, .ref ep]))) (z0 : 0 ≤ sz.toInt) (z1 : sz.toInt ≤ 100) (hb : (0 ≤ a.toInt ∧ 0 ≤ n.toInt ∧ a.toInt + n.toInt ≤ sz.toInt ∧ b = 1) ∨ (¬ (0 ≤ a.toInt ∧ 0 ≤ n.toInt ∧ a.toInt + n.toInt ≤ sz.toInt) ∧ b = 0)) : sDo (d + 1) 83 [.ref rp, .int a, .int n] h (fun r h' => h' = h ∧ r = some (.int b)) := by
  have e0 : (0 : Int32).toInt = 0 := rfl
  have nf : n.toInt ≤ (2147483647 : Int) := (aFull_ok n).2
  refine sDo_of (d := d) (nL := 3) (L := [some (.ref rp), some (.int a), some (.int n)]) rfl rfl ?_
  refine g_iload_n (i := 1) rfl rfl ?_
  refine g_if_lt 22 rfl rfl (fun c1 => ?_) (fun c1 => ?_)
  · skip
    rw [i_lt, e0] at c1
    refine g_iconst (n := 0) rfl ?_
    refine g_ireturn (ty := .boolean) rfl rfl (by decide) ?_
    rcases hb with ⟨m1, m2, m3, rfl⟩ | ⟨hk, rfl⟩
    · exact absurd m1 (by omega)
    · exact ⟨rfl, rfl⟩
  · skip
    rw [i_lt, e0] at c1
    refine g_iload_n (i := 2) rfl rfl ?_
    refine g_if_lt 22 rfl rfl (fun c2 => ?_) (fun c2 => ?_)
    · skip
      rw [i_lt, e0] at c2
      refine g_iconst (n := 0) rfl ?_
      refine g_ireturn (ty := .boolean) rfl rfl (by decide) ?_
      rcases hb with ⟨m1, m2, m3, rfl⟩ | ⟨hk, rfl⟩
      · exact absurd m1 (by omega)
      · exact ⟨rfl, rfl⟩
    · skip
      rw [i_lt, e0] at c2
      have hs : (sz - n).toInt = sz.toInt - n.toInt := i_sub (by omega) (by omega)
      refine g_iload_n (i := 1) rfl rfl ?_
      refine g_aload_n (i := 0) rfl rfl ?_
      refine g_getfield (v := .int sz) rfl hp (by decide) rfl ?_
      refine g_iload_n (i := 2) rfl rfl ?_
      refine g_isub rfl ?_
      refine g_icmp_gt 22 rfl rfl (fun c3 => ?_) (fun c3 => ?_)
      · skip
        rw [i_lt, hs] at c3
        refine g_iconst (n := 0) rfl ?_
        refine g_ireturn (ty := .boolean) rfl rfl (by decide) ?_
        rcases hb with ⟨m1, m2, m3, rfl⟩ | ⟨hk, rfl⟩
        · exact absurd m1 (by omega)
        · exact ⟨rfl, rfl⟩
      · skip
        rw [i_lt, hs] at c3
        refine g_iconst (n := 1) rfl ?_
        refine g_goto 23 rfl rfl ?_
        refine g_ireturn (ty := .boolean) rfl rfl (by decide) ?_
        rcases hb with ⟨m1, m2, m3, rfl⟩ | ⟨hk, rfl⟩
        · exact ⟨rfl, rfl⟩
        · exact absurd ⟨by omega, by omega, by omega⟩ hk
theorem s_copy11_no {h : sHp} {p q i j n np nq x : Int32} (hH : bH h) (cp : sDo 2 161 [.ref 0, .int p] h (fun r h' => h' = h ∧ r = some (.int np))) (cq : sDo 2 161 [.ref 0, .int q] h (fun r h' => h' = h ∧ r = some (.int nq))) (hx : eaOf np nq = x) (hx0 : ¬ x = 0) (k1 : -7 ≤ x.toInt) (k2 : x.toInt ≤ -1) : sDo 10 116 [.ref 0, .int p, .int q, .int i, .int j, .int n] h (fun r h' => r = some (.int x) ∧ pRef h h') := by
  obtain ⟨fs, hf, -⟩ := bFldK hH (p := 0) (by decide) rfl
  refine sDo_of (d := 9) (nL := 7) (L := [some (.ref 0), some (.int p), some (.int q), some (.int i), some (.int j), some (.int n), none]) rfl rfl ?_
  refine g_aload_n (i := 0) rfl rfl ?_
  refine g_iload_n (i := 1) rfl rfl ?_
  refine g_virt1 (Qc := fun r h' => h' = h ∧ r = some (.int np)) rfl (by decide) rfl hf rfl (Nat.le_of_ble_eq_true rfl) (sDo_up (d := 2) (by decide) cp) (fun r h9 hq9 => ?_)
  obtain ⟨rfl, rfl⟩ := hq9
  refine g_aload_n (i := 0) rfl rfl ?_
  refine g_iload_n (i := 2) rfl rfl ?_
  refine g_virt1 (Qc := fun r h' => h' = h9 ∧ r = some (.int nq)) rfl (by decide) rfl hf rfl (Nat.le_of_ble_eq_true rfl) (sDo_up (d := 2) (by decide) cq) (fun r h8 hq9 => ?_)
  obtain ⟨rfl, rfl⟩ := hq9
  refine g_static2 (Qc := fun r h' => h' = h8 ∧ r = some (.int x)) rfl (by decide) rfl (Nat.le_of_ble_eq_true rfl) (sDo_mono (s_earlier (a := np) (b := nq)) (fun r h' q => by rw [← hx]; exact q)) (fun r h7 hq9 => ?_)
  obtain ⟨rfl, rfl⟩ := hq9
  refine g_istore (i := 6) (L1 := [some (.ref 0), some (.int p), some (.int q), some (.int i), some (.int j), some (.int n), some (.int x)]) rfl (Nat.le_of_ble_eq_true rfl) rfl ?_
  refine g_iload (i := 6) rfl rfl ?_
  refine g_if_eq 27 rfl rfl (fun hc => absurd hc (by exact hx0)) (fun _ => ?_)
  refine g_aload_n (i := 0) rfl rfl ?_
  refine g_iload (i := 6) rfl rfl ?_
  refine g_virt1 (Qc := fun r h' => r = some (.int (x)) ∧ ∃ R, h' = List.set h7 43 (.inl (0, 8, .inl R))) rfl (by decide) rfl hf rfl (Nat.le_of_ble_eq_true rfl) (sDo_up (d := 2) (by decide) (s_rfus (d := 0) hH k1 k2)) (fun r h6 hq9 => ?_)
  obtain ⟨rfl, hR⟩ := hq9
  refine g_ireturn (ty := .int) rfl rfl rfl ?_
  exact ⟨rfl, hR⟩
theorem bSh_1 {hd so sz co : Nat → Int32} {cl : Nat → Int64} {g : Nat → Option Nat} {h : sHp} {s : Nat} {ot z : Int32} {el : Nat → Int64} (b3 : bSh hd so sz co cl g h s ot z el) (h1 : hd s = 1) : ot = so s ∧ z = sz s ∧ 0 ≤ z.toInt ∧ z.toInt ≤ 100 ∧ (∀ i : Nat, (i : Int) < z.toInt → el i = cl (100 * s + i)) ∧ nrOf hd s = 0 := by
  have hn : nrOf hd s = 0 := by
    unfold nrOf
    rw [if_pos h1]
  rcases b3 with ⟨y1, -⟩ | ⟨-, -, y3, -, -, y6, y7, y8, y9⟩ | ⟨y1, -⟩
  · rw [h1] at y1
    exact absurd y1 (by decide)
  · exact ⟨y3, y6, y7, y8, y9, hn⟩
  · rw [h1] at y1
    exact absurd y1 (by decide)
theorem s_copy11_in {h : sHp} {hd so sz co : Nat → Int32} {cl : Nat → Int64} {f g : Nat → Option Nat} {p q i j n : Int32} {P Q : Nat} {op zp oq zq : Int32} {elp elq : Nat → Int64} (hH : bH h) (q4 : bR4 h hd so sz co cl f g) (hp : p.toInt = P) (hP : P < 8) (hq : q.toInt = Q) (hQ : Q < 8) (b1 : h[44 + 2 * P]? = some (.inr (7, [.int op, .int zp, .ref (45 + 2 * P)]))) (b2 : h[45 + 2 * P]? = some (.inl (1, 100, .inr (.inl elp)))) (b3 : bSh hd so sz co cl g h P op zp elp) (d1 : h[44 + 2 * Q]? = some (.inr (7, [.int oq, .int zq, .ref (45 + 2 * Q)]))) (d2 : h[45 + 2 * Q]? = some (.inl (1, 100, .inr (.inl elq)))) (d3 : bSh hd so sz co cl g h Q oq zq elq) (h1 : hd P = 1) (h2 : hd Q = 1) {x : Int32} {R : sHp → Prop} (hx : (¬ op = oq ∧ x = -2 ∧ R = pRef h) ∨ (op = oq ∧ n.toInt < 0 ∧ x = -4 ∧ R = pRef h) ∨ (op = oq ∧ 0 ≤ n.toInt ∧ ¬ (0 ≤ i.toInt ∧ 0 ≤ j.toInt ∧ i.toInt + n.toInt ≤ zp.toInt ∧ j.toInt + n.toInt ≤ zq.toInt) ∧ x = -5 ∧ R = pRef h) ∨ (op = oq ∧ 0 ≤ n.toInt ∧ 0 ≤ i.toInt ∧ 0 ≤ j.toInt ∧ i.toInt + n.toInt ≤ zp.toInt ∧ j.toInt + n.toInt ≤ zq.toInt ∧ x = 1 ∧ R = fun h' => h' = h.set (45 + 2 * Q) (.inl (1, 100, .inr (.inl (va_cpy elp elq i.toNatClampNeg j.toNatClampNeg n.toNatClampNeg)))))) : sDo 10 116 [.ref 0, .int p, .int q, .int i, .int j, .int n] h (fun r h' => r = some (.int x) ∧ R h') := by
  have q4c := q4
  obtain ⟨-, -, zp0, zp1, -, np⟩ := bSh_1 b3 h1
  obtain ⟨-, -, zq0, zq1, -, nq⟩ := bSh_1 d3 h2
  obtain ⟨a1, a2, a3, a4, a5, a6, a7, a8⟩ := q4
  obtain ⟨fs, hf, -, hfs⟩ := bFldK hH (p := 0) (by decide) rfl
  obtain ⟨v0, f0, r0⟩ := hfs 0 _ rfl
  cases bT_one (by decide) (by decide +kernel) r0
  have fP : va_rf (f p.toNatClampNeg) = .ref (44 + 2 * P) := by rw [i_nat hp, a2 P hP]; rfl
  have fQ : va_rf (f q.toNatClampNeg) = .ref (44 + 2 * Q) := by rw [i_nat hq, a2 Q hQ]; rfl
  have e0 : (0 : Int32).toInt = 0 := rfl
  refine sDo_of (d := 9) (nL := 7) (L := [some (.ref 0), some (.int p), some (.int q), some (.int i), some (.int j), some (.int n), none]) rfl rfl ?_
  refine g_aload_n (i := 0) rfl rfl ?_
  refine g_iload_n (i := 1) rfl rfl ?_
  refine g_virt1 (Qc := fun r h' => h' = h ∧ r = some (.int 0)) rfl (by decide) rfl hf rfl (Nat.le_of_ble_eq_true rfl) (sDo_mono (sDo_up (d := 2) (by decide) (s_noIn (d := 0) hH q4c hp hP b1 b3)) (fun r h' q => by rw [← np]; exact q)) (fun r h9 hq9 => ?_)
  obtain ⟨rfl, rfl⟩ := hq9
  refine g_aload_n (i := 0) rfl rfl ?_
  refine g_iload_n (i := 2) rfl rfl ?_
  refine g_virt1 (Qc := fun r h' => h' = h9 ∧ r = some (.int 0)) rfl (by decide) rfl hf rfl (Nat.le_of_ble_eq_true rfl) (sDo_mono (sDo_up (d := 2) (by decide) (s_noIn (d := 0) hH q4c hq hQ d1 d3)) (fun r h' q => by rw [← nq]; exact q)) (fun r h8 hq9 => ?_)
  obtain ⟨rfl, rfl⟩ := hq9
  refine g_static2 (Qc := fun r h' => h' = h8 ∧ r = some (.int 0)) rfl (by decide) rfl (Nat.le_of_ble_eq_true rfl) (sDo_mono (s_earlier (a := 0) (b := 0)) (fun r h' q => q)) (fun r h7 hq9 => ?_)
  obtain ⟨rfl, rfl⟩ := hq9
  refine g_istore (i := 6) (L1 := [some (.ref 0), some (.int p), some (.int q), some (.int i), some (.int j), some (.int n), some (.int 0)]) rfl (Nat.le_of_ble_eq_true rfl) rfl ?_
  refine g_iload (i := 6) rfl rfl ?_
  refine g_if_eq 27 rfl rfl (fun _ => ?_) (fun hc => absurd hc (by exact fun z => z rfl))
  refine g_aload_n (i := 0) rfl rfl ?_
  refine g_getfield (v := .ref 1) rfl hf (by decide) f0 ?_
  refine g_iload_n (i := 1) rfl rfl ?_
  refine g_aaload rfl a1 (by decide) (i_in (by omega) (by omega)) ?_
  rw [fP]
  refine g_getfield (v := .int op) rfl b1 (by decide) rfl ?_
  refine g_aload_n (i := 0) rfl rfl ?_
  refine g_getfield (v := .ref 1) rfl hf (by decide) f0 ?_
  refine g_iload_n (i := 2) rfl rfl ?_
  refine g_aaload rfl a1 (by decide) (i_in (by omega) (by omega)) ?_
  rw [fQ]
  refine g_getfield (v := .int oq) rfl d1 (by decide) rfl ?_
  rcases hx with ⟨ho, rfl, rfl⟩ | ⟨ho, hn, rfl, rfl⟩ | ⟨ho, hn, hr, rfl, rfl⟩ | ⟨ho, hn, i0, j0, i1, j1, rfl, rfl⟩
  · skip
    refine g_icmp_eq 55 rfl rfl (fun hc => absurd hc (by exact ho)) (fun _ => ?_)
    refine g_aload_n (i := 0) rfl rfl ?_
    refine g_bipush (n := (-2)) rfl ?_
    refine g_virt1 (Qc := fun r h' => r = some (.int (-2)) ∧ ∃ R, h' = List.set h7 43 (.inl (0, 8, .inl R))) rfl (by decide) rfl hf rfl (Nat.le_of_ble_eq_true rfl) (sDo_up (d := 2) (by decide) (s_rfus (d := 0) hH (by decide) (by decide))) (fun r h6 hq9 => ?_)
    obtain ⟨rfl, hR⟩ := hq9
    refine g_ireturn (ty := .int) rfl rfl rfl ?_
    exact ⟨rfl, hR⟩
  · skip
    refine g_icmp_eq 55 rfl rfl (fun _ => ?_) (fun hc => absurd hc (by exact fun z => z ho))
    refine g_iload (i := 5) rfl rfl ?_
    refine g_if_ge 67 rfl rfl (fun hc => absurd hc (by rw [i_le, e0]; omega)) (fun _ => ?_)
    refine g_aload_n (i := 0) rfl rfl ?_
    refine g_bipush (n := (-4)) rfl ?_
    refine g_virt1 (Qc := fun r h' => r = some (.int (-4)) ∧ ∃ R, h' = List.set h7 43 (.inl (0, 8, .inl R))) rfl (by decide) rfl hf rfl (Nat.le_of_ble_eq_true rfl) (sDo_up (d := 2) (by decide) (s_rfus (d := 0) hH (by decide) (by decide))) (fun r h6 hq9 => ?_)
    obtain ⟨rfl, hR⟩ := hq9
    refine g_ireturn (ty := .int) rfl rfl rfl ?_
    exact ⟨rfl, hR⟩
  · skip
    refine g_icmp_eq 55 rfl rfl (fun _ => ?_) (fun hc => absurd hc (by exact fun z => z ho))
    refine g_iload (i := 5) rfl rfl ?_
    refine g_if_ge 67 rfl rfl (fun _ => ?_) (fun hc => absurd hc (by rw [i_le, e0]; omega))
    refine g_aload_n (i := 0) rfl rfl ?_
    refine g_getfield (v := .ref 1) rfl hf (by decide) f0 ?_
    refine g_iload_n (i := 1) rfl rfl ?_
    refine g_aaload rfl a1 (by decide) (i_in (by omega) (by omega)) ?_
    rw [fP]
    refine g_iload_n (i := 3) rfl rfl ?_
    refine g_iload (i := 5) rfl rfl ?_
    by_cases hp1 : 0 ≤ i.toInt ∧ 0 ≤ n.toInt ∧ i.toInt + n.toInt ≤ zp.toInt
    · skip
      refine g_virt2 (Qc := fun r h' => h' = h7 ∧ r = some (.int 1)) rfl (by decide) rfl b1 rfl (Nat.le_of_ble_eq_true rfl) (s_rangeE (b := 1) b1 zp0 zp1 (Or.inl ⟨hp1.1, hp1.2.1, hp1.2.2, rfl⟩)) (fun r h6 hq9 => ?_)
      obtain ⟨rfl, rfl⟩ := hq9
      refine g_if_eq 98 rfl rfl (fun hc => absurd hc (by decide)) (fun _ => ?_)
      refine g_aload_n (i := 0) rfl rfl ?_
      refine g_getfield (v := .ref 1) rfl hf (by decide) f0 ?_
      refine g_iload_n (i := 2) rfl rfl ?_
      refine g_aaload rfl a1 (by decide) (i_in (by omega) (by omega)) ?_
      rw [fQ]
      refine g_iload (i := 4) rfl rfl ?_
      refine g_iload (i := 5) rfl rfl ?_
      refine g_virt2 (Qc := fun r h' => h' = h6 ∧ r = some (.int 0)) rfl (by decide) rfl d1 rfl (Nat.le_of_ble_eq_true rfl) (s_rangeE (b := 0) d1 zq0 zq1 (Or.inr ⟨by omega, rfl⟩)) (fun r h5 hq9 => ?_)
      obtain ⟨rfl, rfl⟩ := hq9
      refine g_if_ne 105 rfl rfl (fun hc => absurd hc (by decide)) (fun _ => ?_)
      refine g_aload_n (i := 0) rfl rfl ?_
      refine g_bipush (n := (-5)) rfl ?_
      refine g_virt1 (Qc := fun r h' => r = some (.int (-5)) ∧ ∃ R, h' = List.set h5 43 (.inl (0, 8, .inl R))) rfl (by decide) rfl hf rfl (Nat.le_of_ble_eq_true rfl) (sDo_up (d := 2) (by decide) (s_rfus (d := 0) hH (by decide) (by decide))) (fun r h4 hq9 => ?_)
      obtain ⟨rfl, hR⟩ := hq9
      refine g_ireturn (ty := .int) rfl rfl rfl ?_
      exact ⟨rfl, hR⟩
    · skip
      refine g_virt2 (Qc := fun r h' => h' = h7 ∧ r = some (.int 0)) rfl (by decide) rfl b1 rfl (Nat.le_of_ble_eq_true rfl) (s_rangeE (b := 0) b1 zp0 zp1 (Or.inr ⟨hp1, rfl⟩)) (fun r h6 hq9 => ?_)
      obtain ⟨rfl, rfl⟩ := hq9
      refine g_if_eq 98 rfl rfl (fun _ => ?_) (fun hc => absurd hc (by decide))
      refine g_aload_n (i := 0) rfl rfl ?_
      refine g_bipush (n := (-5)) rfl ?_
      refine g_virt1 (Qc := fun r h' => r = some (.int (-5)) ∧ ∃ R, h' = List.set h6 43 (.inl (0, 8, .inl R))) rfl (by decide) rfl hf rfl (Nat.le_of_ble_eq_true rfl) (sDo_up (d := 2) (by decide) (s_rfus (d := 0) hH (by decide) (by decide))) (fun r h5 hq9 => ?_)
      obtain ⟨rfl, hR⟩ := hq9
      refine g_ireturn (ty := .int) rfl rfl rfl ?_
      exact ⟨rfl, hR⟩
  · skip
    refine g_icmp_eq 55 rfl rfl (fun _ => ?_) (fun hc => absurd hc (by exact fun z => z ho))
    refine g_iload (i := 5) rfl rfl ?_
    refine g_if_ge 67 rfl rfl (fun _ => ?_) (fun hc => absurd hc (by rw [i_le, e0]; omega))
    refine g_aload_n (i := 0) rfl rfl ?_
    refine g_getfield (v := .ref 1) rfl hf (by decide) f0 ?_
    refine g_iload_n (i := 1) rfl rfl ?_
    refine g_aaload rfl a1 (by decide) (i_in (by omega) (by omega)) ?_
    rw [fP]
    refine g_iload_n (i := 3) rfl rfl ?_
    refine g_iload (i := 5) rfl rfl ?_
    refine g_virt2 (Qc := fun r h' => h' = h7 ∧ r = some (.int 1)) rfl (by decide) rfl b1 rfl (Nat.le_of_ble_eq_true rfl) (s_rangeE (b := 1) b1 zp0 zp1 (Or.inl ⟨i0, hn, i1, rfl⟩)) (fun r h6 hq9 => ?_)
    obtain ⟨rfl, rfl⟩ := hq9
    refine g_if_eq 98 rfl rfl (fun hc => absurd hc (by decide)) (fun _ => ?_)
    refine g_aload_n (i := 0) rfl rfl ?_
    refine g_getfield (v := .ref 1) rfl hf (by decide) f0 ?_
    refine g_iload_n (i := 2) rfl rfl ?_
    refine g_aaload rfl a1 (by decide) (i_in (by omega) (by omega)) ?_
    rw [fQ]
    refine g_iload (i := 4) rfl rfl ?_
    refine g_iload (i := 5) rfl rfl ?_
    refine g_virt2 (Qc := fun r h' => h' = h6 ∧ r = some (.int 1)) rfl (by decide) rfl d1 rfl (Nat.le_of_ble_eq_true rfl) (s_rangeE (b := 1) d1 zq0 zq1 (Or.inl ⟨j0, hn, j1, rfl⟩)) (fun r h5 hq9 => ?_)
    obtain ⟨rfl, rfl⟩ := hq9
    refine g_if_ne 105 rfl rfl (fun _ => ?_) (fun hc => absurd hc (by decide))
    refine g_aload_n (i := 0) rfl rfl ?_
    refine g_getfield (v := .ref 1) rfl hf (by decide) f0 ?_
    refine g_iload_n (i := 1) rfl rfl ?_
    refine g_aaload rfl a1 (by decide) (i_in (by omega) (by omega)) ?_
    rw [fP]
    refine g_getfield (v := .ref (45 + 2 * P)) rfl b1 (by decide) rfl ?_
    refine g_iload_n (i := 3) rfl rfl ?_
    refine g_aload_n (i := 0) rfl rfl ?_
    refine g_getfield (v := .ref 1) rfl hf (by decide) f0 ?_
    refine g_iload_n (i := 2) rfl rfl ?_
    refine g_aaload rfl a1 (by decide) (i_in (by omega) (by omega)) ?_
    rw [fQ]
    refine g_getfield (v := .ref (45 + 2 * Q)) rfl d1 (by decide) rfl ?_
    refine g_iload (i := 4) rfl rfl ?_
    refine g_iload (i := 5) rfl rfl ?_
    have in_ : (i.toNatClampNeg : Int) = i.toInt := by
      show ((i.toInt.toNat : Nat) : Int) = i.toInt
      omega
    have jn : (j.toNatClampNeg : Int) = j.toInt := by
      show ((j.toInt.toNat : Nat) : Int) = j.toInt
      omega
    have nn : (n.toNatClampNeg : Int) = n.toInt := by
      show ((n.toInt.toNat : Nat) : Int) = n.toInt
      omega
    refine go_heap (st1 := []) (h1 := h5.set (45 + 2 * Q) (.inl (1, 100, .inr (.inl (va_cpy elp elq i.toNatClampNeg j.toNatClampNeg n.toNatClampNeg))))) (ins := .invokestatic 1003) rfl rfl rfl ?_ ?_
    · show sCpy [.int n, .int j, .ref (45 + 2 * Q), .int i, .ref (45 + 2 * P)] h5 = _
      unfold sCpy
      dsimp only
      rw [b2, d2]
      have hcc : ¬ i < 0 ∧ ¬ j < 0 ∧ ¬ n < 0 ∧ i.toNatClampNeg + n.toNatClampNeg ≤ 100 ∧ j.toNatClampNeg + n.toNatClampNeg ≤ 100 := by
        rw [i_lt, i_lt, i_lt, e0]
        exact ⟨by omega, by omega, by omega, by omega, by omega⟩
      exact if_pos hcc
    · skip
      refine g_iconst (n := 1) rfl ?_
      refine g_ireturn (ty := .int) rfl rfl rfl ?_
      exact ⟨rfl, rfl⟩
def yp1 (t0 cl : Nat → Int64) (A K : Nat) : Nat → Int64 := fun x => if x < K then cl (A + x) else t0 x
theorem yp1_0 (t0 cl : Nat → Int64) (A : Nat) : yp1 t0 cl A 0 = t0 := funext fun x => if_neg (Nat.not_lt_zero x)
theorem yp1_s (t0 cl : Nat → Int64) (A K : Nat) : vp_updL (yp1 t0 cl A K) K (cl (A + K)) = yp1 t0 cl A (K + 1) := funext fun x => by
  unfold vp_updL yp1
  by_cases h : x = K
  · rw [if_pos h, if_pos (show x < K + 1 by omega), h]
  · rw [if_neg h]
    by_cases h2 : x < K
    · rw [if_pos h2, if_pos (show x < K + 1 by omega)]
    · rw [if_neg h2, if_neg (show ¬ x < K + 1 by omega)]
def yp2 (cl T : Nat → Int64) (B K : Nat) : Nat → Int64 := fun x => if B ≤ x ∧ x < B + K then T (x - B) else cl x
theorem yp2_0 (cl T : Nat → Int64) (B : Nat) : yp2 cl T B 0 = cl := funext fun x => if_neg (show ¬ (B ≤ x ∧ x < B + 0) by omega)
theorem yp2_s (cl T : Nat → Int64) (B K : Nat) : vp_updL (yp2 cl T B K) (B + K) (T K) = yp2 cl T B (K + 1) := funext fun x => by
  unfold vp_updL yp2
  by_cases h : x = B + K
  · rw [if_pos h, if_pos (show B ≤ x ∧ x < B + (K + 1) by omega), h, Nat.add_sub_cancel_left]
  · rw [if_neg h]
    by_cases h2 : B ≤ x ∧ x < B + K
    · rw [if_pos h2, if_pos (show B ≤ x ∧ x < B + (K + 1) by omega)]
    · rw [if_neg h2, if_neg (show ¬ (B ≤ x ∧ x < B + (K + 1)) by omega)]
theorem s_cp1_go {d : Nat} {h : sHp} {p q i j n : Int32} {P I N0 : Nat} {fs : List Value} {cl t0 : Nat → Int64} {Q : Option Value → sHp → Prop} (hf : h[60]? = some (.inr (12, fs))) (f18 : fs[18]? = some (.ref 71)) (f19 : fs[19]? = some (.ref 72)) (a8 : h[71]? = some (.inl (1, 800, .inr (.inl cl)))) (a9 : h[72]? = some (.inl (1, 100, .inr (.inl t0)))) (hp : p.toInt = P) (hi : i.toInt = I) (hn : n.toInt = N0) (hP : P < 8) (hI : I + N0 ≤ 100) (hQ : ∀ k : Int32, sGo none 180 d 201 [some (.ref 60), some (.int p), some (.int q), some (.int i), some (.int j), some (.int n), some (.int k)] [] (h.set 72 (.inl (1, 100, .inr (.inl (yp1 t0 cl (100 * P + I) N0))))) Q) : ∀ (N : Nat) (k : Int32) (K : Nat), k.toInt = K → K ≤ N0 → N0 - K < N → sGo none 180 d 167 [some (.ref 60), some (.int p), some (.int q), some (.int i), some (.int j), some (.int n), some (.int k)] [] (h.set 72 (.inl (1, 100, .inr (.inl (yp1 t0 cl (100 * P + I) K))))) Q := by
  intro N
  induction N with
  | zero => intro k K _ _ hl; omega
  | succ N ih =>
    intro k K hk hK hl
    have e1 : (Int32.ofInt 1).toInt = 1 := rfl
    have e100 : (Int8.ofInt 100).toInt32.toInt = 100 := rfl
    have hf2 : (h.set 72 (.inl (1, 100, .inr (.inl (yp1 t0 cl (100 * P + I) K)))))[60]? = some (.inr (12, fs)) := by rw [s_set_ne (by decide)]; exact hf
    have m1 : ((Int8.ofInt 100).toInt32 * p).toInt = 100 * P := by rw [i_mul (by rw [e100]; omega) (by rw [e100]; omega), e100, hp]
    refine g_iload (i := 6) rfl rfl ?_
    refine g_iload (i := 5) rfl rfl ?_
    refine g_icmp_ge 201 rfl rfl (fun hc => ?_) (fun hc => ?_)
    · skip
      rw [i_le, hn, hk] at hc
      have : K = N0 := by omega
      subst this
      exact hQ k
    · skip
      rw [i_le, hn, hk] at hc
      have m2 : ((Int8.ofInt 100).toInt32 * p + i).toInt = 100 * P + I := by rw [i_add (by rw [m1]; omega) (by rw [m1]; omega), m1, hi]
      have m3 : ((Int8.ofInt 100).toInt32 * p + i + k).toInt = ((100 * P + I + K : Nat) : Int) := by rw [i_add (by rw [m2]; omega) (by rw [m2]; omega), m2]; omega
      refine g_aload_n (i := 0) rfl rfl ?_
      refine g_getfield (v := .ref 72) rfl hf2 (by decide) f19 ?_
      refine g_iload (i := 6) rfl rfl ?_
      refine g_aload_n (i := 0) rfl rfl ?_
      refine g_getfield (v := .ref 71) rfl hf2 (by decide) f18 ?_
      refine g_bipush (n := 100) rfl ?_
      refine g_iload_n (i := 1) rfl rfl ?_
      refine g_imul rfl ?_
      refine g_iload_n (i := 3) rfl rfl ?_
      refine g_iadd rfl ?_
      refine g_iload (i := 6) rfl rfl ?_
      refine g_iadd rfl ?_
      refine g_laload (n := 800) (f := cl) rfl (by rw [s_set_ne (by decide)]; exact a8) (i_in (by omega) (by omega)) ?_
      rw [i_nat m3]
      refine g_lastore (h1 := h.set 72 (.inl (1, 100, .inr (.inl (yp1 t0 cl (100 * P + I) (K + 1)))))) rfl (s_set_eq a9) (i_in (by omega) (by omega)) (by rw [i_nat hk, List.set_set]; exact congrArg (fun e => h.set 72 (.inl (1, 100, .inr (.inl e)))) (yp1_s t0 cl _ K)) ?_
      refine g_iinc (i := 6) (L1 := [some (.ref 60), some (.int p), some (.int q), some (.int i), some (.int j), some (.int n), some (.int (k + Int32.ofInt 1))]) rfl rfl rfl ?_
      refine g_goto 167 rfl rfl ?_
      exact ih _ (K + 1) (by rw [i_add (by omega) (by omega)]; omega) (by omega) (by omega)
theorem s_cp2_go {d : Nat} {h : sHp} {p q i j n : Int32} {Q1 J N0 : Nat} {fs : List Value} {cl T : Nat → Int64} {Q : Option Value → sHp → Prop} (hf : h[60]? = some (.inr (12, fs))) (f18 : fs[18]? = some (.ref 71)) (f19 : fs[19]? = some (.ref 72)) (a8 : h[71]? = some (.inl (1, 800, .inr (.inl cl)))) (a9 : h[72]? = some (.inl (1, 100, .inr (.inl T)))) (hq : q.toInt = Q1) (hj : j.toInt = J) (hn : n.toInt = N0) (hQ1 : Q1 < 8) (hJ : J + N0 ≤ 100) (hQ : Q (some (.int 1)) (h.set 71 (.inl (1, 800, .inr (.inl (yp2 cl T (100 * Q1 + J) N0)))))) : ∀ (N : Nat) (k : Int32) (K : Nat), k.toInt = K → K ≤ N0 → N0 - K < N → sGo none 180 d 204 [some (.ref 60), some (.int p), some (.int q), some (.int i), some (.int j), some (.int n), some (.int k)] [] (h.set 71 (.inl (1, 800, .inr (.inl (yp2 cl T (100 * Q1 + J) K))))) Q := by
  intro N
  induction N with
  | zero => intro k K _ _ hl; omega
  | succ N ih =>
    intro k K hk hK hl
    have e1 : (Int32.ofInt 1).toInt = 1 := rfl
    have e100 : (Int8.ofInt 100).toInt32.toInt = 100 := rfl
    have hf2 : (h.set 71 (.inl (1, 800, .inr (.inl (yp2 cl T (100 * Q1 + J) K)))))[60]? = some (.inr (12, fs)) := by rw [s_set_ne (by decide)]; exact hf
    have m1 : ((Int8.ofInt 100).toInt32 * q).toInt = 100 * Q1 := by rw [i_mul (by rw [e100]; omega) (by rw [e100]; omega), e100, hq]
    refine g_iload (i := 6) rfl rfl ?_
    refine g_iload (i := 5) rfl rfl ?_
    refine g_icmp_ge 239 rfl rfl (fun hc => ?_) (fun hc => ?_)
    · skip
      rw [i_le, hn, hk] at hc
      have : K = N0 := by omega
      subst this
      refine g_iconst (n := 1) rfl ?_
      refine g_ireturn (ty := .int) rfl rfl rfl ?_
      exact hQ
    · skip
      rw [i_le, hn, hk] at hc
      have m2 : ((Int8.ofInt 100).toInt32 * q + j).toInt = 100 * Q1 + J := by rw [i_add (by rw [m1]; omega) (by rw [m1]; omega), m1, hj]
      have m3 : ((Int8.ofInt 100).toInt32 * q + j + k).toInt = ((100 * Q1 + J + K : Nat) : Int) := by rw [i_add (by rw [m2]; omega) (by rw [m2]; omega), m2]; omega
      refine g_aload_n (i := 0) rfl rfl ?_
      refine g_getfield (v := .ref 71) rfl hf2 (by decide) f18 ?_
      refine g_bipush (n := 100) rfl ?_
      refine g_iload_n (i := 2) rfl rfl ?_
      refine g_imul rfl ?_
      refine g_iload (i := 4) rfl rfl ?_
      refine g_iadd rfl ?_
      refine g_iload (i := 6) rfl rfl ?_
      refine g_iadd rfl ?_
      refine g_aload_n (i := 0) rfl rfl ?_
      refine g_getfield (v := .ref 72) rfl hf2 (by decide) f19 ?_
      refine g_iload (i := 6) rfl rfl ?_
      refine g_laload (n := 100) (f := T) rfl (by rw [s_set_ne (by decide)]; exact a9) (i_in (by omega) (by omega)) ?_
      rw [i_nat hk]
      refine g_lastore (h1 := h.set 71 (.inl (1, 800, .inr (.inl (yp2 cl T (100 * Q1 + J) (K + 1)))))) rfl (s_set_eq a8) (i_in (by omega) (by omega)) (by rw [i_nat m3, List.set_set]; exact congrArg (fun e => h.set 71 (.inl (1, 800, .inr (.inl e)))) (yp2_s cl T _ K)) ?_
      refine g_iinc (i := 6) (L1 := [some (.ref 60), some (.int p), some (.int q), some (.int i), some (.int j), some (.int n), some (.int (k + Int32.ofInt 1))]) rfl rfl rfl ?_
      refine g_goto 204 rfl rfl ?_
      exact ih _ (K + 1) (by rw [i_add (by omega) (by omega)]; omega) (by omega) (by omega)
theorem s_copy12_out {h : sHp} {p q i j n : Int32} (hH : bH h) (hR : bR5 h) (hs : ¬ ((0 ≤ p.toInt ∧ p.toInt < 8) ∧ (0 ≤ q.toInt ∧ q.toInt < 8))) : sDo 10 180 [.ref 60, .int p, .int q, .int i, .int j, .int n] h (fun r h' => r = some (.int (-1)) ∧ bR5 h') := by
  obtain ⟨fs, hf, -⟩ := bObj60 hH
  refine sDo_of (d := 9) (nL := 7) (L := [some (.ref 60), some (.int p), some (.int q), some (.int i), some (.int j), some (.int n), none]) rfl rfl ?_
  by_cases hp : 0 ≤ p.toInt ∧ p.toInt < 8
  · skip
    refine g_aload_n (i := 0) rfl rfl ?_
    refine g_iload_n (i := 1) rfl rfl ?_
    refine g_virt1 (Qc := fun r h' => h' = h ∧ r = some (.int 1)) rfl (by decide) rfl hf rfl (Nat.le_of_ble_eq_true rfl) (s_sh12 (by rw [if_pos hp])) (fun r h9 hq9 => ?_)
    obtain ⟨rfl, rfl⟩ := hq9
    refine g_if_eq 16 rfl rfl (fun hc => absurd hc (by decide)) (fun _ => ?_)
    refine g_aload_n (i := 0) rfl rfl ?_
    refine g_iload_n (i := 2) rfl rfl ?_
    refine g_virt1 (Qc := fun r h' => h' = h9 ∧ r = some (.int 0)) rfl (by decide) rfl hf rfl (Nat.le_of_ble_eq_true rfl) (s_sh12 (by rw [if_neg (fun z => hs ⟨hp, z⟩)])) (fun r h8 hq9 => ?_)
    obtain ⟨rfl, rfl⟩ := hq9
    refine g_if_ne 22 rfl rfl (fun hc => absurd hc (by decide)) (fun _ => ?_)
    refine g_aload_n (i := 0) rfl rfl ?_
    refine g_iconst (n := (-1)) rfl ?_
    refine g_virt1 (Qc := fun r h' => r = some (.int (-1)) ∧ ∃ R, h' = List.set h8 61 (.inl (0, 8, .inl R))) rfl (by decide) rfl hf rfl (Nat.le_of_ble_eq_true rfl) (sDo_up (d := 1) (by decide) (s_no (d := 0) hH (by decide) (by decide))) (fun r h7 hq9 => ?_)
    obtain ⟨rfl, R, rfl⟩ := hq9
    refine g_ireturn (ty := .int) rfl rfl rfl ?_
    exact ⟨rfl, no_R hR⟩
  · skip
    refine g_aload_n (i := 0) rfl rfl ?_
    refine g_iload_n (i := 1) rfl rfl ?_
    refine g_virt1 (Qc := fun r h' => h' = h ∧ r = some (.int 0)) rfl (by decide) rfl hf rfl (Nat.le_of_ble_eq_true rfl) (s_sh12 (by rw [if_neg hp])) (fun r h9 hq9 => ?_)
    obtain ⟨rfl, rfl⟩ := hq9
    refine g_if_eq 16 rfl rfl (fun _ => ?_) (fun hc => absurd hc (by decide))
    refine g_aload_n (i := 0) rfl rfl ?_
    refine g_iconst (n := (-1)) rfl ?_
    refine g_virt1 (Qc := fun r h' => r = some (.int (-1)) ∧ ∃ R, h' = List.set h9 61 (.inl (0, 8, .inl R))) rfl (by decide) rfl hf rfl (Nat.le_of_ble_eq_true rfl) (sDo_up (d := 1) (by decide) (s_no (d := 0) hH (by decide) (by decide))) (fun r h8 hq9 => ?_)
    obtain ⟨rfl, R, rfl⟩ := hq9
    refine g_ireturn (ty := .int) rfl rfl rfl ?_
    exact ⟨rfl, no_R hR⟩
theorem s_copy12_in {h : sHp} {hd so sz co : Nat → Int32} {cl t0 : Nat → Int64} {f g : Nat → Option Nat} {p q i j n : Int32} {P Q : Nat} {x : Int32} (hH : bH h) (q4 : bR4 h hd so sz co cl f g) (hR : ¬ x = 1 → bR5 h) (a9 : h[72]? = some (.inl (1, 100, .inr (.inl t0)))) (hp : p.toInt = P) (hP : P < 8) (hq : q.toInt = Q) (hQ : Q < 8) {R : sHp → Prop} (hx : (hd P = 2 ∧ x = -2 ∧ R = bR5) ∨ ((hd P = 0 ∨ hd P = 1) ∧ hd Q = 2 ∧ x = -2 ∧ R = bR5) ∨ (hd P = 0 ∧ (hd Q = 0 ∨ hd Q = 1) ∧ x = -3 ∧ R = bR5) ∨ (hd P = 1 ∧ hd Q = 0 ∧ x = -3 ∧ R = bR5) ∨ (hd P = 1 ∧ hd Q = 1 ∧ ¬ so P = so Q ∧ x = -2 ∧ R = bR5) ∨ (hd P = 1 ∧ hd Q = 1 ∧ so P = so Q ∧ n.toInt < 0 ∧ x = -4 ∧ R = bR5) ∨ (hd P = 1 ∧ hd Q = 1 ∧ so P = so Q ∧ 0 ≤ n.toInt ∧ 0 ≤ (sz P).toInt ∧ (sz P).toInt ≤ 100 ∧ 0 ≤ (sz Q).toInt ∧ (sz Q).toInt ≤ 100 ∧ ¬ (0 ≤ i.toInt ∧ 0 ≤ j.toInt ∧ i.toInt + n.toInt ≤ (sz P).toInt ∧ j.toInt + n.toInt ≤ (sz Q).toInt) ∧ x = -5 ∧ R = bR5) ∨ (hd P = 1 ∧ hd Q = 1 ∧ so P = so Q ∧ 0 ≤ n.toInt ∧ 0 ≤ (sz P).toInt ∧ (sz P).toInt ≤ 100 ∧ 0 ≤ (sz Q).toInt ∧ (sz Q).toInt ≤ 100 ∧ 0 ≤ i.toInt ∧ 0 ≤ j.toInt ∧ i.toInt + n.toInt ≤ (sz P).toInt ∧ j.toInt + n.toInt ≤ (sz Q).toInt ∧ x = 1 ∧ R = fun h' => h' = (h.set 72 (.inl (1, 100, .inr (.inl (yp1 t0 cl (100 * P + i.toNatClampNeg) n.toNatClampNeg))))).set 71 (.inl (1, 800, .inr (.inl (yp2 cl (yp1 t0 cl (100 * P + i.toNatClampNeg) n.toNatClampNeg) (100 * Q + j.toNatClampNeg) n.toNatClampNeg)))))) : sDo 10 180 [.ref 60, .int p, .int q, .int i, .int j, .int n] h (fun r h' => r = some (.int x) ∧ R h') := by
  obtain ⟨a1, a2, a3, a4, a5, a6, a7, a8⟩ := q4
  obtain ⟨fs, hf, -⟩ := bObj60 hH
  obtain ⟨w14, f14, r14⟩ := bF60 hH hf (j := 14) (ty := .inr (2, 67)) (by decide +kernel)
  cases bT_one (by decide) (by decide +kernel) r14
  obtain ⟨w15, f15, r15⟩ := bF60 hH hf (j := 15) (ty := .inr (2, 68)) (by decide +kernel)
  cases bT_one (by decide) (by decide +kernel) r15
  obtain ⟨w16, f16, r16⟩ := bF60 hH hf (j := 16) (ty := .inr (2, 69)) (by decide +kernel)
  cases bT_one (by decide) (by decide +kernel) r16
  obtain ⟨w17, f17, r17⟩ := bF60 hH hf (j := 17) (ty := .inr (2, 70)) (by decide +kernel)
  cases bT_one (by decide) (by decide +kernel) r17
  obtain ⟨w18, f18, r18⟩ := bF60 hH hf (j := 18) (ty := .inr (2, 71)) (by decide +kernel)
  cases bT_one (by decide) (by decide +kernel) r18
  have pn : p.toNatClampNeg = P := i_nat hp
  obtain ⟨w19, f19, r19⟩ := bF60 hH hf (j := 19) (ty := .inr (2, 72)) (by decide +kernel)
  cases bT_one (by decide) (by decide +kernel) r19
  have qn : q.toNatClampNeg = Q := i_nat hq
  have e0 : (0 : Int32).toInt = 0 := rfl
  have nf : n.toInt ≤ (2147483647 : Int) := (aFull_ok n).2
  refine sDo_of (d := 9) (nL := 7) (L := [some (.ref 60), some (.int p), some (.int q), some (.int i), some (.int j), some (.int n), none]) rfl rfl ?_
  refine g_aload_n (i := 0) rfl rfl ?_
  refine g_iload_n (i := 1) rfl rfl ?_
  refine g_virt1 (Qc := fun r h' => h' = h ∧ r = some (.int 1)) rfl (by decide) rfl hf rfl (Nat.le_of_ble_eq_true rfl) (s_sh12 (by rw [if_pos (by omega)])) (fun r h9 hq9 => ?_)
  obtain ⟨rfl, rfl⟩ := hq9
  refine g_if_eq 16 rfl rfl (fun hc => absurd hc (by decide)) (fun _ => ?_)
  refine g_aload_n (i := 0) rfl rfl ?_
  refine g_iload_n (i := 2) rfl rfl ?_
  refine g_virt1 (Qc := fun r h' => h' = h9 ∧ r = some (.int 1)) rfl (by decide) rfl hf rfl (Nat.le_of_ble_eq_true rfl) (s_sh12 (by rw [if_pos (by omega)])) (fun r h8 hq9 => ?_)
  obtain ⟨rfl, rfl⟩ := hq9
  refine g_if_ne 22 rfl rfl (fun _ => ?_) (fun hc => absurd hc (by decide))
  refine g_aload_n (i := 0) rfl rfl ?_
  refine g_getfield (v := .ref 67) rfl hf (by decide) f14 ?_
  refine g_iload_n (i := 1) rfl rfl ?_
  refine g_ialv (n := 8) (f := hd) (v := hd P) rfl a4 (i_in (by omega) (by omega)) (congrArg hd pn) ?_
  refine g_iconst (n := 2) rfl ?_
  rcases hx with ⟨y1, rfl, rfl⟩ | ⟨y1, y2, rfl, rfl⟩ | ⟨y1, y2, rfl, rfl⟩ | ⟨y1, y2, rfl, rfl⟩ | ⟨y1, y2, y3, rfl, rfl⟩ | ⟨y1, y2, y3, y4, rfl, rfl⟩ | ⟨y1, y2, y3, y4, s1, s2, s3, s4, y5, rfl, rfl⟩ | ⟨y1, y2, y3, y4, s1, s2, s3, s4, i0, j0, i1, j1, rfl, rfl⟩
  · skip
    refine g_icmp_eq 77 rfl rfl (fun _ => ?_) (fun hc => absurd hc (by exact fun z => z y1))
    refine g_aload_n (i := 0) rfl rfl ?_
    refine g_bipush (n := (-2)) rfl ?_
    refine g_virt1 (Qc := fun r h' => r = some (.int (-2)) ∧ ∃ R, h' = List.set h8 61 (.inl (0, 8, .inl R))) rfl (by decide) rfl hf rfl (Nat.le_of_ble_eq_true rfl) (sDo_up (d := 1) (by decide) (s_no (d := 0) hH (by decide) (by decide))) (fun r h7 hq9 => ?_)
    obtain ⟨rfl, R, rfl⟩ := hq9
    refine g_ireturn (ty := .int) rfl rfl rfl ?_
    exact ⟨rfl, no_R (hR (by decide))⟩
  · skip
    refine g_icmp_eq 77 rfl rfl (fun hc => absurd hc (by intro z; rcases y1 with y1 | y1 <;> exact absurd (y1.symm.trans z) (by decide))) (fun _ => ?_)
    refine g_aload_n (i := 0) rfl rfl ?_
    refine g_getfield (v := .ref 67) rfl hf (by decide) f14 ?_
    refine g_iload_n (i := 2) rfl rfl ?_
    refine g_ialv (n := 8) (f := hd) (v := hd Q) rfl a4 (i_in (by omega) (by omega)) (congrArg hd qn) ?_
    refine g_iconst (n := 2) rfl ?_
    refine g_icmp_eq 77 rfl rfl (fun _ => ?_) (fun hc => absurd hc (by exact fun z => z y2))
    refine g_aload_n (i := 0) rfl rfl ?_
    refine g_bipush (n := (-2)) rfl ?_
    refine g_virt1 (Qc := fun r h' => r = some (.int (-2)) ∧ ∃ R, h' = List.set h8 61 (.inl (0, 8, .inl R))) rfl (by decide) rfl hf rfl (Nat.le_of_ble_eq_true rfl) (sDo_up (d := 1) (by decide) (s_no (d := 0) hH (by decide) (by decide))) (fun r h7 hq9 => ?_)
    obtain ⟨rfl, R, rfl⟩ := hq9
    refine g_ireturn (ty := .int) rfl rfl rfl ?_
    exact ⟨rfl, no_R (hR (by decide))⟩
  · skip
    refine g_icmp_eq 77 rfl rfl (fun hc => absurd hc (by exact fun z => absurd (y1.symm.trans z) (by decide))) (fun _ => ?_)
    refine g_aload_n (i := 0) rfl rfl ?_
    refine g_getfield (v := .ref 67) rfl hf (by decide) f14 ?_
    refine g_iload_n (i := 2) rfl rfl ?_
    refine g_ialv (n := 8) (f := hd) (v := hd Q) rfl a4 (i_in (by omega) (by omega)) (congrArg hd qn) ?_
    refine g_iconst (n := 2) rfl ?_
    refine g_icmp_eq 77 rfl rfl (fun hc => absurd hc (by intro z; rcases y2 with y2 | y2 <;> exact absurd (y2.symm.trans z) (by decide))) (fun _ => ?_)
    refine g_aload_n (i := 0) rfl rfl ?_
    refine g_getfield (v := .ref 67) rfl hf (by decide) f14 ?_
    refine g_iload_n (i := 1) rfl rfl ?_
    refine g_ialv (n := 8) (f := hd) (v := hd P) rfl a4 (i_in (by omega) (by omega)) (congrArg hd pn) ?_
    refine g_iconst (n := 1) rfl ?_
    refine g_icmp_ne 84 rfl rfl (fun _ => ?_) (fun hc => absurd hc (by exact fun z => absurd (y1.symm.trans z) (by decide)))
    refine g_aload_n (i := 0) rfl rfl ?_
    refine g_getfield (v := .ref 67) rfl hf (by decide) f14 ?_
    refine g_iload_n (i := 1) rfl rfl ?_
    refine g_ialv (n := 8) (f := hd) (v := hd P) rfl a4 (i_in (by omega) (by omega)) (congrArg hd pn) ?_
    refine g_if_eq 102 rfl rfl (fun _ => ?_) (fun hc => absurd hc (by exact fun z => z y1))
    refine g_aload_n (i := 0) rfl rfl ?_
    refine g_bipush (n := (-3)) rfl ?_
    refine g_virt1 (Qc := fun r h' => r = some (.int (-3)) ∧ ∃ R, h' = List.set h8 61 (.inl (0, 8, .inl R))) rfl (by decide) rfl hf rfl (Nat.le_of_ble_eq_true rfl) (sDo_up (d := 1) (by decide) (s_no (d := 0) hH (by decide) (by decide))) (fun r h7 hq9 => ?_)
    obtain ⟨rfl, R, rfl⟩ := hq9
    refine g_ireturn (ty := .int) rfl rfl rfl ?_
    exact ⟨rfl, no_R (hR (by decide))⟩
  · skip
    refine g_icmp_eq 77 rfl rfl (fun hc => absurd hc (by exact fun z => absurd (y1.symm.trans z) (by decide))) (fun _ => ?_)
    refine g_aload_n (i := 0) rfl rfl ?_
    refine g_getfield (v := .ref 67) rfl hf (by decide) f14 ?_
    refine g_iload_n (i := 2) rfl rfl ?_
    refine g_ialv (n := 8) (f := hd) (v := hd Q) rfl a4 (i_in (by omega) (by omega)) (congrArg hd qn) ?_
    refine g_iconst (n := 2) rfl ?_
    refine g_icmp_eq 77 rfl rfl (fun hc => absurd hc (by exact fun z => absurd (y2.symm.trans z) (by decide))) (fun _ => ?_)
    refine g_aload_n (i := 0) rfl rfl ?_
    refine g_getfield (v := .ref 67) rfl hf (by decide) f14 ?_
    refine g_iload_n (i := 1) rfl rfl ?_
    refine g_ialv (n := 8) (f := hd) (v := hd P) rfl a4 (i_in (by omega) (by omega)) (congrArg hd pn) ?_
    refine g_iconst (n := 1) rfl ?_
    refine g_icmp_ne 84 rfl rfl (fun hc => absurd hc (by exact fun z => z y1)) (fun _ => ?_)
    refine g_aload_n (i := 0) rfl rfl ?_
    refine g_getfield (v := .ref 67) rfl hf (by decide) f14 ?_
    refine g_iload_n (i := 2) rfl rfl ?_
    refine g_ialv (n := 8) (f := hd) (v := hd Q) rfl a4 (i_in (by omega) (by omega)) (congrArg hd qn) ?_
    refine g_iconst (n := 1) rfl ?_
    refine g_icmp_ne 84 rfl rfl (fun _ => ?_) (fun hc => absurd hc (by exact fun z => absurd (y2.symm.trans z) (by decide)))
    refine g_aload_n (i := 0) rfl rfl ?_
    refine g_getfield (v := .ref 67) rfl hf (by decide) f14 ?_
    refine g_iload_n (i := 1) rfl rfl ?_
    refine g_ialv (n := 8) (f := hd) (v := hd P) rfl a4 (i_in (by omega) (by omega)) (congrArg hd pn) ?_
    refine g_if_eq 102 rfl rfl (fun hc => absurd hc (by exact fun z => absurd (y1.symm.trans z) (by decide))) (fun _ => ?_)
    refine g_aload_n (i := 0) rfl rfl ?_
    refine g_getfield (v := .ref 67) rfl hf (by decide) f14 ?_
    refine g_iload_n (i := 2) rfl rfl ?_
    refine g_ialv (n := 8) (f := hd) (v := hd Q) rfl a4 (i_in (by omega) (by omega)) (congrArg hd qn) ?_
    refine g_if_ne 109 rfl rfl (fun hc => absurd hc (by exact fun z => z y2)) (fun _ => ?_)
    refine g_aload_n (i := 0) rfl rfl ?_
    refine g_bipush (n := (-3)) rfl ?_
    refine g_virt1 (Qc := fun r h' => r = some (.int (-3)) ∧ ∃ R, h' = List.set h8 61 (.inl (0, 8, .inl R))) rfl (by decide) rfl hf rfl (Nat.le_of_ble_eq_true rfl) (sDo_up (d := 1) (by decide) (s_no (d := 0) hH (by decide) (by decide))) (fun r h7 hq9 => ?_)
    obtain ⟨rfl, R, rfl⟩ := hq9
    refine g_ireturn (ty := .int) rfl rfl rfl ?_
    exact ⟨rfl, no_R (hR (by decide))⟩
  · skip
    refine g_icmp_eq 77 rfl rfl (fun hc => absurd hc (by exact fun z => absurd (y1.symm.trans z) (by decide))) (fun _ => ?_)
    refine g_aload_n (i := 0) rfl rfl ?_
    refine g_getfield (v := .ref 67) rfl hf (by decide) f14 ?_
    refine g_iload_n (i := 2) rfl rfl ?_
    refine g_ialv (n := 8) (f := hd) (v := hd Q) rfl a4 (i_in (by omega) (by omega)) (congrArg hd qn) ?_
    refine g_iconst (n := 2) rfl ?_
    refine g_icmp_eq 77 rfl rfl (fun hc => absurd hc (by exact fun z => absurd (y2.symm.trans z) (by decide))) (fun _ => ?_)
    refine g_aload_n (i := 0) rfl rfl ?_
    refine g_getfield (v := .ref 67) rfl hf (by decide) f14 ?_
    refine g_iload_n (i := 1) rfl rfl ?_
    refine g_ialv (n := 8) (f := hd) (v := hd P) rfl a4 (i_in (by omega) (by omega)) (congrArg hd pn) ?_
    refine g_iconst (n := 1) rfl ?_
    refine g_icmp_ne 84 rfl rfl (fun hc => absurd hc (by exact fun z => z y1)) (fun _ => ?_)
    refine g_aload_n (i := 0) rfl rfl ?_
    refine g_getfield (v := .ref 67) rfl hf (by decide) f14 ?_
    refine g_iload_n (i := 2) rfl rfl ?_
    refine g_ialv (n := 8) (f := hd) (v := hd Q) rfl a4 (i_in (by omega) (by omega)) (congrArg hd qn) ?_
    refine g_iconst (n := 1) rfl ?_
    refine g_icmp_ne 84 rfl rfl (fun hc => absurd hc (by exact fun z => z y2)) (fun _ => ?_)
    refine g_aload_n (i := 0) rfl rfl ?_
    refine g_getfield (v := .ref 68) rfl hf (by decide) f15 ?_
    refine g_iload_n (i := 1) rfl rfl ?_
    refine g_ialv (n := 8) (f := so) (v := so P) rfl a5 (i_in (by omega) (by omega)) (congrArg so pn) ?_
    refine g_aload_n (i := 0) rfl rfl ?_
    refine g_getfield (v := .ref 68) rfl hf (by decide) f15 ?_
    refine g_iload_n (i := 2) rfl rfl ?_
    refine g_ialv (n := 8) (f := so) (v := so Q) rfl a5 (i_in (by omega) (by omega)) (congrArg so qn) ?_
    refine g_icmp_eq 84 rfl rfl (fun hc => absurd hc (by exact y3)) (fun _ => ?_)
    refine g_aload_n (i := 0) rfl rfl ?_
    refine g_bipush (n := (-2)) rfl ?_
    refine g_virt1 (Qc := fun r h' => r = some (.int (-2)) ∧ ∃ R, h' = List.set h8 61 (.inl (0, 8, .inl R))) rfl (by decide) rfl hf rfl (Nat.le_of_ble_eq_true rfl) (sDo_up (d := 1) (by decide) (s_no (d := 0) hH (by decide) (by decide))) (fun r h7 hq9 => ?_)
    obtain ⟨rfl, R, rfl⟩ := hq9
    refine g_ireturn (ty := .int) rfl rfl rfl ?_
    exact ⟨rfl, no_R (hR (by decide))⟩
  · skip
    refine g_icmp_eq 77 rfl rfl (fun hc => absurd hc (by exact fun z => absurd (y1.symm.trans z) (by decide))) (fun _ => ?_)
    refine g_aload_n (i := 0) rfl rfl ?_
    refine g_getfield (v := .ref 67) rfl hf (by decide) f14 ?_
    refine g_iload_n (i := 2) rfl rfl ?_
    refine g_ialv (n := 8) (f := hd) (v := hd Q) rfl a4 (i_in (by omega) (by omega)) (congrArg hd qn) ?_
    refine g_iconst (n := 2) rfl ?_
    refine g_icmp_eq 77 rfl rfl (fun hc => absurd hc (by exact fun z => absurd (y2.symm.trans z) (by decide))) (fun _ => ?_)
    refine g_aload_n (i := 0) rfl rfl ?_
    refine g_getfield (v := .ref 67) rfl hf (by decide) f14 ?_
    refine g_iload_n (i := 1) rfl rfl ?_
    refine g_ialv (n := 8) (f := hd) (v := hd P) rfl a4 (i_in (by omega) (by omega)) (congrArg hd pn) ?_
    refine g_iconst (n := 1) rfl ?_
    refine g_icmp_ne 84 rfl rfl (fun hc => absurd hc (by exact fun z => z y1)) (fun _ => ?_)
    refine g_aload_n (i := 0) rfl rfl ?_
    refine g_getfield (v := .ref 67) rfl hf (by decide) f14 ?_
    refine g_iload_n (i := 2) rfl rfl ?_
    refine g_ialv (n := 8) (f := hd) (v := hd Q) rfl a4 (i_in (by omega) (by omega)) (congrArg hd qn) ?_
    refine g_iconst (n := 1) rfl ?_
    refine g_icmp_ne 84 rfl rfl (fun hc => absurd hc (by exact fun z => z y2)) (fun _ => ?_)
    refine g_aload_n (i := 0) rfl rfl ?_
    refine g_getfield (v := .ref 68) rfl hf (by decide) f15 ?_
    refine g_iload_n (i := 1) rfl rfl ?_
    refine g_ialv (n := 8) (f := so) (v := so P) rfl a5 (i_in (by omega) (by omega)) (congrArg so pn) ?_
    refine g_aload_n (i := 0) rfl rfl ?_
    refine g_getfield (v := .ref 68) rfl hf (by decide) f15 ?_
    refine g_iload_n (i := 2) rfl rfl ?_
    refine g_ialv (n := 8) (f := so) (v := so Q) rfl a5 (i_in (by omega) (by omega)) (congrArg so qn) ?_
    refine g_icmp_eq 84 rfl rfl (fun _ => ?_) (fun hc => absurd hc (by exact fun z => z y3))
    refine g_aload_n (i := 0) rfl rfl ?_
    refine g_getfield (v := .ref 67) rfl hf (by decide) f14 ?_
    refine g_iload_n (i := 1) rfl rfl ?_
    refine g_ialv (n := 8) (f := hd) (v := hd P) rfl a4 (i_in (by omega) (by omega)) (congrArg hd pn) ?_
    refine g_if_eq 102 rfl rfl (fun hc => absurd hc (by exact fun z => absurd (y1.symm.trans z) (by decide))) (fun _ => ?_)
    refine g_aload_n (i := 0) rfl rfl ?_
    refine g_getfield (v := .ref 67) rfl hf (by decide) f14 ?_
    refine g_iload_n (i := 2) rfl rfl ?_
    refine g_ialv (n := 8) (f := hd) (v := hd Q) rfl a4 (i_in (by omega) (by omega)) (congrArg hd qn) ?_
    refine g_if_ne 109 rfl rfl (fun _ => ?_) (fun hc => absurd hc (by exact fun z => absurd (y2.symm.trans z) (by decide)))
    refine g_iload (i := 5) rfl rfl ?_
    refine g_if_ge 121 rfl rfl (fun hc => absurd hc (by rw [i_le, e0]; omega)) (fun _ => ?_)
    refine g_aload_n (i := 0) rfl rfl ?_
    refine g_bipush (n := (-4)) rfl ?_
    refine g_virt1 (Qc := fun r h' => r = some (.int (-4)) ∧ ∃ R, h' = List.set h8 61 (.inl (0, 8, .inl R))) rfl (by decide) rfl hf rfl (Nat.le_of_ble_eq_true rfl) (sDo_up (d := 1) (by decide) (s_no (d := 0) hH (by decide) (by decide))) (fun r h7 hq9 => ?_)
    obtain ⟨rfl, R, rfl⟩ := hq9
    refine g_ireturn (ty := .int) rfl rfl rfl ?_
    exact ⟨rfl, no_R (hR (by decide))⟩
  · skip
    refine g_icmp_eq 77 rfl rfl (fun hc => absurd hc (by exact fun z => absurd (y1.symm.trans z) (by decide))) (fun _ => ?_)
    refine g_aload_n (i := 0) rfl rfl ?_
    refine g_getfield (v := .ref 67) rfl hf (by decide) f14 ?_
    refine g_iload_n (i := 2) rfl rfl ?_
    refine g_ialv (n := 8) (f := hd) (v := hd Q) rfl a4 (i_in (by omega) (by omega)) (congrArg hd qn) ?_
    refine g_iconst (n := 2) rfl ?_
    refine g_icmp_eq 77 rfl rfl (fun hc => absurd hc (by exact fun z => absurd (y2.symm.trans z) (by decide))) (fun _ => ?_)
    refine g_aload_n (i := 0) rfl rfl ?_
    refine g_getfield (v := .ref 67) rfl hf (by decide) f14 ?_
    refine g_iload_n (i := 1) rfl rfl ?_
    refine g_ialv (n := 8) (f := hd) (v := hd P) rfl a4 (i_in (by omega) (by omega)) (congrArg hd pn) ?_
    refine g_iconst (n := 1) rfl ?_
    refine g_icmp_ne 84 rfl rfl (fun hc => absurd hc (by exact fun z => z y1)) (fun _ => ?_)
    refine g_aload_n (i := 0) rfl rfl ?_
    refine g_getfield (v := .ref 67) rfl hf (by decide) f14 ?_
    refine g_iload_n (i := 2) rfl rfl ?_
    refine g_ialv (n := 8) (f := hd) (v := hd Q) rfl a4 (i_in (by omega) (by omega)) (congrArg hd qn) ?_
    refine g_iconst (n := 1) rfl ?_
    refine g_icmp_ne 84 rfl rfl (fun hc => absurd hc (by exact fun z => z y2)) (fun _ => ?_)
    refine g_aload_n (i := 0) rfl rfl ?_
    refine g_getfield (v := .ref 68) rfl hf (by decide) f15 ?_
    refine g_iload_n (i := 1) rfl rfl ?_
    refine g_ialv (n := 8) (f := so) (v := so P) rfl a5 (i_in (by omega) (by omega)) (congrArg so pn) ?_
    refine g_aload_n (i := 0) rfl rfl ?_
    refine g_getfield (v := .ref 68) rfl hf (by decide) f15 ?_
    refine g_iload_n (i := 2) rfl rfl ?_
    refine g_ialv (n := 8) (f := so) (v := so Q) rfl a5 (i_in (by omega) (by omega)) (congrArg so qn) ?_
    refine g_icmp_eq 84 rfl rfl (fun _ => ?_) (fun hc => absurd hc (by exact fun z => z y3))
    refine g_aload_n (i := 0) rfl rfl ?_
    refine g_getfield (v := .ref 67) rfl hf (by decide) f14 ?_
    refine g_iload_n (i := 1) rfl rfl ?_
    refine g_ialv (n := 8) (f := hd) (v := hd P) rfl a4 (i_in (by omega) (by omega)) (congrArg hd pn) ?_
    refine g_if_eq 102 rfl rfl (fun hc => absurd hc (by exact fun z => absurd (y1.symm.trans z) (by decide))) (fun _ => ?_)
    refine g_aload_n (i := 0) rfl rfl ?_
    refine g_getfield (v := .ref 67) rfl hf (by decide) f14 ?_
    refine g_iload_n (i := 2) rfl rfl ?_
    refine g_ialv (n := 8) (f := hd) (v := hd Q) rfl a4 (i_in (by omega) (by omega)) (congrArg hd qn) ?_
    refine g_if_ne 109 rfl rfl (fun _ => ?_) (fun hc => absurd hc (by exact fun z => absurd (y2.symm.trans z) (by decide)))
    refine g_iload (i := 5) rfl rfl ?_
    refine g_if_ge 121 rfl rfl (fun _ => ?_) (fun hc => absurd hc (by rw [i_le, e0]; omega))
    have m1 : (sz P - n).toInt = (sz P).toInt - n.toInt := i_sub (by omega) (by omega)
    have m2 : (sz Q - n).toInt = (sz Q).toInt - n.toInt := i_sub (by omega) (by omega)
    refine g_iload_n (i := 3) rfl rfl ?_
    refine g_if_lt 157 rfl rfl (fun c1 => ?_) (fun c1 => ?_)
    · skip
      refine g_aload_n (i := 0) rfl rfl ?_
      refine g_bipush (n := (-5)) rfl ?_
      refine g_virt1 (Qc := fun r h' => r = some (.int (-5)) ∧ ∃ R, h' = List.set h8 61 (.inl (0, 8, .inl R))) rfl (by decide) rfl hf rfl (Nat.le_of_ble_eq_true rfl) (sDo_up (d := 1) (by decide) (s_no (d := 0) hH (by decide) (by decide))) (fun r h7 hq9 => ?_)
      obtain ⟨rfl, R, rfl⟩ := hq9
      refine g_ireturn (ty := .int) rfl rfl rfl ?_
      exact ⟨rfl, no_R (hR (by decide))⟩
    · skip
      rw [i_lt, e0] at c1
      refine g_iload (i := 4) rfl rfl ?_
      refine g_if_lt 157 rfl rfl (fun c2 => ?_) (fun c2 => ?_)
      · skip
        refine g_aload_n (i := 0) rfl rfl ?_
        refine g_bipush (n := (-5)) rfl ?_
        refine g_virt1 (Qc := fun r h' => r = some (.int (-5)) ∧ ∃ R, h' = List.set h8 61 (.inl (0, 8, .inl R))) rfl (by decide) rfl hf rfl (Nat.le_of_ble_eq_true rfl) (sDo_up (d := 1) (by decide) (s_no (d := 0) hH (by decide) (by decide))) (fun r h7 hq9 => ?_)
        obtain ⟨rfl, R, rfl⟩ := hq9
        refine g_ireturn (ty := .int) rfl rfl rfl ?_
        exact ⟨rfl, no_R (hR (by decide))⟩
      · skip
        rw [i_lt, e0] at c2
        refine g_iload_n (i := 3) rfl rfl ?_
        refine g_aload_n (i := 0) rfl rfl ?_
        refine g_getfield (v := .ref 69) rfl hf (by decide) f16 ?_
        refine g_iload_n (i := 1) rfl rfl ?_
        refine g_ialv (n := 8) (f := sz) (v := sz P) rfl a6 (i_in (by omega) (by omega)) (congrArg sz pn) ?_
        refine g_iload (i := 5) rfl rfl ?_
        refine g_isub rfl ?_
        refine g_icmp_gt 157 rfl rfl (fun c3 => ?_) (fun c3 => ?_)
        · skip
          refine g_aload_n (i := 0) rfl rfl ?_
          refine g_bipush (n := (-5)) rfl ?_
          refine g_virt1 (Qc := fun r h' => r = some (.int (-5)) ∧ ∃ R, h' = List.set h8 61 (.inl (0, 8, .inl R))) rfl (by decide) rfl hf rfl (Nat.le_of_ble_eq_true rfl) (sDo_up (d := 1) (by decide) (s_no (d := 0) hH (by decide) (by decide))) (fun r h7 hq9 => ?_)
          obtain ⟨rfl, R, rfl⟩ := hq9
          refine g_ireturn (ty := .int) rfl rfl rfl ?_
          exact ⟨rfl, no_R (hR (by decide))⟩
        · skip
          rw [i_lt, m1] at c3
          refine g_iload (i := 4) rfl rfl ?_
          refine g_aload_n (i := 0) rfl rfl ?_
          refine g_getfield (v := .ref 69) rfl hf (by decide) f16 ?_
          refine g_iload_n (i := 2) rfl rfl ?_
          refine g_ialv (n := 8) (f := sz) (v := sz Q) rfl a6 (i_in (by omega) (by omega)) (congrArg sz qn) ?_
          refine g_iload (i := 5) rfl rfl ?_
          refine g_isub rfl ?_
          refine g_icmp_le 164 rfl rfl (fun hc => absurd hc (by rw [i_le, m2]; omega)) (fun _ => ?_)
          refine g_aload_n (i := 0) rfl rfl ?_
          refine g_bipush (n := (-5)) rfl ?_
          refine g_virt1 (Qc := fun r h' => r = some (.int (-5)) ∧ ∃ R, h' = List.set h8 61 (.inl (0, 8, .inl R))) rfl (by decide) rfl hf rfl (Nat.le_of_ble_eq_true rfl) (sDo_up (d := 1) (by decide) (s_no (d := 0) hH (by decide) (by decide))) (fun r h7 hq9 => ?_)
          obtain ⟨rfl, R, rfl⟩ := hq9
          refine g_ireturn (ty := .int) rfl rfl rfl ?_
          exact ⟨rfl, no_R (hR (by decide))⟩
  · skip
    refine g_icmp_eq 77 rfl rfl (fun hc => absurd hc (by exact fun z => absurd (y1.symm.trans z) (by decide))) (fun _ => ?_)
    refine g_aload_n (i := 0) rfl rfl ?_
    refine g_getfield (v := .ref 67) rfl hf (by decide) f14 ?_
    refine g_iload_n (i := 2) rfl rfl ?_
    refine g_ialv (n := 8) (f := hd) (v := hd Q) rfl a4 (i_in (by omega) (by omega)) (congrArg hd qn) ?_
    refine g_iconst (n := 2) rfl ?_
    refine g_icmp_eq 77 rfl rfl (fun hc => absurd hc (by exact fun z => absurd (y2.symm.trans z) (by decide))) (fun _ => ?_)
    refine g_aload_n (i := 0) rfl rfl ?_
    refine g_getfield (v := .ref 67) rfl hf (by decide) f14 ?_
    refine g_iload_n (i := 1) rfl rfl ?_
    refine g_ialv (n := 8) (f := hd) (v := hd P) rfl a4 (i_in (by omega) (by omega)) (congrArg hd pn) ?_
    refine g_iconst (n := 1) rfl ?_
    refine g_icmp_ne 84 rfl rfl (fun hc => absurd hc (by exact fun z => z y1)) (fun _ => ?_)
    refine g_aload_n (i := 0) rfl rfl ?_
    refine g_getfield (v := .ref 67) rfl hf (by decide) f14 ?_
    refine g_iload_n (i := 2) rfl rfl ?_
    refine g_ialv (n := 8) (f := hd) (v := hd Q) rfl a4 (i_in (by omega) (by omega)) (congrArg hd qn) ?_
    refine g_iconst (n := 1) rfl ?_
    refine g_icmp_ne 84 rfl rfl (fun hc => absurd hc (by exact fun z => z y2)) (fun _ => ?_)
    refine g_aload_n (i := 0) rfl rfl ?_
    refine g_getfield (v := .ref 68) rfl hf (by decide) f15 ?_
    refine g_iload_n (i := 1) rfl rfl ?_
    refine g_ialv (n := 8) (f := so) (v := so P) rfl a5 (i_in (by omega) (by omega)) (congrArg so pn) ?_
    refine g_aload_n (i := 0) rfl rfl ?_
    refine g_getfield (v := .ref 68) rfl hf (by decide) f15 ?_
    refine g_iload_n (i := 2) rfl rfl ?_
    refine g_ialv (n := 8) (f := so) (v := so Q) rfl a5 (i_in (by omega) (by omega)) (congrArg so qn) ?_
    refine g_icmp_eq 84 rfl rfl (fun _ => ?_) (fun hc => absurd hc (by exact fun z => z y3))
    refine g_aload_n (i := 0) rfl rfl ?_
    refine g_getfield (v := .ref 67) rfl hf (by decide) f14 ?_
    refine g_iload_n (i := 1) rfl rfl ?_
    refine g_ialv (n := 8) (f := hd) (v := hd P) rfl a4 (i_in (by omega) (by omega)) (congrArg hd pn) ?_
    refine g_if_eq 102 rfl rfl (fun hc => absurd hc (by exact fun z => absurd (y1.symm.trans z) (by decide))) (fun _ => ?_)
    refine g_aload_n (i := 0) rfl rfl ?_
    refine g_getfield (v := .ref 67) rfl hf (by decide) f14 ?_
    refine g_iload_n (i := 2) rfl rfl ?_
    refine g_ialv (n := 8) (f := hd) (v := hd Q) rfl a4 (i_in (by omega) (by omega)) (congrArg hd qn) ?_
    refine g_if_ne 109 rfl rfl (fun _ => ?_) (fun hc => absurd hc (by exact fun z => absurd (y2.symm.trans z) (by decide)))
    refine g_iload (i := 5) rfl rfl ?_
    refine g_if_ge 121 rfl rfl (fun _ => ?_) (fun hc => absurd hc (by rw [i_le, e0]; omega))
    have m1 : (sz P - n).toInt = (sz P).toInt - n.toInt := i_sub (by omega) (by omega)
    have m2 : (sz Q - n).toInt = (sz Q).toInt - n.toInt := i_sub (by omega) (by omega)
    have in_ : i.toInt = (i.toNatClampNeg : Int) := by
      show i.toInt = ((i.toInt.toNat : Nat) : Int)
      omega
    have jn : j.toInt = (j.toNatClampNeg : Int) := by
      show j.toInt = ((j.toInt.toNat : Nat) : Int)
      omega
    have nn : n.toInt = (n.toNatClampNeg : Int) := by
      show n.toInt = ((n.toInt.toNat : Nat) : Int)
      omega
    refine g_iload_n (i := 3) rfl rfl ?_
    refine g_if_lt 157 rfl rfl (fun hc => absurd hc (by rw [i_lt, e0]; omega)) (fun _ => ?_)
    refine g_iload (i := 4) rfl rfl ?_
    refine g_if_lt 157 rfl rfl (fun hc => absurd hc (by rw [i_lt, e0]; omega)) (fun _ => ?_)
    refine g_iload_n (i := 3) rfl rfl ?_
    refine g_aload_n (i := 0) rfl rfl ?_
    refine g_getfield (v := .ref 69) rfl hf (by decide) f16 ?_
    refine g_iload_n (i := 1) rfl rfl ?_
    refine g_ialv (n := 8) (f := sz) (v := sz P) rfl a6 (i_in (by omega) (by omega)) (congrArg sz pn) ?_
    refine g_iload (i := 5) rfl rfl ?_
    refine g_isub rfl ?_
    refine g_icmp_gt 157 rfl rfl (fun hc => absurd hc (by rw [i_lt, m1]; omega)) (fun _ => ?_)
    refine g_iload (i := 4) rfl rfl ?_
    refine g_aload_n (i := 0) rfl rfl ?_
    refine g_getfield (v := .ref 69) rfl hf (by decide) f16 ?_
    refine g_iload_n (i := 2) rfl rfl ?_
    refine g_ialv (n := 8) (f := sz) (v := sz Q) rfl a6 (i_in (by omega) (by omega)) (congrArg sz qn) ?_
    refine g_iload (i := 5) rfl rfl ?_
    refine g_isub rfl ?_
    refine g_icmp_le 164 rfl rfl (fun _ => ?_) (fun hc => absurd hc (by rw [i_le, m2]; omega))
    refine g_iconst (n := 0) rfl ?_
    refine g_istore (i := 6) (L1 := [some (.ref 60), some (.int p), some (.int q), some (.int i), some (.int j), some (.int n), some (.int (Int32.ofInt 0))]) rfl (Nat.le_of_ble_eq_true rfl) rfl ?_
    have h0 := s_cp1_go (d := 9) (q := q) (j := j) (Q := fun r h' => r = some (.int 1) ∧ h' = (h8.set 72 (.inl (1, 100, .inr (.inl (yp1 t0 cl (100 * P + i.toNatClampNeg) n.toNatClampNeg))))).set 71 (.inl (1, 800, .inr (.inl (yp2 cl (yp1 t0 cl (100 * P + i.toNatClampNeg) n.toNatClampNeg) (100 * Q + j.toNatClampNeg) n.toNatClampNeg))))) hf f18 f19 a8 a9 hp in_ nn hP (by omega) (fun k => ?_) (n.toNatClampNeg + 1) (Int32.ofInt 0) 0 rfl (by omega) (by omega)
    · rw [yp1_0, s_set_self a9] at h0
      exact h0
    · skip
      refine g_iconst (n := 0) rfl ?_
      refine g_istore (i := 6) (L1 := [some (.ref 60), some (.int p), some (.int q), some (.int i), some (.int j), some (.int n), some (.int (Int32.ofInt 0))]) rfl (Nat.le_of_ble_eq_true rfl) rfl ?_
      have c8 : (h8.set 72 (.inl (1, 100, .inr (.inl (yp1 t0 cl (100 * P + i.toNatClampNeg) n.toNatClampNeg)))))[71]? = some (.inl (1, 800, .inr (.inl cl))) := by rw [s_set_ne (by decide)]; exact a8
      have h1 := s_cp2_go (d := 9) (p := p) (i := i) (Q := fun r h' => r = some (.int 1) ∧ h' = (h8.set 72 (.inl (1, 100, .inr (.inl (yp1 t0 cl (100 * P + i.toNatClampNeg) n.toNatClampNeg))))).set 71 (.inl (1, 800, .inr (.inl (yp2 cl (yp1 t0 cl (100 * P + i.toNatClampNeg) n.toNatClampNeg) (100 * Q + j.toNatClampNeg) n.toNatClampNeg))))) (by rw [s_set_ne (by decide)]; exact hf) f18 f19 c8 (s_set_eq a9) hq jn nn hQ (by omega) ⟨rfl, rfl⟩ (n.toNatClampNeg + 1) (Int32.ofInt 0) 0 rfl (by omega) (by omega)
      rw [yp2_0, s_set_self c8] at h1
      exact h1
/-- the relation behind a copy -/
theorem el_copy {h : sHp} {hd so sz co : Nat → Int32} {cl t0 T' : Nat → Int64} {f g : Nat → Option Nat} {P Q I J N : Nat} {op zp oq zq : Int32} {elp elq : Nat → Int64} (q4 : bR4 h hd so sz co cl f g) (q5 : ∀ s, s < 8 → bRS hd so sz co cl g h s) (hP : P < 8) (hQ : Q < 8) (b3 : bSh hd so sz co cl g h P op zp elp) (d1 : h[44 + 2 * Q]? = some (.inr (7, [.int oq, .int zq, .ref (45 + 2 * Q)]))) (d2 : h[45 + 2 * Q]? = some (.inl (1, 100, .inr (.inl elq)))) (d3 : bSh hd so sz co cl g h Q oq zq elq) (h1 : hd P = 1) (hI : ((I + N : Nat) : Int) ≤ zp.toInt) (hJ : ((J + N : Nat) : Int) ≤ zq.toInt) (zq1 : zq.toInt ≤ 100) : bR5 (((h.set (45 + 2 * Q) (.inl (1, 100, .inr (.inl (va_cpy elp elq I J N))))).set 72 (.inl (1, 100, .inr (.inl T')))).set 71 (.inl (1, 800, .inr (.inl (yp2 cl (yp1 t0 cl (100 * P + I) N) (100 * Q + J) N))))) := by
  obtain ⟨a1, a2, a3, a4, a5, a6, a7, a8⟩ := q4
  obtain ⟨-, -, -, -, elP, -⟩ := bSh_1 b3 h1
  refine ⟨hd, so, sz, co, yp2 cl (yp1 t0 cl (100 * P + I) N) (100 * Q + J) N, f, g, ⟨?_, a2, ?_, ?_, ?_, ?_, ?_, ?_⟩, fun t ht => ?_⟩
  · rw [s_set_ne (by omega), s_set_ne (by omega), s_set_ne (by omega)]; exact a1
  · rw [s_set_ne (by omega), s_set_ne (by omega), s_set_ne (by omega)]; exact a3
  · rw [s_set_ne (by omega), s_set_ne (by omega), s_set_ne (by omega)]; exact a4
  · rw [s_set_ne (by omega), s_set_ne (by omega), s_set_ne (by omega)]; exact a5
  · rw [s_set_ne (by omega), s_set_ne (by omega), s_set_ne (by omega)]; exact a6
  · rw [s_set_ne (by omega), s_set_ne (by omega), s_set_ne (by omega)]; exact a7
  · exact s_set_eq (by rw [s_set_ne (by omega), s_set_ne (by omega)]; exact a8)
  · by_cases e : t = Q
    · subst e
      refine ⟨oq, zq, va_cpy elp elq I J N, by rw [s_set_ne (by omega), s_set_ne (by omega), s_set_ne (by omega)]; exact d1, by rw [s_set_ne (by omega), s_set_ne (by omega)]; exact s_set_eq d2, ?_⟩
      rcases bSh_set (p := 71) (c := .inl (1, 800, .inr (.inl (yp2 cl (yp1 t0 cl (100 * P + I) N) (100 * t + J) N)))) (bSh_set (p := 72) (c := .inl (1, 100, .inr (.inl T'))) (bSh_set (p := 45 + 2 * t) (c := .inl (1, 100, .inr (.inl (va_cpy elp elq I J N)))) d3 (by omega)) (by decide)) (by decide) with x | ⟨x1, x2, x3, x4, x5, x6, x7, x8, x9⟩ | x
      · exact Or.inl x
      · refine Or.inr (Or.inl ⟨x1, x2, x3, x4, x5, x6, x7, x8, fun i hi => ?_⟩)
        unfold va_cpy yp2
        by_cases ei : J ≤ i ∧ i < J + N
        · rw [if_pos ei, if_pos (show 100 * t + J ≤ 100 * t + i ∧ 100 * t + i < 100 * t + J + N by omega)]
          unfold yp1
          rw [if_pos (show 100 * t + i - (100 * t + J) < N by omega), elP (I + (i - J)) (by omega)]
          exact congrArg cl (by omega)
        · rw [if_neg ei, if_neg (show ¬ (100 * t + J ≤ 100 * t + i ∧ 100 * t + i < 100 * t + J + N) by omega)]
          exact x9 i hi
      · exact Or.inr (Or.inr x)
    · obtain ⟨ot', z', el', r1, r2, r3⟩ := bRS_set (p := 71) (c := .inl (1, 800, .inr (.inl (yp2 cl (yp1 t0 cl (100 * P + I) N) (100 * Q + J) N)))) (bRS_set (p := 72) (c := .inl (1, 100, .inr (.inl T'))) (bRS_set (p := 45 + 2 * Q) (c := .inl (1, 100, .inr (.inl (va_cpy elp elq I J N)))) (q5 t ht) (by omega) (by omega) (by omega)) (by decide) (by omega) (by omega)) (by decide) (by omega) (by omega)
      refine ⟨ot', z', el', r1, r2, ?_⟩
      rcases r3 with x | ⟨x1, x2, x3, x4, x5, x6, x7, x8, x9⟩ | x
      · exact Or.inl x
      · refine Or.inr (Or.inl ⟨x1, x2, x3, x4, x5, x6, x7, x8, fun i hi => ?_⟩)
        unfold yp2
        rw [if_neg (by omega)]
        exact x9 i hi
      · exact Or.inr (Or.inr x)
theorem pr_copy (p q i j n : Int32) : bPair 116 180 [.int p, .int q, .int i, .int j, .int n] := by
  have c1 : ∀ h, bH h → sDo 10 116 (.ref 0 :: [.int p, .int q, .int i, .int j, .int n]) h (fun _ h' => bH h' ∧ h'.length ≤ h.length + 1) := fun h hH => pr_use ch_X11_copy_0 (by decide +kernel) (by decide +kernel) rfl hH ⟨bt0 hH, vI0 p, vI0 q, vI0 i, vI0 j, vI0 n, trivial⟩
  have c2 : ∀ h, bH h → sDo 10 180 (.ref 60 :: [.int p, .int q, .int i, .int j, .int n]) h (fun _ h' => bH h' ∧ h'.length ≤ h.length + 1) := fun h hH => pr_use ch_X12_copy_0 (by decide +kernel) (by decide +kernel) rfl hH ⟨bt60 hH, vI0 p, vI0 q, vI0 i, vI0 j, vI0 n, trivial⟩
  intro h hH hR
  have ck := hR
  obtain ⟨hd, so, sz, co, cl, f, g, q4, q5⟩ := ck
  have val : ∀ (s : Int32) (S : Nat), s.toInt = S → S < 8 → ∃ z, nrOf hd S = z ∧ (z = 0 ∨ z = -2 ∨ z = -3) ∧ sDo 2 161 [.ref 0, .int s] h (fun r h' => h' = h ∧ r = some (.int z)) := by
    intro s S hs hS
    obtain ⟨ot, z, el, b1, b2, b3⟩ := q5 S hS
    refine ⟨_, rfl, ?_, s_noIn (d := 0) hH q4 hs hS b1 b3⟩
    unfold nrOf
    split
    · exact Or.inl rfl
    · split
      · exact Or.inr (Or.inl rfl)
      · exact Or.inr (Or.inr rfl)
  have any : ∀ (s : Int32), ∃ z, (z = 0 ∨ z = -2 ∨ z = -3 ∨ z = -1) ∧ sDo 2 161 [.ref 0, .int s] h (fun r h' => h' = h ∧ r = some (.int z)) := by
    intro s
    by_cases hs : 0 ≤ s.toInt ∧ s.toInt < 8
    · obtain ⟨z, -, z1, z2⟩ := val s s.toInt.toNat (by omega) (by omega)
      exact ⟨z, by rcases z1 with e | e | e <;> simp only [e, true_or, or_true], z2⟩
    · exact ⟨-1, Or.inr (Or.inr (Or.inr rfl)), s_noOut (d := 0) hs⟩
  have out : ¬ ((0 ≤ p.toInt ∧ p.toInt < 8) ∧ (0 ≤ q.toInt ∧ q.toInt < 8)) → ∀ np nq, eaOf np nq = -1 → sDo 2 161 [.ref 0, .int p] h (fun r h' => h' = h ∧ r = some (.int np)) → sDo 2 161 [.ref 0, .int q] h (fun r h' => h' = h ∧ r = some (.int nq)) → _ := fun hs np nq hx cp cq => pair_case hH c1 c2 (s_copy11_no hH cp cq hx (by decide) (by decide) (by decide)) (fun h1 hH1 hP => s_copy12_out hH1 (pRef_5 hP hR) hs)
  by_cases hp : 0 ≤ p.toInt ∧ p.toInt < 8
  · by_cases hq : 0 ≤ q.toInt ∧ q.toInt < 8
    · obtain ⟨P, hPe⟩ : ∃ S : Nat, p.toInt = S := ⟨p.toInt.toNat, by omega⟩
      have hP8 : P < 8 := by omega
      obtain ⟨Q, hQe⟩ : ∃ S : Nat, q.toInt = S := ⟨q.toInt.toNat, by omega⟩
      have hQ8 : Q < 8 := by omega
      obtain ⟨np, np1, np2, cp⟩ := val p P hPe hP8
      obtain ⟨nq, nq1, nq2, cq⟩ := val q Q hQe hQ8
      obtain ⟨op, zp, elp, b1, b2, b3⟩ := q5 P hP8
      obtain ⟨oq, zq, elq, d1, d2, d3⟩ := q5 Q hQ8
      have hd3 : ∀ S ot z el, bSh hd so sz co cl g h S ot z el → hd S = 0 ∨ hd S = 1 ∨ hd S = 2 := by
        intro S ot z el b
        rcases b with ⟨x, -⟩ | ⟨x, -⟩ | ⟨x, -⟩
        · exact Or.inl x
        · exact Or.inr (Or.inl x)
        · exact Or.inr (Or.inr x)
      -- refused by noRow
      have ref : ∀ x : Int32, eaOf np nq = x → (x = -2 ∨ x = -3) → ((hd P = 2 ∧ x = -2) ∨ ((hd P = 0 ∨ hd P = 1) ∧ hd Q = 2 ∧ x = -2) ∨ (hd P = 0 ∧ (hd Q = 0 ∨ hd Q = 1) ∧ x = -3) ∨ (hd P = 1 ∧ hd Q = 0 ∧ x = -3)) → sDo 10 116 (.ref 0 :: [.int p, .int q, .int i, .int j, .int n]) h (fun r1 h1 => bH h1 ∧ h1.length ≤ h.length + 1 ∧ sDo 10 180 (.ref 60 :: [.int p, .int q, .int i, .int j, .int n]) h1 (fun r2 h2 => bH h2 ∧ h2.length ≤ h1.length + 1 ∧ bR5 h2 ∧ ∃ x, r1 = some x ∧ r2 = some x)) := by
        intro x hx hx2 hc
        have kx : ¬ x = 0 ∧ -7 ≤ x.toInt ∧ x.toInt ≤ -1 := by rcases hx2 with e | e <;> rw [e] <;> decide
        refine pair_case hH c1 c2 (s_copy11_no hH cp cq hx kx.1 kx.2.1 kx.2.2) (fun h1 hH1 hP => ?_)
        obtain ⟨t0, ht0⟩ := bA60L hH1 (p := 72) (n := 100) (cs := []) (z := 0) (by decide) rfl
        refine s_copy12_in (R := bR5) hH1 (pRef_4 hP q4) (fun _ => pRef_5 hP hR) ht0 hPe hP8 hQe hQ8 ?_
        rcases hc with ⟨k1, k2⟩ | ⟨k1, k2, k3⟩ | ⟨k1, k2, k3⟩ | ⟨k1, k2, k3⟩
        · exact Or.inl ⟨k1, k2, rfl⟩
        · exact Or.inr (Or.inl ⟨k1, k2, k3, rfl⟩)
        · exact Or.inr (Or.inr (Or.inl ⟨k1, k2, k3, rfl⟩))
        · exact Or.inr (Or.inr (Or.inr (Or.inl ⟨k1, k2, k3, rfl⟩)))
      have en : ∀ S v, nrOf hd S = v → (hd S = 0 → v = -3) ∧ (hd S = 1 → v = 0) ∧ (hd S = 2 → v = -2) := by
        intro S v hv
        unfold nrOf at hv
        refine ⟨fun z => ?_, fun z => ?_, fun z => ?_⟩ <;> rw [z] at hv <;> exact hv.symm
      have eP := en P np np1
      have eQ := en Q nq nq1
      rcases hd3 P _ _ _ b3 with z1 | z1 | z1
      · rcases hd3 Q _ _ _ d3 with z2 | z2 | z2
        · exact ref (-3) (by rw [eP.1 z1, eQ.1 z2]; decide) (Or.inr rfl) (Or.inr (Or.inr (Or.inl ⟨z1, Or.inl z2, rfl⟩)))
        · exact ref (-3) (by rw [eP.1 z1, eQ.2.1 z2]; decide) (Or.inr rfl) (Or.inr (Or.inr (Or.inl ⟨z1, Or.inr z2, rfl⟩)))
        · exact ref (-2) (by rw [eP.1 z1, eQ.2.2 z2]; decide) (Or.inl rfl) (Or.inr (Or.inl ⟨Or.inl z1, z2, rfl⟩))
      · rcases hd3 Q _ _ _ d3 with z2 | z2 | z2
        · exact ref (-3) (by rw [eP.2.1 z1, eQ.1 z2]; decide) (Or.inr rfl) (Or.inr (Or.inr (Or.inr ⟨z1, z2, rfl⟩)))
        · obtain ⟨w1, w2, w3, w4, w5, -⟩ := bSh_1 b3 z1
          obtain ⟨v1, v2, v3, v4, v5, -⟩ := bSh_1 d3 z2
          by_cases ho : op = oq
          · have ho2 : so P = so Q := w1.symm.trans (ho.trans v1)
            by_cases hn : n.toInt < 0
            · refine pair_case hH c1 c2 (s_copy11_in hH q4 hPe hP8 hQe hQ8 b1 b2 b3 d1 d2 d3 z1 z2 (x := -4) (Or.inr (Or.inl ⟨ho, hn, rfl, rfl⟩))) (fun h1 hH1 hP => ?_)
              obtain ⟨t0, ht0⟩ := bA60L hH1 (p := 72) (n := 100) (cs := []) (z := 0) (by decide) rfl
              exact s_copy12_in (R := bR5) hH1 (pRef_4 hP q4) (fun _ => pRef_5 hP hR) ht0 hPe hP8 hQe hQ8 (Or.inr (Or.inr (Or.inr (Or.inr (Or.inr (Or.inl ⟨z1, z2, ho2, hn, rfl, rfl⟩))))))
            · have hn0 : 0 ≤ n.toInt := by omega
              by_cases hr : 0 ≤ i.toInt ∧ 0 ≤ j.toInt ∧ i.toInt + n.toInt ≤ zp.toInt ∧ j.toInt + n.toInt ≤ zq.toInt
              · refine pair_case hH c1 c2 (s_copy11_in hH q4 hPe hP8 hQe hQ8 b1 b2 b3 d1 d2 d3 z1 z2 (x := 1) (Or.inr (Or.inr (Or.inr ⟨ho, hn0, hr.1, hr.2.1, hr.2.2.1, hr.2.2.2, rfl, rfl⟩)))) (fun h1 hH1 hP => ?_)
                subst hP
                obtain ⟨t0, ht0⟩ := bA60L hH1 (p := 72) (n := 100) (cs := []) (z := 0) (by decide) rfl
                have in_ : (i.toNatClampNeg : Int) = i.toInt := by
                  show ((i.toInt.toNat : Nat) : Int) = i.toInt
                  omega
                have jn : (j.toNatClampNeg : Int) = j.toInt := by
                  show ((j.toInt.toNat : Nat) : Int) = j.toInt
                  omega
                have nn : (n.toNatClampNeg : Int) = n.toInt := by
                  show ((n.toInt.toNat : Nat) : Int) = n.toInt
                  omega
                have fin := el_copy (t0 := t0) (T' := yp1 t0 cl (100 * P + i.toNatClampNeg) n.toNatClampNeg) (I := i.toNatClampNeg) (J := j.toNatClampNeg) (N := n.toNatClampNeg) q4 q5 hP8 hQ8 b3 d1 d2 d3 z1 (by omega) (by omega) v4
                refine sDo_mono (s_copy12_in (x := 1) hH1 (bR4_set q4 (by omega) (by omega) (by omega)) (fun z => absurd rfl z) ht0 hPe hP8 hQe hQ8 (Or.inr (Or.inr (Or.inr (Or.inr (Or.inr (Or.inr (Or.inr ⟨z1, z2, ho2, hn0, by rw [← w2]; exact w3, by rw [← w2]; exact w4, by rw [← v2]; exact v3, by rw [← v2]; exact v4, hr.1, hr.2.1, by rw [← w2]; exact hr.2.2.1, by rw [← v2]; exact hr.2.2.2, rfl, rfl⟩)))))))) (fun r h' qq => ?_)
                obtain ⟨rfl, rfl⟩ := qq
                exact ⟨rfl, fin⟩
              · refine pair_case hH c1 c2 (s_copy11_in hH q4 hPe hP8 hQe hQ8 b1 b2 b3 d1 d2 d3 z1 z2 (x := -5) (Or.inr (Or.inr (Or.inl ⟨ho, hn0, hr, rfl, rfl⟩)))) (fun h1 hH1 hP => ?_)
                obtain ⟨t0, ht0⟩ := bA60L hH1 (p := 72) (n := 100) (cs := []) (z := 0) (by decide) rfl
                exact s_copy12_in (R := bR5) hH1 (pRef_4 hP q4) (fun _ => pRef_5 hP hR) ht0 hPe hP8 hQe hQ8 (Or.inr (Or.inr (Or.inr (Or.inr (Or.inr (Or.inr (Or.inl ⟨z1, z2, ho2, hn0, by rw [← w2]; exact w3, by rw [← w2]; exact w4, by rw [← v2]; exact v3, by rw [← v2]; exact v4, by rw [← w2, ← v2]; exact hr, rfl, rfl⟩)))))))
          · refine pair_case hH c1 c2 (s_copy11_in hH q4 hPe hP8 hQe hQ8 b1 b2 b3 d1 d2 d3 z1 z2 (x := -2) (Or.inl ⟨ho, rfl, rfl⟩)) (fun h1 hH1 hP => ?_)
            obtain ⟨t0, ht0⟩ := bA60L hH1 (p := 72) (n := 100) (cs := []) (z := 0) (by decide) rfl
            exact s_copy12_in (R := bR5) hH1 (pRef_4 hP q4) (fun _ => pRef_5 hP hR) ht0 hPe hP8 hQe hQ8 (Or.inr (Or.inr (Or.inr (Or.inr (Or.inl ⟨z1, z2, fun z => ho (w1.trans (z.trans v1.symm)), rfl, rfl⟩)))))
        · exact ref (-2) (by rw [eP.2.1 z1, eQ.2.2 z2]; decide) (Or.inl rfl) (Or.inr (Or.inl ⟨Or.inr z1, z2, rfl⟩))
      · exact ref (-2) (by rw [eP.2.2 z1]; rcases hd3 Q _ _ _ d3 with z2 | z2 | z2; · rw [eQ.1 z2]; decide
                           · rw [eQ.2.1 z2]; decide
                           · rw [eQ.2.2 z2]; decide) (Or.inl rfl) (Or.inl ⟨z1, rfl⟩)
    · obtain ⟨z, z1, cp⟩ := any p
      refine out (fun w => hq w.2) z (-1) ?_ cp (s_noOut (d := 0) hq)
      rcases z1 with e | e | e | e <;> rw [e] <;> decide
  · obtain ⟨z, z1, cq⟩ := any q
    refine out (fun w => hp w.1) (-1) z ?_ (s_noOut (d := 0) hp) cq
    rcases z1 with e | e | e | e <;> rw [e] <;> decide
end
