/-! ===== texts: whether the word heir stands ===== -/
def kzS (c : Nat) : Nat := ((wdL.take c).filter (fun x => x == 0)).length
theorem kz_s : ∀ c, c < 36 → kzS c < 6 ∧ ((wdL.getD c 0 = 0 ∧ kzS (c + 1) = kzS c + 1) ∨ (¬ wdL.getD c 0 = 0 ∧ kzS (c + 1) = kzS c)) := by decide
theorem kz_36 : kzS 36 = 6 := by decide
theorem s_wa1 {d : Nat} {h : sHp} {J : Nat → Int32} {wd : Nat → Int32} {Q : Option Value → sHp → Prop} (hr : h[60]? = some (mO J)) (hw : h[73]? = some (.inl (0, 42, .inl wd))) (W : WD wd) (hQ : sGo none 198 d 32 [some (.ref 60), some (.int (Int8.ofInt 6).toInt32), some (.int (Int32.ofNat 36)), some (.int (Int32.ofNat 6))] [] h Q) : ∀ (f c : Nat), f + c = 36 → sGo none 198 d 4 [some (.ref 60), some (.int (Int8.ofInt 6).toInt32), some (.int (Int32.ofNat c)), some (.int (Int32.ofNat (kzS c)))] [] h Q := by
  have e6 : (Int8.ofInt 6).toInt32.toInt = 6 := rfl
  have e0 : (0 : Int32).toInt = 0 := rfl
  intro f
  induction f with
  | zero =>
    intro c hc
    rw [show c = 36 by omega, kz_36]
    have ek : (Int32.ofNat 6).toInt = 6 := rfl
    refine g_iload_n (i := 3) rfl rfl ?_
    refine g_iload_n (i := 1) rfl rfl ?_
    refine g_icmp_ge 32 rfl rfl (fun _ => ?_) (fun hc => absurd hc (by rw [i_le, e6, ek]; omega))
    exact hQ
  | succ f ih =>
    intro c hc
    have kz := kz_s c (by omega)
    have ec := ofN_toInt (n := c) (by omega)
    have ek := ofN_toInt (n := kzS c) (by omega)
    have ew := W c (by omega)
    refine g_iload_n (i := 3) rfl rfl ?_
    refine g_iload_n (i := 1) rfl rfl ?_
    refine g_icmp_ge 32 rfl rfl (fun hc => absurd hc (by rw [i_le, e6, ek]; omega)) (fun _ => ?_)
    refine g_iload_n (i := 3) rfl rfl ?_
    refine g_aload_n (i := 0) rfl rfl ?_
    refine g_getfield (v := .ref 73) rfl hr (by decide) rfl ?_
    refine g_iload_n (i := 2) rfl rfl ?_
    refine g_ialv (n := 42) (f := wd) (v := wd c) rfl hw (i_in (by omega) (by omega)) (congrArg wd (i_nat ec)) ?_
    rcases kz.2 with ⟨k1, k2⟩ | ⟨k1, k2⟩
    · skip
      refine g_if_ne 23 rfl rfl (fun hc => absurd hc (by exact fun z => z (Int32.toInt_inj.mp (by rw [ew, k1, e0])))) (fun _ => ?_)
      refine g_iconst (n := 1) rfl ?_
      refine g_goto 24 rfl rfl ?_
      refine g_iadd rfl ?_
      rw [ofN_add (by omega), ← k2]
      refine g_istore_n (i := 3) (L1 := [some (.ref 60), some (.int (Int8.ofInt 6).toInt32), some (.int (Int32.ofNat c)), some (.int (Int32.ofNat (kzS (c + 1))))]) rfl (Nat.le_of_ble_eq_true rfl) rfl ?_
      refine g_iinc (i := 2) (L1 := [some (.ref 60), some (.int (Int8.ofInt 6).toInt32), some (.int ((Int32.ofNat c) + Int32.ofInt 1)), some (.int (Int32.ofNat (kzS (c + 1))))]) rfl rfl rfl ?_
      rw [ofN_add (by omega)]
      refine g_goto 4 rfl rfl ?_
      exact ih (c + 1) (by omega)
    · skip
      refine g_if_ne 23 rfl rfl (fun _ => ?_) (fun hc => absurd hc (by exact fun z => k1 (by rw [← ew, z]; rfl)))
      refine g_iconst (n := 0) rfl ?_
      refine g_iadd rfl ?_
      rw [show Int32.ofNat (kzS c) + Int32.ofInt 0 = Int32.ofNat (kzS (c + 1)) by rw [k2]; exact Int32.add_zero _]
      refine g_istore_n (i := 3) (L1 := [some (.ref 60), some (.int (Int8.ofInt 6).toInt32), some (.int (Int32.ofNat c)), some (.int (Int32.ofNat (kzS (c + 1))))]) rfl (Nat.le_of_ble_eq_true rfl) rfl ?_
      refine g_iinc (i := 2) (L1 := [some (.ref 60), some (.int (Int8.ofInt 6).toInt32), some (.int ((Int32.ofNat c) + Int32.ofInt 1)), some (.int (Int32.ofNat (kzS (c + 1))))]) rfl rfl rfl ?_
      rw [ofN_add (by omega)]
      refine g_goto 4 rfl rfl ?_
      exact ih (c + 1) (by omega)
theorem wd_heir : ∀ i, i < 4 → 32 < wdL.getD (36 + i) 0 ∧ wdL.getD (36 + i) 0 = (sTxC 6 i).toInt := by decide
theorem s_wa2 {d : Nat} {h : sHp} {J : Nat → Int32} {cl : Nat → Int64} {S n A : Nat} {T : Nat → Int32} {wd : Nat → Int32} (hr : h[60]? = some (mO J)) (a8 : h[71]? = some (.inl (1, 800, .inr (.inl cl)))) (R : RT cl S n T) (hJ : rtJ J S n A) (hA : A < 900) (hw : h[73]? = some (.inl (0, 42, .inl wd))) (W : WD wd) : ∀ (f i : Nat), f + i = 4 → sGo none 198 d 37 [some (.ref 60), some (.int (Int8.ofInt 6).toInt32), some (.int (Int32.ofNat (36 + i))), some (.int (Int32.ofNat (A + i)))] [] h (fun r h' => h' = h ∧ r = some (.int (if alS T A 6 f i = 4 then 1 else 0))) := by
  obtain ⟨j21, j22, j23⟩ := hJ
  obtain ⟨R1, R2, R3, R4⟩ := R
  have en := ofN_toInt (n := n) (by omega)
  have e32 : (Int8.ofInt 32).toInt32.toInt = 32 := rfl
  intro f
  induction f with
  | zero =>
    intro i hi
    have ei := ofN_toInt (n := 36 + i) (by omega)
    have hwi : (wd (36 + i)).toInt = 32 := by rw [W _ (by omega), show i = 4 by omega]; rfl
    have e0 : (0 : Int32).toInt = 0 := rfl
    unfold alS
    rw [if_pos (show i = 4 by omega)]
    refine g_aload_n (i := 0) rfl rfl ?_
    refine g_getfield (v := .ref 73) rfl hr (by decide) rfl ?_
    refine g_iload_n (i := 2) rfl rfl ?_
    refine g_ialv (n := 42) (f := wd) (v := wd (36 + i)) rfl hw (i_in (by omega) (by omega)) (congrArg wd (i_nat ei)) ?_
    refine g_bipush (n := 32) rfl ?_
    refine g_icmp_le 86 rfl rfl (fun _ => ?_) (fun hc => absurd hc (by rw [i_le, hwi, e32]; omega))
    refine g_aload_n (i := 0) rfl rfl ?_
    refine g_getfield (v := .ref 73) rfl hr (by decide) rfl ?_
    refine g_iload_n (i := 2) rfl rfl ?_
    refine g_ialv (n := 42) (f := wd) (v := wd (36 + i)) rfl hw (i_in (by omega) (by omega)) (congrArg wd (i_nat ei)) ?_
    refine g_bipush (n := 32) rfl ?_
    refine g_icmp_gt 101 rfl rfl (fun hc => absurd hc (by rw [i_lt, hwi, e32]; omega)) (fun _ => ?_)
    refine g_iconst (n := 1) rfl ?_
    refine g_goto 102 rfl rfl ?_
    refine g_ireturn (ty := .boolean) rfl rfl (by decide) ?_
    exact ⟨rfl, rfl⟩
  | succ f ih =>
    intro i hi
    have ei := ofN_toInt (n := 36 + i) (by omega)
    have eA := ofN_toInt (n := A + i) (by omega)
    have ewd := W (36 + i) (by omega)
    have hwh := wd_heir i (by omega)
    have al := alS_le T A 6 f (i + 1)
    have e0 : (0 : Int32).toInt = 0 := rfl
    have hws : wd (36 + i) = sTxC 6 i := Int32.toInt_inj.mp (by rw [ewd, hwh.2])
    have hwn : ¬ wd (36 + i) = 0 := fun z => by rw [z, e0] at ewd; omega
    unfold alS
    refine g_aload_n (i := 0) rfl rfl ?_
    refine g_getfield (v := .ref 73) rfl hr (by decide) rfl ?_
    refine g_iload_n (i := 2) rfl rfl ?_
    refine g_ialv (n := 42) (f := wd) (v := wd (36 + i)) rfl hw (i_in (by omega) (by omega)) (congrArg wd (i_nat ei)) ?_
    refine g_bipush (n := 32) rfl ?_
    refine g_icmp_le 86 rfl rfl (fun hc => absurd hc (by rw [i_le, ewd, e32]; omega)) (fun _ => ?_)
    refine g_iload_n (i := 3) rfl rfl ?_
    refine g_aload_n (i := 0) rfl rfl ?_
    refine g_getfield (v := .int (J 23)) rfl hr (by decide) rfl ?_
    refine g_icmp_ge 86 rfl rfl (fun c1 => ?_) (fun c1 => ?_)
    · skip
      rw [j23, i_le, en, eA] at c1
      rw [if_neg (show ¬ T (A + i) = sTxC 6 i from by rw [R4 _ (by omega), ← hws]; exact fun z => hwn z.symm), if_neg (show ¬ i = 4 by omega)]
      refine g_aload_n (i := 0) rfl rfl ?_
      refine g_getfield (v := .ref 73) rfl hr (by decide) rfl ?_
      refine g_iload_n (i := 2) rfl rfl ?_
      refine g_ialv (n := 42) (f := wd) (v := wd (36 + i)) rfl hw (i_in (by omega) (by omega)) (congrArg wd (i_nat ei)) ?_
      refine g_bipush (n := 32) rfl ?_
      refine g_icmp_gt 101 rfl rfl (fun _ => ?_) (fun hc => absurd hc (by rw [i_lt, ewd, e32]; omega))
      refine g_iconst (n := 0) rfl ?_
      refine g_ireturn (ty := .boolean) rfl rfl (by decide) ?_
      exact ⟨rfl, rfl⟩
    · skip
      rw [j23, i_le, en, eA] at c1
      have eb : (Int32.ofNat (100 * S)).toInt = ((100 * S : Nat) : Int) := Int32.toInt_ofNat_of_lt (by omega)
      have eba : (Int32.ofNat (100 * S) + Int32.ofNat (A + i)).toInt = ((100 * S + (A + i) : Nat) : Int) := by rw [i_add (by rw [eb, eA]; omega) (by rw [eb, eA]; omega), eb, eA]; omega
      refine g_aload_n (i := 0) rfl rfl ?_
      refine g_getfield (v := .ref 71) rfl hr (by decide) rfl ?_
      refine g_aload_n (i := 0) rfl rfl ?_
      refine g_getfield (v := .int (J 21)) rfl hr (by decide) rfl ?_
      refine g_iload_n (i := 3) rfl rfl ?_
      refine g_iadd rfl ?_
      rw [j21]
      refine g_laload (n := 800) (f := cl) rfl a8 (i_in (by omega) (by omega)) ?_
      rw [i_nat eba]
      refine g_l2i rfl ?_
      rw [R3 (A + i) (by omega)]
      refine g_aload_n (i := 0) rfl rfl ?_
      refine g_getfield (v := .ref 73) rfl hr (by decide) rfl ?_
      refine g_iload_n (i := 2) rfl rfl ?_
      refine g_ialv (n := 42) (f := wd) (v := wd (36 + i)) rfl hw (i_in (by omega) (by omega)) (congrArg wd (i_nat ei)) ?_
      refine g_icmp_ne 86 rfl rfl (fun c2 => ?_) (fun c2 => ?_)
      · skip
        rw [if_neg (show ¬ T (A + i) = sTxC 6 i from by rw [← hws]; exact c2), if_neg (show ¬ i = 4 by omega)]
        refine g_aload_n (i := 0) rfl rfl ?_
        refine g_getfield (v := .ref 73) rfl hr (by decide) rfl ?_
        refine g_iload_n (i := 2) rfl rfl ?_
        refine g_ialv (n := 42) (f := wd) (v := wd (36 + i)) rfl hw (i_in (by omega) (by omega)) (congrArg wd (i_nat ei)) ?_
        refine g_bipush (n := 32) rfl ?_
        refine g_icmp_gt 101 rfl rfl (fun _ => ?_) (fun hc => absurd hc (by rw [i_lt, ewd, e32]; omega))
        refine g_iconst (n := 0) rfl ?_
        refine g_ireturn (ty := .boolean) rfl rfl (by decide) ?_
        exact ⟨rfl, rfl⟩
      · skip
        rw [if_pos (show T (A + i) = sTxC 6 i by rw [← hws]; exact c2)]
        refine g_iinc (i := 3) (L1 := [some (.ref 60), some (.int (Int8.ofInt 6).toInt32), some (.int (Int32.ofNat (36 + i))), some (.int ((Int32.ofNat (A + i)) + Int32.ofInt 1))]) rfl rfl rfl ?_
        rw [ofN_add (by omega)]
        refine g_iinc (i := 2) (L1 := [some (.ref 60), some (.int (Int8.ofInt 6).toInt32), some (.int ((Int32.ofNat (36 + i)) + Int32.ofInt 1)), some (.int (Int32.ofNat (A + i + 1)))]) rfl rfl rfl ?_
        rw [ofN_add (by omega)]
        refine g_goto 37 rfl rfl ?_
        exact ih (i + 1) (by omega)
theorem s_isWordAt {d : Nat} {h : sHp} {J : Nat → Int32} {cl : Nat → Int64} {S n A : Nat} {T : Nat → Int32} {wd : Nat → Int32} (hr : h[60]? = some (mO J)) (a8 : h[71]? = some (.inl (1, 800, .inr (.inl cl)))) (R : RT cl S n T) (hJ : rtJ J S n A) (hA : A < 900) (hw : h[73]? = some (.inl (0, 42, .inl wd))) (W : WD wd) : sDo (d + 1) 198 [.ref 60, .int (Int8.ofInt 6).toInt32] h (fun r h' => h' = h ∧ r = some (.int (if alS T A 6 4 0 = 4 then 1 else 0))) := by
  refine sDo_of (d := d) (nL := 4) (L := [some (.ref 60), some (.int (Int8.ofInt 6).toInt32), none, none]) rfl rfl ?_
  refine g_iconst (n := 0) rfl ?_
  refine g_istore_n (i := 2) (L1 := [some (.ref 60), some (.int (Int8.ofInt 6).toInt32), some (.int (Int32.ofInt 0)), none]) rfl (Nat.le_of_ble_eq_true rfl) rfl ?_
  refine g_iconst (n := 0) rfl ?_
  refine g_istore_n (i := 3) (L1 := [some (.ref 60), some (.int (Int8.ofInt 6).toInt32), some (.int (Int32.ofInt 0)), some (.int (Int32.ofInt 0))]) rfl (Nat.le_of_ble_eq_true rfl) rfl ?_
  refine s_wa1 hr hw W ?_ 36 0 rfl
  refine g_aload_n (i := 0) rfl rfl ?_
  refine g_getfield (v := .int (J 22)) rfl hr (by decide) rfl ?_
  rw [hJ.2.1]
  refine g_istore_n (i := 3) (L1 := [some (.ref 60), some (.int (Int8.ofInt 6).toInt32), some (.int (Int32.ofNat 36)), some (.int (Int32.ofNat A))]) rfl (Nat.le_of_ble_eq_true rfl) rfl ?_
  exact s_wa2 hr a8 R hJ hA hw W 4 0 rfl
theorem s_isWordFull {d : Nat} {h : sHp} {J : Nat → Int32} (hr : h[60]? = some (mO J)) : sDo (d + 1) 197 [.ref 60, .int (Int8.ofInt 6).toInt32] h (fun r h' => h' = h ∧ r = some (.int (if J 6 = 5 then 1 else 0))) := by
  refine sDo_of (d := d) (nL := 2) (L := [some (.ref 60), some (.int (Int8.ofInt 6).toInt32)]) rfl rfl ?_
  refine g_iload_n (i := 1) rfl rfl ?_
  refine g_bipush (n := 6) rfl ?_
  refine g_icmp_ne 18 rfl rfl (fun hc => absurd hc (by exact fun z => z rfl)) (fun _ => ?_)
  refine g_aload_n (i := 0) rfl rfl ?_
  refine g_getfield (v := .int (J 6)) rfl hr (by decide) rfl ?_
  refine g_iconst (n := 5) rfl ?_
  refine g_icmp_ne 18 rfl rfl (fun c1 => ?_) (fun c1 => ?_)
  · skip
    rw [if_neg (show ¬ J 6 = 5 from c1)]
    refine g_iconst (n := 0) rfl ?_
    refine g_ireturn (ty := .boolean) rfl rfl (by decide) ?_
    exact ⟨rfl, rfl⟩
  · skip
    rw [if_pos (show J 6 = 5 from c1)]
    refine g_iconst (n := 1) rfl ?_
    refine g_goto 19 rfl rfl ?_
    refine g_ireturn (ty := .boolean) rfl rfl (by decide) ?_
    exact ⟨rfl, rfl⟩
