section
/-! ===== soil, worths, fond of both ===== -/
theorem s_hr11 {d : Nat} {h : sHp} {p : Nat} {c : CF} {N : Nat} {i : Int32} (hd : 1 ≤ d) (F : FC h p c) (hI : c.1 11 = Int32.ofNat N) (hN : N ≤ 5) : sDo d 23 [.ref p, .int i] h (fun r h' => h' = h ∧ ((0 ≤ i.toInt ∧ i.toInt < (N : Int)) ∧ r = some (.int 1) ∨ ¬ (0 ≤ i.toInt ∧ i.toInt < (N : Int)) ∧ r = some (.int 0))) := by
  have eI : (c.1 11).toInt = ((N : Nat) : Int) := by rw [hI]; exact ofN_toInt (by omega)
  refine sDo_of1 (nL := 2) (L := [some (.ref p), some (.int i)]) hd rfl rfl ?_
  refine g_iload_n (i := 1) rfl rfl ?_
  have k_2 : (0 : Int32).toInt = 0 := rfl
  refine g_if_lt 21 rfl rfl (fun c_1 => ?_) (fun c_1 => ?_)
  · skip
    rw [i_lt, k_2] at c_1
    refine g_iconst (n := 0) rfl ?_
    refine g_ireturn (ty := .boolean) rfl rfl (by decide) ?_
    exact ⟨rfl, Or.inr ⟨by omega, rfl⟩⟩
  · skip
    rw [i_lt, k_2] at c_1
    refine g_iload_n (i := 1) rfl rfl ?_
    refine g_aload_n (i := 0) rfl rfl ?_
    refine g_getfield (v := .int (c.1 11)) rfl F.1 (by decide) rfl ?_
    refine g_icmp_ge 21 rfl rfl (fun c_3 => ?_) (fun c_3 => ?_)
    · skip
      rw [i_le, eI] at c_3
      refine g_iconst (n := 0) rfl ?_
      refine g_ireturn (ty := .boolean) rfl rfl (by decide) ?_
      exact ⟨rfl, Or.inr ⟨by omega, rfl⟩⟩
    · skip
      rw [i_le, eI] at c_3
      refine g_iload_n (i := 1) rfl rfl ?_
      refine g_iconst (n := 5) rfl ?_
      have k_5 : (Int32.ofInt 5).toInt = 5 := rfl
      refine g_icmp_ge 21 rfl rfl (fun c_4 => ?_) (fun c_4 => ?_)
      · skip
        rw [i_le, k_5] at c_4
        refine g_iconst (n := 0) rfl ?_
        refine g_ireturn (ty := .boolean) rfl rfl (by decide) ?_
        exact ⟨rfl, Or.inr ⟨by omega, rfl⟩⟩
      · skip
        rw [i_le, k_5] at c_4
        refine g_iconst (n := 1) rfl ?_
        refine g_goto 22 rfl rfl ?_
        refine g_ireturn (ty := .boolean) rfl rfl (by decide) ?_
        exact ⟨rfl, Or.inl ⟨by omega, rfl⟩⟩
theorem s_hr12 {d : Nat} {h : sHp} {J : Nat → Int32} {N : Nat} {i : Int32} (hd : 1 ≤ d) (hr : h[60]? = some (mO J)) (hI : J 6 = Int32.ofNat N) (hN : N ≤ 5) : sDo d 173 [.ref 60, .int i] h (fun r h' => h' = h ∧ ((0 ≤ i.toInt ∧ i.toInt < (N : Int)) ∧ r = some (.int 1) ∨ ¬ (0 ≤ i.toInt ∧ i.toInt < (N : Int)) ∧ r = some (.int 0))) := by
  have eI : (J 6).toInt = ((N : Nat) : Int) := by rw [hI]; exact ofN_toInt (by omega)
  refine sDo_of1 (nL := 2) (L := [some (.ref 60), some (.int i)]) hd rfl rfl ?_
  refine g_iload_n (i := 1) rfl rfl ?_
  have k_2 : (0 : Int32).toInt = 0 := rfl
  refine g_if_lt 16 rfl rfl (fun c_1 => ?_) (fun c_1 => ?_)
  · skip
    rw [i_lt, k_2] at c_1
    refine g_iconst (n := 0) rfl ?_
    refine g_ireturn (ty := .boolean) rfl rfl (by decide) ?_
    exact ⟨rfl, Or.inr ⟨by omega, rfl⟩⟩
  · skip
    rw [i_lt, k_2] at c_1
    refine g_iload_n (i := 1) rfl rfl ?_
    refine g_aload_n (i := 0) rfl rfl ?_
    refine g_getfield (v := .int (J 6)) rfl hr (by decide) rfl ?_
    refine g_icmp_ge 16 rfl rfl (fun c_3 => ?_) (fun c_3 => ?_)
    · skip
      rw [i_le, eI] at c_3
      refine g_iconst (n := 0) rfl ?_
      refine g_ireturn (ty := .boolean) rfl rfl (by decide) ?_
      exact ⟨rfl, Or.inr ⟨by omega, rfl⟩⟩
    · skip
      rw [i_le, eI] at c_3
      refine g_iconst (n := 1) rfl ?_
      refine g_goto 17 rfl rfl ?_
      refine g_ireturn (ty := .boolean) rfl rfl (by decide) ?_
      exact ⟨rfl, Or.inl ⟨by omega, rfl⟩⟩
theorem s_only8 {d : Nat} {h : sHp} {p : Nat} {c : CF} {W H k : Nat} (hd : 2 ≤ d) (F : FC h p c) (g : gdF c W H) (hk : k < W * H) : sDo d 25 [.ref p, .int (Int32.ofNat k)] h (fun r h' => h' = h ∧ r = some (.long (Int64.ofNat 1 <<< ((Int32.ofNat k).toInt64 &&& 63)))) := by
  have hn := gdF_n g
  have ek := ofN_toInt (n := k) (by omega)
  refine sDo_of1 (nL := 2) (L := [some (.ref p), some (.int (Int32.ofNat k))]) (by omega) rfl rfl ?_
  refine g_aload_n (i := 0) rfl rfl ?_
  refine g_iload_n (i := 1) rfl rfl ?_
  refine g_virt1 (Qc := fun r h' => h' = h ∧ (((0 ≤ (Int32.ofNat k).toInt ∧ (Int32.ofNat k).toInt < ((W * H : Nat) : Int)) ∧ r = some (.int 1)) ∨ (¬ (0 ≤ (Int32.ofNat k).toInt ∧ (Int32.ofNat k).toInt < ((W * H : Nat) : Int)) ∧ r = some (.int 0)))) rfl (by decide) rfl F.1 rfl (Nat.le_of_ble_eq_true rfl) (s_isSq11 (by omega) F g) (fun r h hq9 => ?_)
  obtain ⟨rfl, ⟨c_1, rfl⟩ | ⟨c_1, rfl⟩⟩ := hq9
  · skip
    refine g_if_eq 14 rfl rfl (fun hc => absurd hc (by decide)) (fun _ => ?_)
    refine g_lconst (n := 1) rfl ?_
    show sGo none 25 _ 9 [some (.ref p), some (.int (Int32.ofNat k))] [.long (Int64.ofNat 1)] _ _
    refine g_iload_n (i := 1) rfl rfl ?_
    refine g_lshl rfl ?_
    refine g_goto 15 rfl rfl ?_
    refine g_lreturn rfl rfl ?_
    exact ⟨rfl, rfl⟩
  · skip
    omega
theorem bt_pick {x : Int64} {q : Nat} (hq : q < 64) : x &&& (Int64.ofNat 1 <<< ((Int32.ofNat q).toInt64 &&& 63)) = Int64.ofNat 0 ↔ bt x q = false := by
  rw [bt_eq0]
  constructor
  · intro h
    have := h q hq
    rw [bt_and, bt_one hq, decide_eq_true rfl, Bool.and_true] at this
    exact this
  · intro h i hi
    rw [bt_and, bt_one hq]
    by_cases e : i = q
    · rw [e, h, Bool.false_and]
    · rw [decide_eq_false e, Bool.and_false]
theorem s_soilAt {d : Nat} {h : sHp} {p : Nat} {c : CF} {W H q V : Nat} (hd : 2 ≤ d) (F : FC h p c) (g : gdF c W H) (hq : q < W * H) (hV : V < 6) (hb : ∀ u, u < 6 → bt (c.2.2.1 u) q = decide (u = V)) : ∀ (f k : Nat), k + f = V → sGo none 32 d 2 [some (.ref p), some (.int (Int32.ofNat q)), some (.int (Int32.ofNat k))] [] h (fun r h' => h' = h ∧ r = some (.int (Int32.ofNat V))) := by
  have hn := gdF_n g
  intro f
  induction f with
  | zero =>
    intro k hk
    have ek := ofN_toInt (n := k) (by omega)
    have e6 : (Int8.ofInt 6).toInt32.toInt = 6 := rfl
    have eV : k = V := by omega
    subst eV
    refine g_iload_n (i := 2) rfl rfl ?_
    refine g_bipush (n := 6) rfl ?_
    refine g_icmp_ge 33 rfl rfl (fun hc => absurd hc (by rw [i_le, ek, e6]; omega)) (fun _ => ?_)
    refine g_aload_n (i := 0) rfl rfl ?_
    refine g_getfield (v := .ref (p + 1)) rfl F.1 (by decide) rfl ?_
    refine g_iload_n (i := 2) rfl rfl ?_
    refine g_laload (n := 6) (f := c.2.2.1) rfl F.2.1 (i_in (by omega) (by omega)) ?_
    rw [i_nat ek]
    refine g_aload_n (i := 0) rfl rfl ?_
    refine g_iload_n (i := 1) rfl rfl ?_
    refine g_virt1 (Qc := fun r h' => h' = h ∧ r = some (.long (Int64.ofNat 1 <<< ((Int32.ofNat q).toInt64 &&& 63)))) rfl (by decide) rfl F.1 rfl (Nat.le_of_ble_eq_true rfl) (s_only8 (by omega) F g (by omega)) (fun r h hq9 => ?_)
    obtain ⟨rfl, rfl⟩ := hq9
    refine g_land rfl ?_
    refine g_lconst (n := 0) rfl ?_
    show sGo none 32 _ 21 [some (.ref p), some (.int (Int32.ofNat q)), some (.int (Int32.ofNat k))] [.long (Int64.ofNat 0), .long ((c.2.2.1 k) &&& (Int64.ofNat 1 <<< ((Int32.ofNat q).toInt64 &&& 63)))] _ _
    refine g_lcmp rfl ?_
    refine g_if_eq 27 rfl rfl (fun c_1 => ?_) (fun c_1 => ?_)
    · skip
      rw [lc_eq] at c_1
      refine g_iinc (i := 2) (L1 := [some (.ref p), some (.int (Int32.ofNat q)), some (.int ((Int32.ofNat k) + Int32.ofInt 1))]) rfl rfl rfl ?_
      rw [ofN_add (by omega)]
      refine g_goto 2 rfl rfl ?_
      exact absurd ((bt_pick (by omega)).mp c_1) (by rw [hb k hV, decide_eq_true rfl]; decide)
    · skip
      rw [lc_eq] at c_1
      refine g_iload_n (i := 2) rfl rfl ?_
      refine g_ireturn (ty := .int) rfl rfl rfl ?_
      exact ⟨rfl, rfl⟩
  | succ f ih =>
    intro k hk
    have ek := ofN_toInt (n := k) (by omega)
    have e6 : (Int8.ofInt 6).toInt32.toInt = 6 := rfl
    refine g_iload_n (i := 2) rfl rfl ?_
    refine g_bipush (n := 6) rfl ?_
    refine g_icmp_ge 33 rfl rfl (fun hc => absurd hc (by rw [i_le, ek, e6]; omega)) (fun _ => ?_)
    refine g_aload_n (i := 0) rfl rfl ?_
    refine g_getfield (v := .ref (p + 1)) rfl F.1 (by decide) rfl ?_
    refine g_iload_n (i := 2) rfl rfl ?_
    refine g_laload (n := 6) (f := c.2.2.1) rfl F.2.1 (i_in (by omega) (by omega)) ?_
    rw [i_nat ek]
    refine g_aload_n (i := 0) rfl rfl ?_
    refine g_iload_n (i := 1) rfl rfl ?_
    refine g_virt1 (Qc := fun r h' => h' = h ∧ r = some (.long (Int64.ofNat 1 <<< ((Int32.ofNat q).toInt64 &&& 63)))) rfl (by decide) rfl F.1 rfl (Nat.le_of_ble_eq_true rfl) (s_only8 (by omega) F g (by omega)) (fun r h hq9 => ?_)
    obtain ⟨rfl, rfl⟩ := hq9
    refine g_land rfl ?_
    refine g_lconst (n := 0) rfl ?_
    show sGo none 32 _ 21 [some (.ref p), some (.int (Int32.ofNat q)), some (.int (Int32.ofNat k))] [.long (Int64.ofNat 0), .long ((c.2.2.1 k) &&& (Int64.ofNat 1 <<< ((Int32.ofNat q).toInt64 &&& 63)))] _ _
    refine g_lcmp rfl ?_
    refine g_if_eq 27 rfl rfl (fun c_1 => ?_) (fun c_1 => ?_)
    · skip
      rw [lc_eq] at c_1
      refine g_iinc (i := 2) (L1 := [some (.ref p), some (.int (Int32.ofNat q)), some (.int ((Int32.ofNat k) + Int32.ofInt 1))]) rfl rfl rfl ?_
      rw [ofN_add (by omega)]
      refine g_goto 2 rfl rfl ?_
      exact ih (k + 1) (by omega)
    · skip
      rw [lc_eq] at c_1
      refine g_iload_n (i := 2) rfl rfl ?_
      refine g_ireturn (ty := .int) rfl rfl rfl ?_
      exact absurd ((bt_pick (by omega)).mpr (by rw [hb k (by omega), decide_eq_false (show ¬ k = V by omega)])) c_1
theorem sa0 {d : Nat} {h : sHp} {p : Nat} {c : CF} {W H q V : Nat} (hd : 3 ≤ d) (F : FC h p c) (g : gdF c W H) (hq : q < W * H) (hV : V < 6) (hb : ∀ u, u < 6 → bt (c.2.2.1 u) q = decide (u = V)) : sDo d 32 [.ref p, .int (Int32.ofNat q)] h (fun r h' => h' = h ∧ r = some (.int (Int32.ofNat V))) := by
  obtain ⟨d, rfl⟩ : ∃ e, d = e + 1 := ⟨d - 1, by omega⟩
  refine sDo_of (d := d) (nL := 3) (L := [some (.ref p), some (.int (Int32.ofNat q)), none]) rfl rfl ?_
  refine g_iconst (n := 0) rfl ?_
  refine g_istore_n (i := 2) (L1 := [some (.ref p), some (.int (Int32.ofNat q)), some (.int (Int32.ofInt 0))]) rfl (Nat.le_of_ble_eq_true rfl) rfl ?_
  exact s_soilAt (d := d) (by omega) F g hq hV hb V 0 (by omega)
theorem s_soil11 {d : Nat} {h : sHp} {ik tf : Int32} {R : Nat → Int32} {c : CF} {W H q V U : Nat} (hd : 5 ≤ d) (h0 : h[0]? = some (cO ik tf)) (hR : h[43]? = some (rFc R)) (F : FC h 5 c) (g : gdF c W H) (hq : q < W * H) (hU : U < 6) (hV : V < 6) (hb : ∀ u, u < 6 → bt (c.2.2.1 u) q = decide (u = U)) : sDo d 125 [.ref 0, .int (Int32.ofNat q), .int (Int32.ofNat V)] h (fun r h' => r = some (.int (Int32.ofNat U)) ∧ h' = h.set 6 (.inl (1, 6, .inr (.inl (giveS c.2.2.1 6 (Int64.ofNat 1 <<< ((Int32.ofNat q).toInt64 &&& 63)) V))))) := by
  have hn := gdF_n g
  have eq := ofN_toInt (n := q) (by omega)
  have eV := ofN_toInt (n := V) (by omega)
  refine sDo_of1 (nL := 4) (L := [some (.ref 0), some (.int (Int32.ofNat q)), some (.int (Int32.ofNat V)), none]) (by omega) rfl rfl ?_
  refine g_aload_n (i := 0) rfl rfl ?_
  refine g_getfield (v := .ref 5) rfl h0 (by decide) rfl ?_
  refine g_iload_n (i := 1) rfl rfl ?_
  refine g_virt1 (Qc := fun r h' => h' = h ∧ (((0 ≤ (Int32.ofNat q).toInt ∧ (Int32.ofNat q).toInt < ((W * H : Nat) : Int)) ∧ r = some (.int 1)) ∨ (¬ (0 ≤ (Int32.ofNat q).toInt ∧ (Int32.ofNat q).toInt < ((W * H : Nat) : Int)) ∧ r = some (.int 0)))) rfl (by decide) rfl F.1 rfl (Nat.le_of_ble_eq_true rfl) (s_isSq11 (by omega) F g) (fun r h hq9 => ?_)
  obtain ⟨rfl, ⟨c_1, rfl⟩ | ⟨c_1, rfl⟩⟩ := hq9
  · skip
    refine g_if_eq 21 rfl rfl (fun hc => absurd hc (by decide)) (fun _ => ?_)
    refine g_iload_n (i := 2) rfl rfl ?_
    have k_3 : (0 : Int32).toInt = 0 := rfl
    refine g_if_lt 21 rfl rfl (fun c_2 => ?_) (fun c_2 => ?_)
    · skip
      rw [i_lt, eV, k_3] at c_2
      refine g_aload_n (i := 0) rfl rfl ?_
      refine g_iconst (n := (-1)) rfl ?_
      omega
    · skip
      rw [i_lt, eV, k_3] at c_2
      refine g_iload_n (i := 2) rfl rfl ?_
      refine g_bipush (n := 6) rfl ?_
      have k_5 : ((Int8.ofInt 6).toInt32).toInt = 6 := rfl
      refine g_icmp_lt 27 rfl rfl (fun c_4 => ?_) (fun c_4 => ?_)
      · skip
        rw [i_lt, eV, k_5] at c_4
        refine g_aload_n (i := 0) rfl rfl ?_
        refine g_getfield (v := .ref 5) rfl h0 (by decide) rfl ?_
        refine g_iload_n (i := 1) rfl rfl ?_
        refine g_virt1 (Qc := fun r h' => h' = h ∧ r = some (.int (Int32.ofNat U))) rfl (by decide) rfl F.1 rfl (Nat.le_of_ble_eq_true rfl) (sa0 (by omega) F g hq hU hb) (fun r h hq9 => ?_)
        obtain ⟨rfl, rfl⟩ := hq9
        refine g_istore_n (i := 3) (L1 := [some (.ref 0), some (.int (Int32.ofNat q)), some (.int (Int32.ofNat V)), some (.int (Int32.ofNat U))]) rfl (Nat.le_of_ble_eq_true rfl) rfl ?_
        refine g_aload_n (i := 0) rfl rfl ?_
        refine g_getfield (v := .ref 5) rfl h0 (by decide) rfl ?_
        refine g_aload_n (i := 0) rfl rfl ?_
        refine g_getfield (v := .ref 5) rfl h0 (by decide) rfl ?_
        refine g_iload_n (i := 1) rfl rfl ?_
        refine g_virt1 (Qc := fun r h' => h' = h ∧ r = some (.long (Int64.ofNat 1 <<< ((Int32.ofNat q).toInt64 &&& 63)))) rfl (by decide) rfl F.1 rfl (Nat.le_of_ble_eq_true rfl) (s_only8 (by omega) F g (by omega)) (fun r h hq9 => ?_)
        obtain ⟨rfl, rfl⟩ := hq9
        refine g_iload_n (i := 2) rfl rfl ?_
        refine g_virt2 (Qc := fun r h' => r = none ∧ h' = h.set (5 + 1) (.inl (1, 6, .inr (.inl (giveS c.2.2.1 6 (Int64.ofNat 1 <<< ((Int32.ofNat q).toInt64 &&& 63)) V))))) rfl (by decide) rfl F.1 rfl (Nat.le_of_ble_eq_true rfl) (sDo_up (d := 2) (by omega) (s_laySoil (d := 0) (set := (Int64.ofNat 1 <<< ((Int32.ofNat q).toInt64 &&& 63))) F eV hV)) (fun r h9 hq9 => ?_)
        obtain ⟨rfl, rfl⟩ := hq9
        refine g_iload_n (i := 3) rfl rfl ?_
        refine g_ireturn (ty := .int) rfl rfl rfl ?_
        exact ⟨rfl, rfl⟩
      · skip
        rw [i_lt, eV, k_5] at c_4
        refine g_aload_n (i := 0) rfl rfl ?_
        refine g_iconst (n := (-1)) rfl ?_
        omega
  · skip
    omega
theorem s_soil11n {d : Nat} {h : sHp} {ik tf : Int32} {R : Nat → Int32} {c : CF} {W H : Nat} {x v : Int32} (hd : 4 ≤ d) (h0 : h[0]? = some (cO ik tf)) (hR : h[43]? = some (rFc R)) (F : FC h 5 c) (g : gdF c W H) (hx : ¬ ((0 ≤ x.toInt ∧ x.toInt < ((W * H : Nat) : Int)) ∧ 0 ≤ v.toInt ∧ v.toInt < 6)) : sDo d 125 [.ref 0, .int x, .int v] h (fun r h' => r = some (.int (-1)) ∧ h' = h.set 43 (rFc (bump R 1))) := by
  refine sDo_of1 (nL := 4) (L := [some (.ref 0), some (.int x), some (.int v), none]) (by omega) rfl rfl ?_
  refine g_aload_n (i := 0) rfl rfl ?_
  refine g_getfield (v := .ref 5) rfl h0 (by decide) rfl ?_
  refine g_iload_n (i := 1) rfl rfl ?_
  refine g_virt1 (Qc := fun r h' => h' = h ∧ (((0 ≤ x.toInt ∧ x.toInt < ((W * H : Nat) : Int)) ∧ r = some (.int 1)) ∨ (¬ (0 ≤ x.toInt ∧ x.toInt < ((W * H : Nat) : Int)) ∧ r = some (.int 0)))) rfl (by decide) rfl F.1 rfl (Nat.le_of_ble_eq_true rfl) (s_isSq11 (by omega) F g) (fun r h hq9 => ?_)
  obtain ⟨rfl, ⟨c_1, rfl⟩ | ⟨c_1, rfl⟩⟩ := hq9
  · skip
    refine g_if_eq 21 rfl rfl (fun hc => absurd hc (by decide)) (fun _ => ?_)
    refine g_iload_n (i := 2) rfl rfl ?_
    have k_3 : (0 : Int32).toInt = 0 := rfl
    refine g_if_lt 21 rfl rfl (fun c_2 => ?_) (fun c_2 => ?_)
    · skip
      rw [i_lt, k_3] at c_2
      refine g_aload_n (i := 0) rfl rfl ?_
      refine g_iconst (n := (-1)) rfl ?_
      refine g_virt1 (Qc := fun r h' => r = some (.int ((Int32.ofInt (-1)))) ∧ h' = h.set 43 (rFc (bump R 1))) rfl (by decide) rfl h0 rfl (Nat.le_of_ble_eq_true rfl) (s_refuse2 (X := 1) (by omega) h0 hR rfl (by decide)) (fun r h9 hq9 => ?_)
      obtain ⟨rfl, rfl⟩ := hq9
      refine g_ireturn (ty := .int) rfl rfl rfl ?_
      exact ⟨rfl, rfl⟩
    · skip
      rw [i_lt, k_3] at c_2
      refine g_iload_n (i := 2) rfl rfl ?_
      refine g_bipush (n := 6) rfl ?_
      have k_5 : ((Int8.ofInt 6).toInt32).toInt = 6 := rfl
      refine g_icmp_lt 27 rfl rfl (fun c_4 => ?_) (fun c_4 => ?_)
      · skip
        rw [i_lt, k_5] at c_4
        exfalso; omega
      · skip
        rw [i_lt, k_5] at c_4
        refine g_aload_n (i := 0) rfl rfl ?_
        refine g_iconst (n := (-1)) rfl ?_
        refine g_virt1 (Qc := fun r h' => r = some (.int ((Int32.ofInt (-1)))) ∧ h' = h.set 43 (rFc (bump R 1))) rfl (by decide) rfl h0 rfl (Nat.le_of_ble_eq_true rfl) (s_refuse2 (X := 1) (by omega) h0 hR rfl (by decide)) (fun r h9 hq9 => ?_)
        obtain ⟨rfl, rfl⟩ := hq9
        refine g_ireturn (ty := .int) rfl rfl rfl ?_
        exact ⟨rfl, rfl⟩
  · skip
    refine g_if_eq 21 rfl rfl (fun _ => ?_) (fun hc => absurd hc (by decide))
    refine g_aload_n (i := 0) rfl rfl ?_
    refine g_iconst (n := (-1)) rfl ?_
    refine g_virt1 (Qc := fun r h' => r = some (.int ((Int32.ofInt (-1)))) ∧ h' = h.set 43 (rFc (bump R 1))) rfl (by decide) rfl h0 rfl (Nat.le_of_ble_eq_true rfl) (s_refuse2 (X := 1) (by omega) h0 hR rfl (by decide)) (fun r h9 hq9 => ?_)
    obtain ⟨rfl, rfl⟩ := hq9
    refine g_ireturn (ty := .int) rfl rfl rfl ?_
    exact ⟨rfl, rfl⟩
theorem s_soil12 {d : Nat} {h : sHp} {m : MF} {W H q V : Nat} (hd : 3 ≤ d) (M : MC h m) (g : gdM m.1 W H) (hq : q < W * H) (hV : V < 6) : sDo d 205 [.ref 60, .int (Int32.ofNat q), .int (Int32.ofNat V)] h (fun r h' => r = some (.int (m.2.1 q)) ∧ h' = h.set 62 (.inl (0, 64, .inl (upd m.2.1 q (Int32.ofNat V))))) := by
  have hn : W * H ≤ 64 := wh_le8 g.2.2.2.1 g.2.2.2.2.2
  have eq := ofN_toInt (n := q) (by omega)
  have eV := ofN_toInt (n := V) (by omega)
  refine sDo_of1 (nL := 4) (L := [some (.ref 60), some (.int (Int32.ofNat q)), some (.int (Int32.ofNat V)), none]) (by omega) rfl rfl ?_
  refine g_aload_n (i := 0) rfl rfl ?_
  refine g_iload_n (i := 1) rfl rfl ?_
  refine g_virt1 (Qc := fun r h' => h' = h ∧ (((0 ≤ (Int32.ofNat q).toInt ∧ (Int32.ofNat q).toInt < ((W * H : Nat) : Int)) ∧ r = some (.int 1)) ∨ (¬ (0 ≤ (Int32.ofNat q).toInt ∧ (Int32.ofNat q).toInt < ((W * H : Nat) : Int)) ∧ r = some (.int 0)))) rfl (by decide) rfl M.1 rfl (Nat.le_of_ble_eq_true rfl) (s_isSq12 (by omega) M.1 g) (fun r h hq9 => ?_)
  obtain ⟨rfl, ⟨c_1, rfl⟩ | ⟨c_1, rfl⟩⟩ := hq9
  · skip
    refine g_if_eq 17 rfl rfl (fun hc => absurd hc (by decide)) (fun _ => ?_)
    refine g_iload_n (i := 2) rfl rfl ?_
    have k_3 : (0 : Int32).toInt = 0 := rfl
    refine g_if_lt 17 rfl rfl (fun c_2 => ?_) (fun c_2 => ?_)
    · skip
      rw [i_lt, eV, k_3] at c_2
      refine g_aload_n (i := 0) rfl rfl ?_
      refine g_iconst (n := (-1)) rfl ?_
      omega
    · skip
      rw [i_lt, eV, k_3] at c_2
      refine g_iload_n (i := 2) rfl rfl ?_
      refine g_iconst (n := 5) rfl ?_
      have k_5 : (Int32.ofInt 5).toInt = 5 := rfl
      refine g_icmp_le 23 rfl rfl (fun c_4 => ?_) (fun c_4 => ?_)
      · skip
        rw [i_le, eV, k_5] at c_4
        refine g_aload_n (i := 0) rfl rfl ?_
        refine g_getfield (v := .ref 62) rfl M.1 (by decide) rfl ?_
        refine g_iload_n (i := 1) rfl rfl ?_
        refine g_iaload (n := 64) (f := m.2.1) rfl M.2.1 (i_in (by omega) (by omega)) ?_
        rw [i_nat eq]
        refine g_istore_n (i := 3) (L1 := [some (.ref 60), some (.int (Int32.ofNat q)), some (.int (Int32.ofNat V)), some (.int (m.2.1 q))]) rfl (Nat.le_of_ble_eq_true rfl) rfl ?_
        refine g_aload_n (i := 0) rfl rfl ?_
        refine g_getfield (v := .ref 62) rfl M.1 (by decide) rfl ?_
        refine g_iload_n (i := 1) rfl rfl ?_
        refine g_iload_n (i := 2) rfl rfl ?_
        refine g_iastore (n := 64) (f := m.2.1) (h1 := h.set 62 (.inl (0, 64, .inl (upd m.2.1 q (Int32.ofNat V))))) rfl M.2.1 (i_in (by omega) (by omega)) (by rw [i_nat eq]) ?_
        refine g_iload_n (i := 3) rfl rfl ?_
        refine g_ireturn (ty := .int) rfl rfl rfl ?_
        exact ⟨rfl, rfl⟩
      · skip
        rw [i_le, eV, k_5] at c_4
        refine g_aload_n (i := 0) rfl rfl ?_
        refine g_iconst (n := (-1)) rfl ?_
        omega
  · skip
    omega
theorem s_soil12n {d : Nat} {h : sHp} {R : Nat → Int32} {m : MF} {W H : Nat} {x v : Int32} (hd : 3 ≤ d) (M : MC h m) (hR : h[61]? = some (rFc R)) (g : gdM m.1 W H) (hx : ¬ ((0 ≤ x.toInt ∧ x.toInt < ((W * H : Nat) : Int)) ∧ 0 ≤ v.toInt ∧ v.toInt < 6)) : sDo d 205 [.ref 60, .int x, .int v] h (fun r h' => r = some (.int (-1)) ∧ h' = h.set 61 (rFc (bump R 1))) := by
  refine sDo_of1 (nL := 4) (L := [some (.ref 60), some (.int x), some (.int v), none]) (by omega) rfl rfl ?_
  refine g_aload_n (i := 0) rfl rfl ?_
  refine g_iload_n (i := 1) rfl rfl ?_
  refine g_virt1 (Qc := fun r h' => h' = h ∧ (((0 ≤ x.toInt ∧ x.toInt < ((W * H : Nat) : Int)) ∧ r = some (.int 1)) ∨ (¬ (0 ≤ x.toInt ∧ x.toInt < ((W * H : Nat) : Int)) ∧ r = some (.int 0)))) rfl (by decide) rfl M.1 rfl (Nat.le_of_ble_eq_true rfl) (s_isSq12 (by omega) M.1 g) (fun r h hq9 => ?_)
  obtain ⟨rfl, ⟨c_1, rfl⟩ | ⟨c_1, rfl⟩⟩ := hq9
  · skip
    refine g_if_eq 17 rfl rfl (fun hc => absurd hc (by decide)) (fun _ => ?_)
    refine g_iload_n (i := 2) rfl rfl ?_
    have k_3 : (0 : Int32).toInt = 0 := rfl
    refine g_if_lt 17 rfl rfl (fun c_2 => ?_) (fun c_2 => ?_)
    · skip
      rw [i_lt, k_3] at c_2
      refine g_aload_n (i := 0) rfl rfl ?_
      refine g_iconst (n := (-1)) rfl ?_
      refine g_virt1 (Qc := fun r h' => r = some (.int ((Int32.ofInt (-1)))) ∧ h' = h.set 61 (rFc (bump R 1))) rfl (by decide) rfl M.1 rfl (Nat.le_of_ble_eq_true rfl) (s_no2 (X := 1) (by omega) M.1 hR rfl (by decide)) (fun r h9 hq9 => ?_)
      obtain ⟨rfl, rfl⟩ := hq9
      refine g_ireturn (ty := .int) rfl rfl rfl ?_
      exact ⟨rfl, rfl⟩
    · skip
      rw [i_lt, k_3] at c_2
      refine g_iload_n (i := 2) rfl rfl ?_
      refine g_iconst (n := 5) rfl ?_
      have k_5 : (Int32.ofInt 5).toInt = 5 := rfl
      refine g_icmp_le 23 rfl rfl (fun c_4 => ?_) (fun c_4 => ?_)
      · skip
        rw [i_le, k_5] at c_4
        exfalso; omega
      · skip
        rw [i_le, k_5] at c_4
        refine g_aload_n (i := 0) rfl rfl ?_
        refine g_iconst (n := (-1)) rfl ?_
        refine g_virt1 (Qc := fun r h' => r = some (.int ((Int32.ofInt (-1)))) ∧ h' = h.set 61 (rFc (bump R 1))) rfl (by decide) rfl M.1 rfl (Nat.le_of_ble_eq_true rfl) (s_no2 (X := 1) (by omega) M.1 hR rfl (by decide)) (fun r h9 hq9 => ?_)
        obtain ⟨rfl, rfl⟩ := hq9
        refine g_ireturn (ty := .int) rfl rfl rfl ?_
        exact ⟨rfl, rfl⟩
  · skip
    refine g_if_eq 17 rfl rfl (fun _ => ?_) (fun hc => absurd hc (by decide))
    refine g_aload_n (i := 0) rfl rfl ?_
    refine g_iconst (n := (-1)) rfl ?_
    refine g_virt1 (Qc := fun r h' => r = some (.int ((Int32.ofInt (-1)))) ∧ h' = h.set 61 (rFc (bump R 1))) rfl (by decide) rfl M.1 rfl (Nat.le_of_ble_eq_true rfl) (s_no2 (X := 1) (by omega) M.1 hR rfl (by decide)) (fun r h9 hq9 => ?_)
    obtain ⟨rfl, rfl⟩ := hq9
    refine g_ireturn (ty := .int) rfl rfl rfl ?_
    exact ⟨rfl, rfl⟩
theorem s_worths11 {d : Nat} {h : sHp} {ik tf : Int32} {c : CF} {N i V X : Nat} (hd : 3 ≤ d) (h0 : h[0]? = some (cO ik tf)) (F : FC h 5 c) (hI : c.1 11 = Int32.ofNat N) (hN : N ≤ 5) (hi : i < N) (hV : V < 6) (hX : X < 100) : sDo d 128 [.ref 0, .int (Int32.ofNat i), .int (Int32.ofNat V), .int (Int32.ofNat X)] h (fun r h' => r = some (.int (c.2.2.2.2.1 i V)) ∧ h' = h.set (5 + 4 + i) (.inl (0, 6, .inl (upd (c.2.2.2.2.1 i) V (Int32.ofNat X))))) := by
  have ei := ofN_toInt (n := i) (by omega)
  have eV := ofN_toInt (n := V) (by omega)
  have eX := ofN_toInt (n := X) (by omega)
  obtain ⟨f, a3, a4⟩ := id F.2.2.2.1
  have a5 := F.2.2.2.2.1 i (by omega)
  refine sDo_of1 (nL := 5) (L := [some (.ref 0), some (.int (Int32.ofNat i)), some (.int (Int32.ofNat V)), some (.int (Int32.ofNat X)), none]) (by omega) rfl rfl ?_
  refine g_aload_n (i := 0) rfl rfl ?_
  refine g_getfield (v := .ref 5) rfl h0 (by decide) rfl ?_
  refine g_iload_n (i := 1) rfl rfl ?_
  refine g_virt1 (Qc := fun r h' => h' = h ∧ (((0 ≤ (Int32.ofNat i).toInt ∧ (Int32.ofNat i).toInt < (N : Int)) ∧ r = some (.int 1)) ∨ (¬ (0 ≤ (Int32.ofNat i).toInt ∧ (Int32.ofNat i).toInt < (N : Int)) ∧ r = some (.int 0)))) rfl (by decide) rfl F.1 rfl (Nat.le_of_ble_eq_true rfl) (s_hr11 (by omega) F hI hN) (fun r h hq9 => ?_)
  obtain ⟨rfl, ⟨c_1, rfl⟩ | ⟨c_1, rfl⟩⟩ := hq9
  · skip
    refine g_if_eq 21 rfl rfl (fun hc => absurd hc (by decide)) (fun _ => ?_)
    refine g_iload_n (i := 2) rfl rfl ?_
    have k_3 : (0 : Int32).toInt = 0 := rfl
    refine g_if_lt 21 rfl rfl (fun c_2 => ?_) (fun c_2 => ?_)
    · skip
      rw [i_lt, eV, k_3] at c_2
      refine g_aload_n (i := 0) rfl rfl ?_
      refine g_iconst (n := (-1)) rfl ?_
      omega
    · skip
      rw [i_lt, eV, k_3] at c_2
      refine g_iload_n (i := 2) rfl rfl ?_
      refine g_bipush (n := 6) rfl ?_
      have k_5 : ((Int8.ofInt 6).toInt32).toInt = 6 := rfl
      refine g_icmp_lt 27 rfl rfl (fun c_4 => ?_) (fun c_4 => ?_)
      · skip
        rw [i_lt, eV, k_5] at c_4
        refine g_iload_n (i := 3) rfl rfl ?_
        refine g_if_lt 37 rfl rfl (fun c_6 => ?_) (fun c_6 => ?_)
        · skip
          rw [i_lt, eX, k_3] at c_6
          refine g_aload_n (i := 0) rfl rfl ?_
          refine g_bipush (n := (-6)) rfl ?_
          omega
        · skip
          rw [i_lt, eX, k_3] at c_6
          refine g_iload_n (i := 3) rfl rfl ?_
          refine g_bipush (n := 99) rfl ?_
          have k_8 : ((Int8.ofInt 99).toInt32).toInt = 99 := rfl
          refine g_icmp_le 44 rfl rfl (fun c_7 => ?_) (fun c_7 => ?_)
          · skip
            rw [i_le, eX, k_8] at c_7
            refine g_aload_n (i := 0) rfl rfl ?_
            refine g_getfield (v := .ref 5) rfl h0 (by decide) rfl ?_
            refine g_getfield (v := .ref (5 + 3)) rfl F.1 (by decide) rfl ?_
            refine g_iload_n (i := 1) rfl rfl ?_
            refine g_aaload rfl a3 (by decide) (i_in (by omega) (by omega)) ?_
            rw [i_nat ei, a4 i (by omega)]
            show sGo none 128 _ 53 [some (.ref 0), some (.int (Int32.ofNat i)), some (.int (Int32.ofNat V)), some (.int (Int32.ofNat X)), none] (.ref (5 + 4 + i) :: []) _ _
            refine g_iload_n (i := 2) rfl rfl ?_
            refine g_iaload (n := 6) (f := (c.2.2.2.2.1 i)) rfl a5 (i_in (by omega) (by omega)) ?_
            rw [i_nat eV]
            refine g_istore (i := 4) (L1 := [some (.ref 0), some (.int (Int32.ofNat i)), some (.int (Int32.ofNat V)), some (.int (Int32.ofNat X)), some (.int ((c.2.2.2.2.1 i) V))]) rfl (Nat.le_of_ble_eq_true rfl) rfl ?_
            refine g_aload_n (i := 0) rfl rfl ?_
            refine g_getfield (v := .ref 5) rfl h0 (by decide) rfl ?_
            refine g_getfield (v := .ref (5 + 3)) rfl F.1 (by decide) rfl ?_
            refine g_iload_n (i := 1) rfl rfl ?_
            refine g_aaload rfl a3 (by decide) (i_in (by omega) (by omega)) ?_
            rw [i_nat ei, a4 i (by omega)]
            show sGo none 128 _ 66 [some (.ref 0), some (.int (Int32.ofNat i)), some (.int (Int32.ofNat V)), some (.int (Int32.ofNat X)), some (.int ((c.2.2.2.2.1 i) V))] (.ref (5 + 4 + i) :: []) _ _
            refine g_iload_n (i := 2) rfl rfl ?_
            refine g_iload_n (i := 3) rfl rfl ?_
            refine g_iastore (n := 6) (f := (c.2.2.2.2.1 i)) (h1 := h.set (5 + 4 + i) (.inl (0, 6, .inl (upd (c.2.2.2.2.1 i) V (Int32.ofNat X))))) rfl a5 (i_in (by omega) (by omega)) (by rw [i_nat eV]) ?_
            refine g_iload (i := 4) rfl rfl ?_
            refine g_ireturn (ty := .int) rfl rfl rfl ?_
            exact ⟨rfl, rfl⟩
          · skip
            rw [i_le, eX, k_8] at c_7
            refine g_aload_n (i := 0) rfl rfl ?_
            refine g_bipush (n := (-6)) rfl ?_
            omega
      · skip
        rw [i_lt, eV, k_5] at c_4
        refine g_aload_n (i := 0) rfl rfl ?_
        refine g_iconst (n := (-1)) rfl ?_
        omega
  · skip
    omega
theorem s_worths11n {d : Nat} {h : sHp} {ik tf : Int32} {R : Nat → Int32} {c : CF} {N : Nat} {x v y : Int32} (hd : 3 ≤ d) (h0 : h[0]? = some (cO ik tf)) (hR : h[43]? = some (rFc R)) (F : FC h 5 c) (hI : c.1 11 = Int32.ofNat N) (hN : N ≤ 5) (hx : ¬ ((0 ≤ x.toInt ∧ x.toInt < (N : Int)) ∧ (0 ≤ v.toInt ∧ v.toInt < 6) ∧ 0 ≤ y.toInt ∧ y.toInt < 100)) : sDo d 128 [.ref 0, .int x, .int v, .int y] h (fun r h' => (¬ ((0 ≤ x.toInt ∧ x.toInt < (N : Int)) ∧ (0 ≤ v.toInt ∧ v.toInt < 6)) ∧ r = some (.int (-1)) ∧ h' = h.set 43 (rFc (bump R 1))) ∨ (((0 ≤ x.toInt ∧ x.toInt < (N : Int)) ∧ (0 ≤ v.toInt ∧ v.toInt < 6)) ∧ r = some (.int (-6)) ∧ h' = h.set 43 (rFc (bump R 6)))) := by
  refine sDo_of1 (nL := 5) (L := [some (.ref 0), some (.int x), some (.int v), some (.int y), none]) (by omega) rfl rfl ?_
  refine g_aload_n (i := 0) rfl rfl ?_
  refine g_getfield (v := .ref 5) rfl h0 (by decide) rfl ?_
  refine g_iload_n (i := 1) rfl rfl ?_
  refine g_virt1 (Qc := fun r h' => h' = h ∧ (((0 ≤ x.toInt ∧ x.toInt < (N : Int)) ∧ r = some (.int 1)) ∨ (¬ (0 ≤ x.toInt ∧ x.toInt < (N : Int)) ∧ r = some (.int 0)))) rfl (by decide) rfl F.1 rfl (Nat.le_of_ble_eq_true rfl) (s_hr11 (by omega) F hI hN) (fun r h hq9 => ?_)
  obtain ⟨rfl, ⟨c_1, rfl⟩ | ⟨c_1, rfl⟩⟩ := hq9
  · skip
    refine g_if_eq 21 rfl rfl (fun hc => absurd hc (by decide)) (fun _ => ?_)
    refine g_iload_n (i := 2) rfl rfl ?_
    have k_3 : (0 : Int32).toInt = 0 := rfl
    refine g_if_lt 21 rfl rfl (fun c_2 => ?_) (fun c_2 => ?_)
    · skip
      rw [i_lt, k_3] at c_2
      refine g_aload_n (i := 0) rfl rfl ?_
      refine g_iconst (n := (-1)) rfl ?_
      refine g_virt1 (Qc := fun r h' => r = some (.int ((Int32.ofInt (-1)))) ∧ h' = h.set 43 (rFc (bump R 1))) rfl (by decide) rfl h0 rfl (Nat.le_of_ble_eq_true rfl) (s_refuse2 (X := 1) (by omega) h0 hR rfl (by decide)) (fun r h9 hq9 => ?_)
      obtain ⟨rfl, rfl⟩ := hq9
      refine g_ireturn (ty := .int) rfl rfl rfl ?_
      exact Or.inl ⟨by omega, rfl, rfl⟩
    · skip
      rw [i_lt, k_3] at c_2
      refine g_iload_n (i := 2) rfl rfl ?_
      refine g_bipush (n := 6) rfl ?_
      have k_5 : ((Int8.ofInt 6).toInt32).toInt = 6 := rfl
      refine g_icmp_lt 27 rfl rfl (fun c_4 => ?_) (fun c_4 => ?_)
      · skip
        rw [i_lt, k_5] at c_4
        refine g_iload_n (i := 3) rfl rfl ?_
        refine g_if_lt 37 rfl rfl (fun c_6 => ?_) (fun c_6 => ?_)
        · skip
          rw [i_lt, k_3] at c_6
          refine g_aload_n (i := 0) rfl rfl ?_
          refine g_bipush (n := (-6)) rfl ?_
          refine g_virt1 (Qc := fun r h' => r = some (.int ((Int8.ofInt (-6)).toInt32)) ∧ h' = h.set 43 (rFc (bump R 6))) rfl (by decide) rfl h0 rfl (Nat.le_of_ble_eq_true rfl) (s_refuse2 (X := 6) (by omega) h0 hR rfl (by decide)) (fun r h9 hq9 => ?_)
          obtain ⟨rfl, rfl⟩ := hq9
          refine g_ireturn (ty := .int) rfl rfl rfl ?_
          exact Or.inr ⟨by omega, rfl, rfl⟩
        · skip
          rw [i_lt, k_3] at c_6
          refine g_iload_n (i := 3) rfl rfl ?_
          refine g_bipush (n := 99) rfl ?_
          have k_8 : ((Int8.ofInt 99).toInt32).toInt = 99 := rfl
          refine g_icmp_le 44 rfl rfl (fun c_7 => ?_) (fun c_7 => ?_)
          · skip
            rw [i_le, k_8] at c_7
            exfalso; omega
          · skip
            rw [i_le, k_8] at c_7
            refine g_aload_n (i := 0) rfl rfl ?_
            refine g_bipush (n := (-6)) rfl ?_
            refine g_virt1 (Qc := fun r h' => r = some (.int ((Int8.ofInt (-6)).toInt32)) ∧ h' = h.set 43 (rFc (bump R 6))) rfl (by decide) rfl h0 rfl (Nat.le_of_ble_eq_true rfl) (s_refuse2 (X := 6) (by omega) h0 hR rfl (by decide)) (fun r h9 hq9 => ?_)
            obtain ⟨rfl, rfl⟩ := hq9
            refine g_ireturn (ty := .int) rfl rfl rfl ?_
            exact Or.inr ⟨by omega, rfl, rfl⟩
      · skip
        rw [i_lt, k_5] at c_4
        refine g_aload_n (i := 0) rfl rfl ?_
        refine g_iconst (n := (-1)) rfl ?_
        refine g_virt1 (Qc := fun r h' => r = some (.int ((Int32.ofInt (-1)))) ∧ h' = h.set 43 (rFc (bump R 1))) rfl (by decide) rfl h0 rfl (Nat.le_of_ble_eq_true rfl) (s_refuse2 (X := 1) (by omega) h0 hR rfl (by decide)) (fun r h9 hq9 => ?_)
        obtain ⟨rfl, rfl⟩ := hq9
        refine g_ireturn (ty := .int) rfl rfl rfl ?_
        exact Or.inl ⟨by omega, rfl, rfl⟩
  · skip
    refine g_if_eq 21 rfl rfl (fun _ => ?_) (fun hc => absurd hc (by decide))
    refine g_aload_n (i := 0) rfl rfl ?_
    refine g_iconst (n := (-1)) rfl ?_
    refine g_virt1 (Qc := fun r h' => r = some (.int ((Int32.ofInt (-1)))) ∧ h' = h.set 43 (rFc (bump R 1))) rfl (by decide) rfl h0 rfl (Nat.le_of_ble_eq_true rfl) (s_refuse2 (X := 1) (by omega) h0 hR rfl (by decide)) (fun r h9 hq9 => ?_)
    obtain ⟨rfl, rfl⟩ := hq9
    refine g_ireturn (ty := .int) rfl rfl rfl ?_
    exact Or.inl ⟨by omega, rfl, rfl⟩
theorem s_worths12 {d : Nat} {h : sHp} {m : MF} {N i V X : Nat} (hd : 3 ≤ d) (M : MC h m) (hI : m.1 6 = Int32.ofNat N) (hN : N ≤ 5) (hi : i < N) (hV : V < 6) (hX : X < 100) : sDo d 208 [.ref 60, .int (Int32.ofNat i), .int (Int32.ofNat V), .int (Int32.ofNat X)] h (fun r h' => r = some (.int (m.2.2.2.2.2 (6 * i + V))) ∧ h' = h.set 66 (.inl (0, 30, .inl (upd m.2.2.2.2.2 (6 * i + V) (Int32.ofNat X))))) := by
  have ei := ofN_toInt (n := i) (by omega)
  have eV := ofN_toInt (n := V) (by omega)
  have eX := ofN_toInt (n := X) (by omega)
  refine sDo_of1 (nL := 5) (L := [some (.ref 60), some (.int (Int32.ofNat i)), some (.int (Int32.ofNat V)), some (.int (Int32.ofNat X)), none]) (by omega) rfl rfl ?_
  refine g_aload_n (i := 0) rfl rfl ?_
  refine g_iload_n (i := 1) rfl rfl ?_
  refine g_virt1 (Qc := fun r h' => h' = h ∧ (((0 ≤ (Int32.ofNat i).toInt ∧ (Int32.ofNat i).toInt < (N : Int)) ∧ r = some (.int 1)) ∨ (¬ (0 ≤ (Int32.ofNat i).toInt ∧ (Int32.ofNat i).toInt < (N : Int)) ∧ r = some (.int 0)))) rfl (by decide) rfl M.1 rfl (Nat.le_of_ble_eq_true rfl) (s_hr12 (by omega) M.1 hI hN) (fun r h hq9 => ?_)
  obtain ⟨rfl, ⟨c_1, rfl⟩ | ⟨c_1, rfl⟩⟩ := hq9
  · skip
    refine g_if_eq 17 rfl rfl (fun hc => absurd hc (by decide)) (fun _ => ?_)
    refine g_iload_n (i := 2) rfl rfl ?_
    have k_3 : (0 : Int32).toInt = 0 := rfl
    refine g_if_lt 17 rfl rfl (fun c_2 => ?_) (fun c_2 => ?_)
    · skip
      rw [i_lt, eV, k_3] at c_2
      refine g_aload_n (i := 0) rfl rfl ?_
      refine g_iconst (n := (-1)) rfl ?_
      omega
    · skip
      rw [i_lt, eV, k_3] at c_2
      refine g_iload_n (i := 2) rfl rfl ?_
      refine g_iconst (n := 5) rfl ?_
      have k_5 : (Int32.ofInt 5).toInt = 5 := rfl
      refine g_icmp_le 23 rfl rfl (fun c_4 => ?_) (fun c_4 => ?_)
      · skip
        rw [i_le, eV, k_5] at c_4
        refine g_iload_n (i := 3) rfl rfl ?_
        refine g_if_lt 33 rfl rfl (fun c_6 => ?_) (fun c_6 => ?_)
        · skip
          rw [i_lt, eX, k_3] at c_6
          refine g_aload_n (i := 0) rfl rfl ?_
          refine g_bipush (n := (-6)) rfl ?_
          omega
        · skip
          rw [i_lt, eX, k_3] at c_6
          refine g_iload_n (i := 3) rfl rfl ?_
          refine g_bipush (n := 99) rfl ?_
          have k_8 : ((Int8.ofInt 99).toInt32).toInt = 99 := rfl
          refine g_icmp_le 40 rfl rfl (fun c_7 => ?_) (fun c_7 => ?_)
          · skip
            rw [i_le, eX, k_8] at c_7
            refine g_aload_n (i := 0) rfl rfl ?_
            refine g_getfield (v := .ref 66) rfl M.1 (by decide) rfl ?_
            refine g_bipush (n := 6) rfl ?_
            refine g_iload_n (i := 1) rfl rfl ?_
            have k_9 : ((Int8.ofInt 6).toInt32).toInt = 6 := rfl
            refine g_imul rfl ?_
            have t_10 : (((Int8.ofInt 6).toInt32 * (Int32.ofNat i))).toInt = ((6 * i : Nat) : Int) := n_mul (X := 6) (Y := i) (show _ = ((6 : Nat) : Int) from k_9) (show _ = ((i : Nat) : Int) from ei) (by omega)
            refine g_iload_n (i := 2) rfl rfl ?_
            refine g_iadd rfl ?_
            have t_11 : (((Int8.ofInt 6).toInt32 * (Int32.ofNat i)) + (Int32.ofNat V)).toInt = ((6 * i + V : Nat) : Int) := by rw [i_add (by rw [t_10, eV]; omega) (by rw [t_10, eV]; omega), t_10, eV]; omega
            refine g_iaload (n := 30) (f := m.2.2.2.2.2) rfl M.2.2.2.2.2 (i_in (by omega) (by omega)) ?_
            rw [i_nat t_11]
            refine g_istore (i := 4) (L1 := [some (.ref 60), some (.int (Int32.ofNat i)), some (.int (Int32.ofNat V)), some (.int (Int32.ofNat X)), some (.int (m.2.2.2.2.2 (6 * i + V)))]) rfl (Nat.le_of_ble_eq_true rfl) rfl ?_
            refine g_aload_n (i := 0) rfl rfl ?_
            refine g_getfield (v := .ref 66) rfl M.1 (by decide) rfl ?_
            refine g_bipush (n := 6) rfl ?_
            refine g_iload_n (i := 1) rfl rfl ?_
            refine g_imul rfl ?_
            refine g_iload_n (i := 2) rfl rfl ?_
            refine g_iadd rfl ?_
            have t_12 : (((Int8.ofInt 6).toInt32 * (Int32.ofNat i)) + (Int32.ofNat V)).toInt = ((6 * i + V : Nat) : Int) := by rw [i_add (by rw [t_10, eV]; omega) (by rw [t_10, eV]; omega), t_10, eV]; omega
            refine g_iload_n (i := 3) rfl rfl ?_
            refine g_iastore (n := 30) (f := m.2.2.2.2.2) (h1 := h.set 66 (.inl (0, 30, .inl (upd m.2.2.2.2.2 (6 * i + V) (Int32.ofNat X))))) rfl M.2.2.2.2.2 (i_in (by omega) (by omega)) (by rw [i_nat t_12]) ?_
            refine g_iload (i := 4) rfl rfl ?_
            refine g_ireturn (ty := .int) rfl rfl rfl ?_
            exact ⟨rfl, rfl⟩
          · skip
            rw [i_le, eX, k_8] at c_7
            refine g_aload_n (i := 0) rfl rfl ?_
            refine g_bipush (n := (-6)) rfl ?_
            omega
      · skip
        rw [i_le, eV, k_5] at c_4
        refine g_aload_n (i := 0) rfl rfl ?_
        refine g_iconst (n := (-1)) rfl ?_
        omega
  · skip
    omega
theorem s_worths12n {d : Nat} {h : sHp} {R : Nat → Int32} {m : MF} {N : Nat} {x v y : Int32} (hd : 3 ≤ d) (M : MC h m) (hR : h[61]? = some (rFc R)) (hI : m.1 6 = Int32.ofNat N) (hN : N ≤ 5) (hx : ¬ ((0 ≤ x.toInt ∧ x.toInt < (N : Int)) ∧ (0 ≤ v.toInt ∧ v.toInt < 6) ∧ 0 ≤ y.toInt ∧ y.toInt < 100)) : sDo d 208 [.ref 60, .int x, .int v, .int y] h (fun r h' => (¬ ((0 ≤ x.toInt ∧ x.toInt < (N : Int)) ∧ (0 ≤ v.toInt ∧ v.toInt < 6)) ∧ r = some (.int (-1)) ∧ h' = h.set 61 (rFc (bump R 1))) ∨ (((0 ≤ x.toInt ∧ x.toInt < (N : Int)) ∧ (0 ≤ v.toInt ∧ v.toInt < 6)) ∧ r = some (.int (-6)) ∧ h' = h.set 61 (rFc (bump R 6)))) := by
  refine sDo_of1 (nL := 5) (L := [some (.ref 60), some (.int x), some (.int v), some (.int y), none]) (by omega) rfl rfl ?_
  refine g_aload_n (i := 0) rfl rfl ?_
  refine g_iload_n (i := 1) rfl rfl ?_
  refine g_virt1 (Qc := fun r h' => h' = h ∧ (((0 ≤ x.toInt ∧ x.toInt < (N : Int)) ∧ r = some (.int 1)) ∨ (¬ (0 ≤ x.toInt ∧ x.toInt < (N : Int)) ∧ r = some (.int 0)))) rfl (by decide) rfl M.1 rfl (Nat.le_of_ble_eq_true rfl) (s_hr12 (by omega) M.1 hI hN) (fun r h hq9 => ?_)
  obtain ⟨rfl, ⟨c_1, rfl⟩ | ⟨c_1, rfl⟩⟩ := hq9
  · skip
    refine g_if_eq 17 rfl rfl (fun hc => absurd hc (by decide)) (fun _ => ?_)
    refine g_iload_n (i := 2) rfl rfl ?_
    have k_3 : (0 : Int32).toInt = 0 := rfl
    refine g_if_lt 17 rfl rfl (fun c_2 => ?_) (fun c_2 => ?_)
    · skip
      rw [i_lt, k_3] at c_2
      refine g_aload_n (i := 0) rfl rfl ?_
      refine g_iconst (n := (-1)) rfl ?_
      refine g_virt1 (Qc := fun r h' => r = some (.int ((Int32.ofInt (-1)))) ∧ h' = h.set 61 (rFc (bump R 1))) rfl (by decide) rfl M.1 rfl (Nat.le_of_ble_eq_true rfl) (s_no2 (X := 1) (by omega) M.1 hR rfl (by decide)) (fun r h9 hq9 => ?_)
      obtain ⟨rfl, rfl⟩ := hq9
      refine g_ireturn (ty := .int) rfl rfl rfl ?_
      exact Or.inl ⟨by omega, rfl, rfl⟩
    · skip
      rw [i_lt, k_3] at c_2
      refine g_iload_n (i := 2) rfl rfl ?_
      refine g_iconst (n := 5) rfl ?_
      have k_5 : (Int32.ofInt 5).toInt = 5 := rfl
      refine g_icmp_le 23 rfl rfl (fun c_4 => ?_) (fun c_4 => ?_)
      · skip
        rw [i_le, k_5] at c_4
        refine g_iload_n (i := 3) rfl rfl ?_
        refine g_if_lt 33 rfl rfl (fun c_6 => ?_) (fun c_6 => ?_)
        · skip
          rw [i_lt, k_3] at c_6
          refine g_aload_n (i := 0) rfl rfl ?_
          refine g_bipush (n := (-6)) rfl ?_
          refine g_virt1 (Qc := fun r h' => r = some (.int ((Int8.ofInt (-6)).toInt32)) ∧ h' = h.set 61 (rFc (bump R 6))) rfl (by decide) rfl M.1 rfl (Nat.le_of_ble_eq_true rfl) (s_no2 (X := 6) (by omega) M.1 hR rfl (by decide)) (fun r h9 hq9 => ?_)
          obtain ⟨rfl, rfl⟩ := hq9
          refine g_ireturn (ty := .int) rfl rfl rfl ?_
          exact Or.inr ⟨by omega, rfl, rfl⟩
        · skip
          rw [i_lt, k_3] at c_6
          refine g_iload_n (i := 3) rfl rfl ?_
          refine g_bipush (n := 99) rfl ?_
          have k_8 : ((Int8.ofInt 99).toInt32).toInt = 99 := rfl
          refine g_icmp_le 40 rfl rfl (fun c_7 => ?_) (fun c_7 => ?_)
          · skip
            rw [i_le, k_8] at c_7
            exfalso; omega
          · skip
            rw [i_le, k_8] at c_7
            refine g_aload_n (i := 0) rfl rfl ?_
            refine g_bipush (n := (-6)) rfl ?_
            refine g_virt1 (Qc := fun r h' => r = some (.int ((Int8.ofInt (-6)).toInt32)) ∧ h' = h.set 61 (rFc (bump R 6))) rfl (by decide) rfl M.1 rfl (Nat.le_of_ble_eq_true rfl) (s_no2 (X := 6) (by omega) M.1 hR rfl (by decide)) (fun r h9 hq9 => ?_)
            obtain ⟨rfl, rfl⟩ := hq9
            refine g_ireturn (ty := .int) rfl rfl rfl ?_
            exact Or.inr ⟨by omega, rfl, rfl⟩
      · skip
        rw [i_le, k_5] at c_4
        refine g_aload_n (i := 0) rfl rfl ?_
        refine g_iconst (n := (-1)) rfl ?_
        refine g_virt1 (Qc := fun r h' => r = some (.int ((Int32.ofInt (-1)))) ∧ h' = h.set 61 (rFc (bump R 1))) rfl (by decide) rfl M.1 rfl (Nat.le_of_ble_eq_true rfl) (s_no2 (X := 1) (by omega) M.1 hR rfl (by decide)) (fun r h9 hq9 => ?_)
        obtain ⟨rfl, rfl⟩ := hq9
        refine g_ireturn (ty := .int) rfl rfl rfl ?_
        exact Or.inl ⟨by omega, rfl, rfl⟩
  · skip
    refine g_if_eq 17 rfl rfl (fun _ => ?_) (fun hc => absurd hc (by decide))
    refine g_aload_n (i := 0) rfl rfl ?_
    refine g_iconst (n := (-1)) rfl ?_
    refine g_virt1 (Qc := fun r h' => r = some (.int ((Int32.ofInt (-1)))) ∧ h' = h.set 61 (rFc (bump R 1))) rfl (by decide) rfl M.1 rfl (Nat.le_of_ble_eq_true rfl) (s_no2 (X := 1) (by omega) M.1 hR rfl (by decide)) (fun r h9 hq9 => ?_)
    obtain ⟨rfl, rfl⟩ := hq9
    refine g_ireturn (ty := .int) rfl rfl rfl ?_
    exact Or.inl ⟨by omega, rfl, rfl⟩
end
section
/-! ===== fond; pairs of soil, worths, fond ===== -/
theorem s_fond11 {d : Nat} {h : sHp} {ik tf : Int32} {c : CF} {N i : Nat} {b : Int32} (hd : 3 ≤ d) (h0 : h[0]? = some (cO ik tf)) (F : FC h 5 c) (hI : c.1 11 = Int32.ofNat N) (hN : N ≤ 5) (hi : i < N) (hb : b = 0 ∨ b = 1) : sDo d 129 [.ref 0, .int (Int32.ofNat i), .int b] h (fun r h' => ((c.2.2.2.2.2.1 i = b ∧ r = some (.int 0)) ∨ (¬ c.2.2.2.2.2.1 i = b ∧ r = some (.int 1))) ∧ h' = h.set 14 (.inl (2, 5, .inl (upd c.2.2.2.2.2.1 i b)))) := by
  have ei := ofN_toInt (n := i) (by omega)
  refine sDo_of1 (nL := 4) (L := [some (.ref 0), some (.int (Int32.ofNat i)), some (.int b), none]) (by omega) rfl rfl ?_
  refine g_aload_n (i := 0) rfl rfl ?_
  refine g_getfield (v := .ref 5) rfl h0 (by decide) rfl ?_
  refine g_iload_n (i := 1) rfl rfl ?_
  refine g_virt1 (Qc := fun r h' => h' = h ∧ (((0 ≤ (Int32.ofNat i).toInt ∧ (Int32.ofNat i).toInt < (N : Int)) ∧ r = some (.int 1)) ∨ (¬ (0 ≤ (Int32.ofNat i).toInt ∧ (Int32.ofNat i).toInt < (N : Int)) ∧ r = some (.int 0)))) rfl (by decide) rfl F.1 rfl (Nat.le_of_ble_eq_true rfl) (s_hr11 (by omega) F hI hN) (fun r h hq9 => ?_)
  obtain ⟨rfl, ⟨c_1, rfl⟩ | ⟨c_1, rfl⟩⟩ := hq9
  · skip
    refine g_if_ne 17 rfl rfl (fun _ => ?_) (fun hc => absurd hc (by decide))
    refine g_aload_n (i := 0) rfl rfl ?_
    refine g_getfield (v := .ref 5) rfl h0 (by decide) rfl ?_
    refine g_getfield (v := .ref (5 + 9)) rfl F.1 (by decide) rfl ?_
    refine g_iload_n (i := 1) rfl rfl ?_
    refine g_baload (n := 5) (f := c.2.2.2.2.2.1) rfl F.2.2.2.2.2.1 (i_in (by omega) (by omega)) ?_
    rw [i_nat ei]
    refine g_istore_n (i := 3) (L1 := [some (.ref 0), some (.int (Int32.ofNat i)), some (.int b), some (.int (c.2.2.2.2.2.1 i))]) rfl (Nat.le_of_ble_eq_true rfl) rfl ?_
    refine g_aload_n (i := 0) rfl rfl ?_
    refine g_getfield (v := .ref 5) rfl h0 (by decide) rfl ?_
    refine g_getfield (v := .ref (5 + 9)) rfl F.1 (by decide) rfl ?_
    refine g_iload_n (i := 1) rfl rfl ?_
    refine g_iload_n (i := 2) rfl rfl ?_
    refine g_bastore (h1 := h.set 14 (.inl (2, 5, .inl (upd c.2.2.2.2.2.1 i b)))) rfl F.2.2.2.2.2.1 hb (i_in (by omega) (by omega)) (by rw [i_nat ei]) ?_
    refine g_iload_n (i := 3) rfl rfl ?_
    refine g_iload_n (i := 2) rfl rfl ?_
    refine g_icmp_ne 46 rfl rfl (fun c_2 => ?_) (fun c_2 => ?_)
    · skip
      rw [i_eq] at c_2
      refine g_iconst (n := 1) rfl ?_
      refine g_ireturn (ty := .int) rfl rfl rfl ?_
      exact ⟨Or.inr ⟨fun z => c_2 (by rw [z]), rfl⟩, rfl⟩
    · skip
      rw [i_eq] at c_2
      refine g_iconst (n := 0) rfl ?_
      refine g_goto 47 rfl rfl ?_
      refine g_ireturn (ty := .int) rfl rfl rfl ?_
      exact ⟨Or.inl ⟨Int32.toInt_inj.mp c_2, rfl⟩, rfl⟩
  · skip
    omega
theorem s_fond11n {d : Nat} {h : sHp} {ik tf : Int32} {R : Nat → Int32} {c : CF} {N : Nat} {x b : Int32} (hd : 3 ≤ d) (h0 : h[0]? = some (cO ik tf)) (hR : h[43]? = some (rFc R)) (F : FC h 5 c) (hI : c.1 11 = Int32.ofNat N) (hN : N ≤ 5) (hx : ¬ (0 ≤ x.toInt ∧ x.toInt < (N : Int))) : sDo d 129 [.ref 0, .int x, .int b] h (fun r h' => r = some (.int (-1)) ∧ h' = h.set 43 (rFc (bump R 1))) := by
  refine sDo_of1 (nL := 4) (L := [some (.ref 0), some (.int x), some (.int b), none]) (by omega) rfl rfl ?_
  refine g_aload_n (i := 0) rfl rfl ?_
  refine g_getfield (v := .ref 5) rfl h0 (by decide) rfl ?_
  refine g_iload_n (i := 1) rfl rfl ?_
  refine g_virt1 (Qc := fun r h' => h' = h ∧ (((0 ≤ x.toInt ∧ x.toInt < (N : Int)) ∧ r = some (.int 1)) ∨ (¬ (0 ≤ x.toInt ∧ x.toInt < (N : Int)) ∧ r = some (.int 0)))) rfl (by decide) rfl F.1 rfl (Nat.le_of_ble_eq_true rfl) (s_hr11 (by omega) F hI hN) (fun r h hq9 => ?_)
  obtain ⟨rfl, ⟨c_1, rfl⟩ | ⟨c_1, rfl⟩⟩ := hq9
  · skip
    omega
  · skip
    refine g_if_ne 17 rfl rfl (fun hc => absurd hc (by decide)) (fun _ => ?_)
    refine g_aload_n (i := 0) rfl rfl ?_
    refine g_iconst (n := (-1)) rfl ?_
    refine g_virt1 (Qc := fun r h' => r = some (.int ((Int32.ofInt (-1)))) ∧ h' = h.set 43 (rFc (bump R 1))) rfl (by decide) rfl h0 rfl (Nat.le_of_ble_eq_true rfl) (s_refuse2 (X := 1) (by omega) h0 hR rfl (by decide)) (fun r h9 hq9 => ?_)
    obtain ⟨rfl, rfl⟩ := hq9
    refine g_ireturn (ty := .int) rfl rfl rfl ?_
    exact ⟨rfl, rfl⟩
theorem s_fond12 {d : Nat} {h : sHp} {m : MF} {N i : Nat} {b : Int32} (hd : 3 ≤ d) (M : MC h m) (hI : m.1 6 = Int32.ofNat N) (hN : N ≤ 5) (hi : i < N) (hb : b = 0 ∨ b = 1) : sDo d 209 [.ref 60, .int (Int32.ofNat i), .int b] h (fun r h' => (m.2.2.2.2.1 i = b ∧ r = some (.int 0) ∧ h' = h) ∨ (¬ m.2.2.2.2.1 i = b ∧ r = some (.int 1) ∧ h' = h.set 65 (.inl (0, 5, .inl (upd m.2.2.2.2.1 i b))))) := by
  have ei := ofN_toInt (n := i) (by omega)
  rcases hb with rfl | rfl
  · refine sDo_of1 (nL := 4) (L := [some (.ref 60), some (.int (Int32.ofNat i)), some (.int 0), none]) (by omega) rfl rfl ?_
    refine g_aload_n (i := 0) rfl rfl ?_
    refine g_iload_n (i := 1) rfl rfl ?_
    refine g_virt1 (Qc := fun r h' => h' = h ∧ (((0 ≤ (Int32.ofNat i).toInt ∧ (Int32.ofNat i).toInt < (N : Int)) ∧ r = some (.int 1)) ∨ (¬ (0 ≤ (Int32.ofNat i).toInt ∧ (Int32.ofNat i).toInt < (N : Int)) ∧ r = some (.int 0)))) rfl (by decide) rfl M.1 rfl (Nat.le_of_ble_eq_true rfl) (s_hr12 (by omega) M.1 hI hN) (fun r h hq9 => ?_)
    obtain ⟨rfl, ⟨c_1, rfl⟩ | ⟨c_1, rfl⟩⟩ := hq9
    · skip
      refine g_if_ne 14 rfl rfl (fun _ => ?_) (fun hc => absurd hc (by decide))
      refine g_iload_n (i := 2) rfl rfl ?_
      refine g_if_eq 22 rfl rfl (fun _ => ?_) (fun hc => absurd hc (by decide))
      refine g_iconst (n := 0) rfl ?_
      refine g_istore_n (i := 3) (L1 := [some (.ref 60), some (.int (Int32.ofNat i)), some (.int 0), some (.int (Int32.ofInt 0))]) rfl (Nat.le_of_ble_eq_true rfl) rfl ?_
      refine g_aload_n (i := 0) rfl rfl ?_
      refine g_getfield (v := .ref 65) rfl M.1 (by decide) rfl ?_
      refine g_iload_n (i := 1) rfl rfl ?_
      refine g_iaload (n := 5) (f := m.2.2.2.2.1) rfl M.2.2.2.2.1 (i_in (by omega) (by omega)) ?_
      rw [i_nat ei]
      refine g_iload_n (i := 3) rfl rfl ?_
      have k_3 : (Int32.ofInt 0).toInt = 0 := rfl
      refine g_icmp_ne 36 rfl rfl (fun c_2 => ?_) (fun c_2 => ?_)
      · skip
        rw [i_eq, k_3] at c_2
        refine g_aload_n (i := 0) rfl rfl ?_
        refine g_getfield (v := .ref 65) rfl M.1 (by decide) rfl ?_
        refine g_iload_n (i := 1) rfl rfl ?_
        refine g_iload_n (i := 3) rfl rfl ?_
        refine g_iastore (n := 5) (f := m.2.2.2.2.1) (h1 := h.set 65 (.inl (0, 5, .inl (upd m.2.2.2.2.1 i 0)))) rfl M.2.2.2.2.1 (i_in (by omega) (by omega)) (by rw [i_nat ei]; rfl) ?_
        refine g_iconst (n := 1) rfl ?_
        refine g_ireturn (ty := .int) rfl rfl rfl ?_
        exact Or.inr ⟨fun z => c_2 (by rw [z]; rfl), rfl, rfl⟩
      · skip
        rw [i_eq, k_3] at c_2
        refine g_iconst (n := 0) rfl ?_
        refine g_ireturn (ty := .int) rfl rfl rfl ?_
        exact Or.inl ⟨Int32.toInt_inj.mp (c_2.trans (show (0 : Int) = ((0 : Int32)).toInt from rfl)), rfl, rfl⟩
    · skip
      omega
  · refine sDo_of1 (nL := 4) (L := [some (.ref 60), some (.int (Int32.ofNat i)), some (.int 1), none]) (by omega) rfl rfl ?_
    refine g_aload_n (i := 0) rfl rfl ?_
    refine g_iload_n (i := 1) rfl rfl ?_
    refine g_virt1 (Qc := fun r h' => h' = h ∧ (((0 ≤ (Int32.ofNat i).toInt ∧ (Int32.ofNat i).toInt < (N : Int)) ∧ r = some (.int 1)) ∨ (¬ (0 ≤ (Int32.ofNat i).toInt ∧ (Int32.ofNat i).toInt < (N : Int)) ∧ r = some (.int 0)))) rfl (by decide) rfl M.1 rfl (Nat.le_of_ble_eq_true rfl) (s_hr12 (by omega) M.1 hI hN) (fun r h hq9 => ?_)
    obtain ⟨rfl, ⟨c_1, rfl⟩ | ⟨c_1, rfl⟩⟩ := hq9
    · skip
      refine g_if_ne 14 rfl rfl (fun _ => ?_) (fun hc => absurd hc (by decide))
      refine g_iload_n (i := 2) rfl rfl ?_
      refine g_if_eq 22 rfl rfl (fun hc => absurd hc (by decide)) (fun _ => ?_)
      refine g_iconst (n := 1) rfl ?_
      refine g_goto 23 rfl rfl ?_
      refine g_istore_n (i := 3) (L1 := [some (.ref 60), some (.int (Int32.ofNat i)), some (.int 1), some (.int (Int32.ofInt 1))]) rfl (Nat.le_of_ble_eq_true rfl) rfl ?_
      refine g_aload_n (i := 0) rfl rfl ?_
      refine g_getfield (v := .ref 65) rfl M.1 (by decide) rfl ?_
      refine g_iload_n (i := 1) rfl rfl ?_
      refine g_iaload (n := 5) (f := m.2.2.2.2.1) rfl M.2.2.2.2.1 (i_in (by omega) (by omega)) ?_
      rw [i_nat ei]
      refine g_iload_n (i := 3) rfl rfl ?_
      have k_3 : (Int32.ofInt 1).toInt = 1 := rfl
      refine g_icmp_ne 36 rfl rfl (fun c_2 => ?_) (fun c_2 => ?_)
      · skip
        rw [i_eq, k_3] at c_2
        refine g_aload_n (i := 0) rfl rfl ?_
        refine g_getfield (v := .ref 65) rfl M.1 (by decide) rfl ?_
        refine g_iload_n (i := 1) rfl rfl ?_
        refine g_iload_n (i := 3) rfl rfl ?_
        refine g_iastore (n := 5) (f := m.2.2.2.2.1) (h1 := h.set 65 (.inl (0, 5, .inl (upd m.2.2.2.2.1 i 1)))) rfl M.2.2.2.2.1 (i_in (by omega) (by omega)) (by rw [i_nat ei]; rfl) ?_
        refine g_iconst (n := 1) rfl ?_
        refine g_ireturn (ty := .int) rfl rfl rfl ?_
        exact Or.inr ⟨fun z => c_2 (by rw [z]; rfl), rfl, rfl⟩
      · skip
        rw [i_eq, k_3] at c_2
        refine g_iconst (n := 0) rfl ?_
        refine g_ireturn (ty := .int) rfl rfl rfl ?_
        exact Or.inl ⟨Int32.toInt_inj.mp (c_2.trans (show (1 : Int) = ((1 : Int32)).toInt from rfl)), rfl, rfl⟩
    · skip
      omega
theorem s_fond12n {d : Nat} {h : sHp} {R : Nat → Int32} {m : MF} {N : Nat} {x b : Int32} (hd : 3 ≤ d) (M : MC h m) (hR : h[61]? = some (rFc R)) (hI : m.1 6 = Int32.ofNat N) (hN : N ≤ 5) (hx : ¬ (0 ≤ x.toInt ∧ x.toInt < (N : Int))) : sDo d 209 [.ref 60, .int x, .int b] h (fun r h' => r = some (.int (-1)) ∧ h' = h.set 61 (rFc (bump R 1))) := by
  refine sDo_of1 (nL := 4) (L := [some (.ref 60), some (.int x), some (.int b), none]) (by omega) rfl rfl ?_
  refine g_aload_n (i := 0) rfl rfl ?_
  refine g_iload_n (i := 1) rfl rfl ?_
  refine g_virt1 (Qc := fun r h' => h' = h ∧ (((0 ≤ x.toInt ∧ x.toInt < (N : Int)) ∧ r = some (.int 1)) ∨ (¬ (0 ≤ x.toInt ∧ x.toInt < (N : Int)) ∧ r = some (.int 0)))) rfl (by decide) rfl M.1 rfl (Nat.le_of_ble_eq_true rfl) (s_hr12 (by omega) M.1 hI hN) (fun r h hq9 => ?_)
  obtain ⟨rfl, ⟨c_1, rfl⟩ | ⟨c_1, rfl⟩⟩ := hq9
  · skip
    omega
  · skip
    refine g_if_ne 14 rfl rfl (fun hc => absurd hc (by decide)) (fun _ => ?_)
    refine g_aload_n (i := 0) rfl rfl ?_
    refine g_iconst (n := (-1)) rfl ?_
    refine g_virt1 (Qc := fun r h' => r = some (.int ((Int32.ofInt (-1)))) ∧ h' = h.set 61 (rFc (bump R 1))) rfl (by decide) rfl M.1 rfl (Nat.le_of_ble_eq_true rfl) (s_no2 (X := 1) (by omega) M.1 hR rfl (by decide)) (fun r h9 hq9 => ?_)
    obtain ⟨rfl, rfl⟩ := hq9
    refine g_ireturn (ty := .int) rfl rfl rfl ?_
    exact ⟨rfl, rfl⟩
theorem one_set {c : CF} {W H q : Nat} (g : gdF c W H) (hq : q < W * H) : (lowS (Int32.ofNat (q + 1)) &&& c.2.1 2) &&& ((lowS (Int32.ofNat q) &&& c.2.1 2) ^^^ Int64.ofNat 18446744073709551615) = (Int64.ofNat 1 <<< ((Int32.ofNat q).toInt64 &&& 63)) := by
  have hn := gdF_n g
  have g2 : c.2.1 2 = stO (fun _ => true) (W * H) := g.2.2.2.2.2.2.1
  refine bt_ext (fun i hi => ?_)
  show bt ((lowS (Int32.ofNat (q + 1)) &&& c.2.1 2) &&& ((lowS (Int32.ofNat q) &&& c.2.1 2) ^^^ lM1)) i = _
  rw [bt_and, bt_and, bt_not, bt_and, g2, bt_stO _ _ hn.1, bt_low2 (by omega) hi, bt_low2 (by omega) hi, bt_one (by omega), decide_eq_true hi, Bool.true_and, Bool.and_true]
  by_cases w : i = q
  · rw [decide_eq_true w, decide_eq_true (show i < q + 1 by omega), decide_eq_true (show i < W * H by omega), decide_eq_false (show ¬ i < q by omega)]; rfl
  · rw [decide_eq_false w]
    by_cases w2 : i < q
    · rw [decide_eq_true w2, decide_eq_true (show i < W * H by omega)]
      simp
    · rw [decide_eq_false (show ¬ i < q + 1 by omega), Bool.false_and, Bool.false_and]
theorem vZ0 {h : sHp} {b : Int32} (hb : b = 0 ∨ b = 1) : bT h (.inl (.ofNat 0, .ofNat 1)) (.int b) := ⟨b, rfl, by rcases hb with rfl | rfl <;> decide, by rcases hb with rfl | rfl <;> decide⟩
/-- FOND told anew -/
def relFo (Rel : CF → MF → Prop) : Prop := ∀ (c : CF) (m : MF) (s : Sg) (i : Nat) (b : Int32), Rel c m → sgI c s → i < s.2.2 → (b = 0 ∨ b = 1) → Rel (c.1, c.2.1, c.2.2.1, c.2.2.2.1, c.2.2.2.2.1, upd c.2.2.2.2.2.1 i b, c.2.2.2.2.2.2) (m.1, m.2.1, m.2.2.1, m.2.2.2.1, upd m.2.2.2.2.1 i b, m.2.2.2.2.2)
theorem RB_fo : relFo RB := fun c m s i b r q hi hb => by
  refine RB_mk (s := s) (RN_J (m' := (m.1, m.2.1, m.2.2.1, m.2.2.2.1, upd m.2.2.2.2.1 i b, m.2.2.2.2.2)) (RN_C (c' := (c.1, c.2.1, c.2.2.1, c.2.2.2.1, c.2.2.2.2.1, upd c.2.2.2.2.2.1 i b, c.2.2.2.2.2.2)) r.1 (fun _ _ => rfl) (fun _ _ _ => rfl)) (fun _ _ => rfl)) q ?_ (r.2 s q).2
  obtain ⟨r1, r2, r3, r4, r5⟩ := (r.2 s q).1
  refine ⟨r1, r2, fun k hk => ⟨(r3 k hk).1, ?_⟩, r4, fun k hk => ⟨(r5 k hk).1, ?_, (r5 k hk).2.2⟩⟩
  rotate_left
  · show upd m.2.2.2.2.1 i b k = 0 ∨ upd m.2.2.2.2.1 i b k = 1
    by_cases w : k = i
    · rw [w, u_at]; exact hb
    · rw [u_ne w]; exact (r5 k hk).2.1
  show upd c.2.2.2.2.2.1 i b k = upd m.2.2.2.2.1 i b k
  by_cases w : k = i
  · rw [w, u_at, u_at]
  · rw [u_ne w, u_ne w]; exact (r3 k hk).2
theorem pk_soil {Rel : CF → MF → Prop} (ok : relOk Rel) (hB : ∀ c m, Rel c m → RB c m) (x : Int32) (v : Int32) : pairR (bFL Rel) 125 205 [.int x, .int v] := pr_mk (c1 := cn_X11_soil_0) (c2 := cn_X12_soil_0) ch_X11_soil_0 ch_X12_soil_0 (by decide +kernel) (by decide +kernel) (by decide +kernel) (by decide +kernel) rfl rfl (fun h hH => ⟨bt0 hH, vI0 x, vI0 v, trivial⟩) (fun h hH => ⟨bt60 hH, vI0 x, vI0 v, trivial⟩) (fun h hH hR => by
  obtain ⟨c, ck, m, g, ik, tf, kc, km, ej, rl, rk⟩ := hR
  have F := kc.1
  have q0 := kc.2.2.1
  obtain ⟨Rc, hRc⟩ := RA_of hH (p := 43) (Or.inl rfl)
  obtain ⟨s, sI, sJ, gF, gM⟩ := RN_sg (ok.2.2.2.2.1 _ _ rl)
  have hn := gdF_n gF
  by_cases hx : (0 ≤ x.toInt ∧ x.toInt < ((s.1 * s.2.1 : Nat) : Int)) ∧ 0 ≤ v.toInt ∧ v.toInt < 6
  · have RS := ((hB _ _ rl).2 s sI).1
    obtain ⟨q, hq⟩ : ∃ q : Nat, x.toInt = q := ⟨x.toInt.toNat, by omega⟩
    have e_x : x = Int32.ofNat q := Int32.toInt_inj.mp (by rw [hq, ofN_toInt (by omega)])
    subst e_x
    obtain ⟨V, hV⟩ : ∃ V : Nat, v.toInt = V := ⟨v.toInt.toNat, by omega⟩
    have e_v : v = Int32.ofNat V := Int32.toInt_inj.mp (by rw [hV, ofN_toInt (by omega)])
    subst e_v
    obtain ⟨U, hU, eU⟩ := RS.2.1 q (by omega)
    have hb : ∀ u, u < 6 → bt (c.2.2.1 u) q = decide (u = U) := fun u hu => by
      rw [RS.1 u hu, bt_stO _ _ hn.1, decide_eq_true (show q < s.1 * s.2.1 by omega), Bool.true_and, eU]
      exact decide_eq_decide.mpr ⟨fun z => (ofN_inj (by omega) (by omega) z).symm, fun z => by rw [z]⟩
    refine sDo_mono (s_soil11 (d := 10) (W := s.1) (H := s.2.1) (q := q) (V := V) (U := U) (by omega) q0 hRc F gF (by omega) hU (by omega) hb) (fun r1 h1 p1 hH1 fr1 => ?_)
    obtain ⟨rfl, rfl⟩ := p1
    have F1 := FC_1 (so := giveS c.2.2.1 6 (Int64.ofNat 1 <<< ((Int32.ofNat q).toInt64 &&& 63)) V) F
    have E1 : fE 5 h (h.set 6 (.inl (1, 6, .inr (.inl (giveS c.2.2.1 6 (Int64.ofNat 1 <<< ((Int32.ofNat q).toInt64 &&& 63)) V))))) := fE_set fE_rfl (by decide) (by decide)
    have km1 := kM_fE km E1
    refine sDo_mono (s_soil12 (d := 10) (W := s.1) (H := s.2.1) (q := q) (V := V) (by omega) km1.1 gM (by omega) (by omega)) (fun r2 h2 p hH2 fr2 => ?_)
    obtain ⟨rfl, rfl⟩ := p
    have M2 := MC_1 (f := upd m.2.1 q (Int32.ofNat V)) km1.1
    have E2 := mE_set (q := 62) (x := .inl (0, 64, .inl (upd m.2.1 q (Int32.ofNat V)))) (mE_rfl (h := h.set 6 (.inl (1, 6, .inr (.inl (giveS c.2.2.1 6 (Int64.ofNat 1 <<< ((Int32.ofNat q).toInt64 &&& 63)) V)))))) (by decide)
    have rl2 := ok.2.1 c m s (1, V, q, q) rl sI sJ ⟨by omega, Nat.le_refl q, by omega⟩
    have e1 : cfDo c (1, V, q, q) = (c.1, c.2.1, giveS c.2.2.1 6 (Int64.ofNat 1 <<< ((Int32.ofNat q).toInt64 &&& 63)) V, c.2.2.2) := by
      show (c.1, c.2.1, giveS c.2.2.1 6 ((lowS (Int32.ofNat (q + 1)) &&& c.2.1 2) &&& ((lowS (Int32.ofNat q) &&& c.2.1 2) ^^^ Int64.ofNat 18446744073709551615)) V, c.2.2.2) = _
      rw [one_set gF (by omega)]
    have e2 : mfDo m (1, V, q, q) = (m.1, upd m.2.1 q (Int32.ofNat V), m.2.2) := by
      show (m.1, (fun i => if q ≤ i ∧ i ≤ q then Int32.ofNat V else m.2.1 i), m.2.2) = _
      rw [show (fun i => if q ≤ i ∧ i ≤ q then Int32.ofNat V else m.2.1 i) = upd m.2.1 q (Int32.ofNat V) from funext fun i => by
        unfold upd
        by_cases e : i = q
        · rw [if_pos (show q ≤ i ∧ i ≤ q by omega), if_pos e]
        · rw [if_neg (show ¬ (q ≤ i ∧ i ≤ q) by omega), if_neg e]]
    rw [e1, e2] at rl2
    exact ⟨⟨_, ck, _, g, ik, tf, kC_mE (kC_5 kc F1 E1) E2, ⟨M2, (E2.2 75 (by decide) (by decide)).trans km1.2⟩, ej, rl2, rk⟩, _, rfl, congrArg (fun z => some (Value.int z)) eU⟩
  · refine sDo_mono (s_soil11n (d := 10) (x := x) (v := v) (by omega) q0 hRc F gF hx) (fun r1 h1 p1 hH1 fr1 => ?_)
    obtain ⟨rfl, rfl⟩ := p1
    obtain ⟨Rm, hRm⟩ := RA_of hH1 (p := 61) (Or.inr rfl)
    refine sDo_mono (s_soil12n (d := 10) (x := x) (v := v) (by omega) (kM_43 km).1 hRm gM hx) (fun r2 h2 p hH2 fr2 => ?_)
    obtain ⟨rfl, rfl⟩ := p
    exact ⟨⟨c, ck, m, g, ik, tf, kC_61 (kC_43 kc), kM_61 (kM_43 km), ej, rl, rk⟩, _, rfl, rfl⟩)
theorem pk_worths {Rel : CF → MF → Prop} (ok : relOk Rel) (hB : ∀ c m, Rel c m → RB c m) (x : Int32) (v : Int32) (y : Int32) : pairR (bFL Rel) 128 208 [.int x, .int v, .int y] := pr_mk (c1 := cn_X11_worths_0) (c2 := cn_X12_worths_0) ch_X11_worths_0 ch_X12_worths_0 (by decide +kernel) (by decide +kernel) (by decide +kernel) (by decide +kernel) rfl rfl (fun h hH => ⟨bt0 hH, vI0 x, vI0 v, vI0 y, trivial⟩) (fun h hH => ⟨bt60 hH, vI0 x, vI0 v, vI0 y, trivial⟩) (fun h hH hR => by
  obtain ⟨c, ck, m, g, ik, tf, kc, km, ej, rl, rk⟩ := hR
  have F := kc.1
  have q0 := kc.2.2.1
  obtain ⟨Rc, hRc⟩ := RA_of hH (p := 43) (Or.inl rfl)
  obtain ⟨s, sI, sJ, gF, gM⟩ := RN_sg (ok.2.2.2.2.1 _ _ rl)
  by_cases hx : (0 ≤ x.toInt ∧ x.toInt < (s.2.2 : Int)) ∧ (0 ≤ v.toInt ∧ v.toInt < 6) ∧ 0 ≤ y.toInt ∧ y.toInt < 100
  · have RS := ((hB _ _ rl).2 s sI).1
    have n5 := sI.2.2.2.2.2.2.2
    obtain ⟨i, hi⟩ : ∃ i : Nat, x.toInt = i := ⟨x.toInt.toNat, by omega⟩
    have e_x : x = Int32.ofNat i := Int32.toInt_inj.mp (by rw [hi, ofN_toInt (by omega)])
    subst e_x
    obtain ⟨V, hV⟩ : ∃ V : Nat, v.toInt = V := ⟨v.toInt.toNat, by omega⟩
    have e_v : v = Int32.ofNat V := Int32.toInt_inj.mp (by rw [hV, ofN_toInt (by omega)])
    subst e_v
    obtain ⟨X, hX⟩ : ∃ X : Nat, y.toInt = X := ⟨y.toInt.toNat, by omega⟩
    have e_y : y = Int32.ofNat X := Int32.toInt_inj.mp (by rw [hX, ofN_toInt (by omega)])
    subst e_y
    refine sDo_mono (s_worths11 (d := 10) (N := s.2.2) (i := i) (V := V) (X := X) (by omega) q0 F sI.2.2.1 n5 (by omega) (by omega) (by omega)) (fun r1 h1 p1 hH1 fr1 => ?_)
    obtain ⟨rfl, rfl⟩ := p1
    have F1 := FC_4 (k0 := i) (w := upd (c.2.2.2.2.1 i) V (Int32.ofNat X)) F (by omega)
    have E1 : fE 5 h (h.set (5 + 4 + i) (.inl (0, 6, .inl (upd (c.2.2.2.2.1 i) V (Int32.ofNat X))))) := fE_set fE_rfl (by omega) (by omega)
    have km1 := kM_fE km E1
    refine sDo_mono (s_worths12 (d := 10) (N := s.2.2) (i := i) (V := V) (X := X) (by omega) km1.1 sJ.2.2.1 n5 (by omega) (by omega) (by omega)) (fun r2 h2 p hH2 fr2 => ?_)
    obtain ⟨rfl, rfl⟩ := p
    have M2 := MC_5 (f := upd m.2.2.2.2.2 (6 * i + V) (Int32.ofNat X)) km1.1
    have E2 := mE_set (q := 66) (x := .inl (0, 30, .inl (upd m.2.2.2.2.2 (6 * i + V) (Int32.ofNat X)))) (mE_rfl (h := h.set (5 + 4 + i) (.inl (0, 6, .inl (upd (c.2.2.2.2.1 i) V (Int32.ofNat X)))))) (by decide)
    have rl2 := ok.2.1 c m s (4, i, V, X) rl sI sJ ⟨by omega, by omega, by omega⟩
    exact ⟨⟨_, ck, _, g, ik, tf, kC_mE (kC_5 kc F1 E1) E2, ⟨M2, (E2.2 75 (by decide) (by decide)).trans km1.2⟩, ej, rl2, rk⟩, _, rfl, congrArg (fun z => some (Value.int z)) (RS.2.2.2.1 i (by omega) V (by omega)).symm⟩
  · refine sDo_mono (s_worths11n (d := 10) (x := x) (v := v) (y := y) (by omega) q0 hRc F sI.2.2.1 sI.2.2.2.2.2.2.2 hx) (fun r1 h1 p1 hH1 fr1 => ?_)
    obtain ⟨Rm, hRm⟩ := RA_of hH1 (p := 61) (Or.inr rfl)
    rcases p1 with ⟨k1, rfl, rfl⟩ | ⟨k1, rfl, rfl⟩
    · refine sDo_mono (s_worths12n (d := 10) (x := x) (v := v) (y := y) (by omega) (kM_43 km).1 hRm sJ.2.2.1 sJ.2.2.2.2.2.2.2 hx) (fun r2 h2 p hH2 fr2 => ?_)
      rcases p with ⟨-, rfl, rfl⟩ | ⟨k2, -⟩
      · exact ⟨⟨c, ck, m, g, ik, tf, kC_61 (kC_43 kc), kM_61 (kM_43 km), ej, rl, rk⟩, _, rfl, rfl⟩
      · exact absurd k2 k1
    · refine sDo_mono (s_worths12n (d := 10) (x := x) (v := v) (y := y) (by omega) (kM_43 km).1 hRm sJ.2.2.1 sJ.2.2.2.2.2.2.2 hx) (fun r2 h2 p hH2 fr2 => ?_)
      rcases p with ⟨k2, -⟩ | ⟨-, rfl, rfl⟩
      · exact absurd k1 k2
      · exact ⟨⟨c, ck, m, g, ik, tf, kC_61 (kC_43 kc), kM_61 (kM_43 km), ej, rl, rk⟩, _, rfl, rfl⟩)
theorem pk_fond {Rel : CF → MF → Prop} (ok : relOk Rel) (hB : ∀ c m, Rel c m → RB c m) (hF : relFo Rel) (x : Int32) (b : Int32) (hb : b = 0 ∨ b = 1) : pairR (bFL Rel) 129 209 [.int x, .int b] := pr_mk (c1 := cn_X11_fond_0) (c2 := cn_X12_fond_0) ch_X11_fond_0 ch_X12_fond_0 (by decide +kernel) (by decide +kernel) (by decide +kernel) (by decide +kernel) rfl rfl (fun h hH => ⟨bt0 hH, vI0 x, vZ0 hb, trivial⟩) (fun h hH => ⟨bt60 hH, vI0 x, vZ0 hb, trivial⟩) (fun h hH hR => by
  obtain ⟨c, ck, m, g, ik, tf, kc, km, ej, rl, rk⟩ := hR
  have F := kc.1
  have q0 := kc.2.2.1
  obtain ⟨Rc, hRc⟩ := RA_of hH (p := 43) (Or.inl rfl)
  obtain ⟨s, sI, sJ, gF, gM⟩ := RN_sg (ok.2.2.2.2.1 _ _ rl)
  by_cases hx : 0 ≤ x.toInt ∧ x.toInt < (s.2.2 : Int)
  · have RS := ((hB _ _ rl).2 s sI).1
    have n5 := sI.2.2.2.2.2.2.2
    obtain ⟨i, hi⟩ : ∃ i : Nat, x.toInt = i := ⟨x.toInt.toNat, by omega⟩
    have e_x : x = Int32.ofNat i := Int32.toInt_inj.mp (by rw [hi, ofN_toInt (by omega)])
    subst e_x
    refine sDo_mono (s_fond11 (d := 10) (N := s.2.2) (i := i) (b := b) (by omega) q0 F sI.2.2.1 n5 (by omega) hb) (fun r1 h1 p1 hH1 fr1 => ?_)
    obtain ⟨p1, rfl⟩ := p1
    have F1 := FC_9 (fo := upd c.2.2.2.2.2.1 i b) F
    have E1 : fE 5 h (h.set 14 (.inl (2, 5, .inl (upd c.2.2.2.2.2.1 i b)))) := fE_set fE_rfl (by decide) (by decide)
    have km1 := kM_fE km E1
    have rl2 := hF c m s i b rl sI (by omega) hb
    have ef := (RS.2.2.1 i (by omega)).2
    refine sDo_mono (s_fond12 (d := 10) (N := s.2.2) (i := i) (b := b) (by omega) km1.1 sJ.2.2.1 n5 (by omega) hb) (fun r2 h2 p hH2 fr2 => ?_)
    rcases p with ⟨k2, rfl, rfl⟩ | ⟨k2, rfl, rfl⟩
    · rcases p1 with ⟨-, rfl⟩ | ⟨k1, -⟩
      · have e2 : upd m.2.2.2.2.1 i b = m.2.2.2.2.1 := funext fun j => by
          by_cases w : j = i
          · rw [w, u_at, k2]
          · rw [u_ne w]
        rw [e2] at rl2
        exact ⟨⟨_, ck, m, g, ik, tf, kC_5 kc F1 E1, km1, ej, rl2, rk⟩, _, rfl, rfl⟩
      · exact absurd (ef.trans k2) k1
    · rcases p1 with ⟨k1, -⟩ | ⟨-, rfl⟩
      · exact absurd (ef.symm.trans k1) k2
      · have M2 := MC_4 (f := upd m.2.2.2.2.1 i b) km1.1
        have E2 := mE_set (q := 65) (x := .inl (0, 5, .inl (upd m.2.2.2.2.1 i b))) (mE_rfl (h := h.set 14 (.inl (2, 5, .inl (upd c.2.2.2.2.2.1 i b))))) (by decide)
        exact ⟨⟨_, ck, _, g, ik, tf, kC_mE (kC_5 kc F1 E1) E2, ⟨M2, (E2.2 75 (by decide) (by decide)).trans km1.2⟩, ej, rl2, rk⟩, _, rfl, rfl⟩
  · refine sDo_mono (s_fond11n (d := 10) (x := x) (b := b) (by omega) q0 hRc F sI.2.2.1 sI.2.2.2.2.2.2.2 hx) (fun r1 h1 p1 hH1 fr1 => ?_)
    obtain ⟨rfl, rfl⟩ := p1
    obtain ⟨Rm, hRm⟩ := RA_of hH1 (p := 61) (Or.inr rfl)
    refine sDo_mono (s_fond12n (d := 10) (x := x) (b := b) (by omega) (kM_43 km).1 hRm sJ.2.2.1 sJ.2.2.2.2.2.2.2 hx) (fun r2 h2 p hH2 fr2 => ?_)
    obtain ⟨rfl, rfl⟩ := p
    exact ⟨⟨c, ck, m, g, ik, tf, kC_61 (kC_43 kc), kM_61 (kM_43 km), ej, rl, rk⟩, _, rfl, rfl⟩)
end
section
/-! ===== shelves and fields together ===== -/
def bR8 (h : sHp) : Prop := bR5 h ∧ bFL RB h
def bR8M : List Nat := bRM ++ (KBc ++ KBm)
theorem bR8_fr {W gg : Nat} {h h' : sHp} (hH' : bH h') (a : bFr W gg h h') (hW : ∀ b ∈ bR8M, W.testBit b = false) (q : bR8 h) : bR8 h' := ⟨bR5_fr a (fun b hb => hW b (List.mem_append_left _ hb)) q.1, bFL_frO RB_ok RB_no hH' a (fun b hb => hW b (List.mem_append_right _ (List.mem_append_left _ hb))) (fun b hb => hW b (List.mem_append_right _ (List.mem_append_right _ hb))) q.2⟩
theorem pr8_row (s : Int32) (a : Int32) (x : Int32) : pairR bR8 114 178 [.int s, .int a, .int x] := pr_and (R := bR5) (P := bFL RB) (c1 := cn_X11_row_0) (c2 := cn_X12_row_0) (pr_row s a x) (fun hH a q => bFL_frO RB_ok RB_no hH a (by decide +kernel) (by decide +kernel) q) (fun hH a q => bFL_frO RB_ok RB_no hH a (by decide +kernel) (by decide +kernel) q) ch_X11_row_0 ch_X12_row_0 (by decide +kernel) (by decide +kernel) rfl rfl (fun h hH => ⟨bt0 hH, vI0 s, vI0 a, vI0 x, trivial⟩) (fun h hH => ⟨bt60 hH, vI0 s, vI0 a, vI0 x, trivial⟩)
theorem pr8_set (s : Int32) (i : Int32) (v : Int64) : pairR bR8 115 179 [.int s, .int i, .long v] := pr_and (R := bR5) (P := bFL RB) (c1 := cn_X11_set_0) (c2 := cn_X12_set_0) (pr_set s i v) (fun hH a q => bFL_frO RB_ok RB_no hH a (by decide +kernel) (by decide +kernel) q) (fun hH a q => bFL_frO RB_ok RB_no hH a (by decide +kernel) (by decide +kernel) q) ch_X11_set_0 ch_X12_set_0 (by decide +kernel) (by decide +kernel) rfl rfl (fun h hH => ⟨bt0 hH, vI0 s, vI0 i, vL0 v, trivial⟩) (fun h hH => ⟨bt60 hH, vI0 s, vI0 i, vL0 v, trivial⟩)
theorem pr8_cut (s : Int32) (c : Int32) : pairR bR8 118 182 [.int s, .int c] := pr_and (R := bR5) (P := bFL RB) (c1 := cn_X11_cut_0) (c2 := cn_X12_cut_0) (pr_cut s c) (fun hH a q => bFL_frO RB_ok RB_no hH a (by decide +kernel) (by decide +kernel) q) (fun hH a q => bFL_frO RB_ok RB_no hH a (by decide +kernel) (by decide +kernel) q) ch_X11_cut_0 ch_X12_cut_0 (by decide +kernel) (by decide +kernel) rfl rfl (fun h hH => ⟨bt0 hH, vI0 s, vI0 c, trivial⟩) (fun h hH => ⟨bt60 hH, vI0 s, vI0 c, trivial⟩)
theorem pr8_copy (p : Int32) (q : Int32) (i : Int32) (j : Int32) (n : Int32) : pairR bR8 116 180 [.int p, .int q, .int i, .int j, .int n] := pr_and (R := bR5) (P := bFL RB) (c1 := cn_X11_copy_0) (c2 := cn_X12_copy_0) (pr_copy p q i j n) (fun hH a q => bFL_frO RB_ok RB_no hH a (by decide +kernel) (by decide +kernel) q) (fun hH a q => bFL_frO RB_ok RB_no hH a (by decide +kernel) (by decide +kernel) q) ch_X11_copy_0 ch_X12_copy_0 (by decide +kernel) (by decide +kernel) rfl rfl (fun h hH => ⟨bt0 hH, vI0 p, vI0 q, vI0 i, vI0 j, vI0 n, trivial⟩) (fun h hH => ⟨bt60 hH, vI0 p, vI0 q, vI0 i, vI0 j, vI0 n, trivial⟩)
theorem pr8_size (x : Int32) (y : Int32) : pairR bR8 124 204 [.int x, .int y] := pr_swap (A := bFL RB) (B := bR5) (pr_and (R := bFL RB) (P := bR5) (c1 := cn_X11_size_0) (c2 := cn_X12_size_0) (pk_size RB_ok  x y) (fun hH a q => bR5_fr a (by decide +kernel) q) (fun hH a q => bR5_fr a (by decide +kernel) q) ch_X11_size_0 ch_X12_size_0 (by decide +kernel) (by decide +kernel) rfl rfl (fun h hH => ⟨bt0 hH, vI0 x, vI0 y, trivial⟩) (fun h hH => ⟨bt60 hH, vI0 x, vI0 y, trivial⟩))
theorem pr8_place (x : Int32) (v : Int32) : pairR bR8 126 206 [.int x, .int v] := pr_swap (A := bFL RB) (B := bR5) (pr_and (R := bFL RB) (P := bR5) (c1 := cn_X11_place_0) (c2 := cn_X12_place_0) (pk_place RB_ok  x v) (fun hH a q => bR5_fr a (by decide +kernel) q) (fun hH a q => bR5_fr a (by decide +kernel) q) ch_X11_place_0 ch_X12_place_0 (by decide +kernel) (by decide +kernel) rfl rfl (fun h hH => ⟨bt0 hH, vI0 x, vI0 v, trivial⟩) (fun h hH => ⟨bt60 hH, vI0 x, vI0 v, trivial⟩))
theorem pr8_heir (x : Int32) : pairR bR8 127 207 [.int x] := pr_swap (A := bFL RB) (B := bR5) (pr_and (R := bFL RB) (P := bR5) (c1 := cn_X11_heir_0) (c2 := cn_X12_heir_0) (pk_heir RB_ok  x) (fun hH a q => bR5_fr a (by decide +kernel) q) (fun hH a q => bR5_fr a (by decide +kernel) q) ch_X11_heir_0 ch_X12_heir_0 (by decide +kernel) (by decide +kernel) rfl rfl (fun h hH => ⟨bt0 hH, vI0 x, trivial⟩) (fun h hH => ⟨bt60 hH, vI0 x, trivial⟩))
theorem pr8_image : pairR bR8 154 254 [] := pr_swap (A := bFL RB) (B := bR5) (pr_and (R := bFL RB) (P := bR5) (c1 := cn_X11_image_0) (c2 := cn_X12_image_0) (pk_image RB_ok  ) (fun hH a q => bR5_fr a (by decide +kernel) q) (fun hH a q => bR5_fr a (by decide +kernel) q) ch_X11_image_0 ch_X12_image_0 (by decide +kernel) (by decide +kernel) rfl rfl (fun h hH => ⟨bt0 hH, trivial⟩) (fun h hH => ⟨bt60 hH, trivial⟩))
theorem pr8_restore : pairR bR8 155 255 [] := pr_swap (A := bFL RB) (B := bR5) (pr_and (R := bFL RB) (P := bR5) (c1 := cn_X11_restore_0) (c2 := cn_X12_restore_0) (pk_restore RB_ok  ) (fun hH a q => bR5_fr a (by decide +kernel) q) (fun hH a q => bR5_fr a (by decide +kernel) q) ch_X11_restore_0 ch_X12_restore_0 (by decide +kernel) (by decide +kernel) rfl rfl (fun h hH => ⟨bt0 hH, trivial⟩) (fun h hH => ⟨bt60 hH, trivial⟩))
theorem pr8_soil (x : Int32) (v : Int32) : pairR bR8 125 205 [.int x, .int v] := pr_swap (A := bFL RB) (B := bR5) (pr_and (R := bFL RB) (P := bR5) (c1 := cn_X11_soil_0) (c2 := cn_X12_soil_0) (pk_soil RB_ok (fun _ _ r => r) x v) (fun hH a q => bR5_fr a (by decide +kernel) q) (fun hH a q => bR5_fr a (by decide +kernel) q) ch_X11_soil_0 ch_X12_soil_0 (by decide +kernel) (by decide +kernel) rfl rfl (fun h hH => ⟨bt0 hH, vI0 x, vI0 v, trivial⟩) (fun h hH => ⟨bt60 hH, vI0 x, vI0 v, trivial⟩))
theorem pr8_worths (x : Int32) (v : Int32) (y : Int32) : pairR bR8 128 208 [.int x, .int v, .int y] := pr_swap (A := bFL RB) (B := bR5) (pr_and (R := bFL RB) (P := bR5) (c1 := cn_X11_worths_0) (c2 := cn_X12_worths_0) (pk_worths RB_ok (fun _ _ r => r) x v y) (fun hH a q => bR5_fr a (by decide +kernel) q) (fun hH a q => bR5_fr a (by decide +kernel) q) ch_X11_worths_0 ch_X12_worths_0 (by decide +kernel) (by decide +kernel) rfl rfl (fun h hH => ⟨bt0 hH, vI0 x, vI0 v, vI0 y, trivial⟩) (fun h hH => ⟨bt60 hH, vI0 x, vI0 v, vI0 y, trivial⟩))
theorem pr8_fond (x : Int32) (b : Int32) (hb : b = 0 ∨ b = 1) : pairR bR8 129 209 [.int x, .int b] := pr_swap (A := bFL RB) (B := bR5) (pr_and (R := bFL RB) (P := bR5) (c1 := cn_X11_fond_0) (c2 := cn_X12_fond_0) (pk_fond RB_ok (fun _ _ r => r) RB_fo x b hb) (fun hH a q => bR5_fr a (by decide +kernel) q) (fun hH a q => bR5_fr a (by decide +kernel) q) ch_X11_fond_0 ch_X12_fond_0 (by decide +kernel) (by decide +kernel) rfl rfl (fun h hH => ⟨bt0 hH, vI0 x, vZ0 hb, trivial⟩) (fun h hH => ⟨bt60 hH, vI0 x, vZ0 hb, trivial⟩))
theorem pr8_field (x : Int32) : pairR bR8 122 202 [.int x] := pk_field RB_ok x
end
section
/-! ===== what a set is worth ===== -/
theorem ofC_toInt {n : Nat} (h : n < 100000) : (Int32.ofNat n).toInt = n := Int32.toInt_ofNat_of_lt (by omega)
theorem ofB_ma {a b c : Nat} (hb : b < 1000) (hc : c < 1000) (h : a + b * c < 100000) : Int32.ofNat a + Int32.ofNat b * Int32.ofNat c = Int32.ofNat (a + b * c) := by
  have ea := ofC_toInt (n := a) (by omega)
  have eb := ofN_toInt (n := b) hb
  have ec := ofN_toInt (n := c) hc
  have em := n_mul (X := b) (Y := c) eb ec (by omega)
  refine Int32.toInt_inj.mp ?_
  rw [i_add (by rw [ea, em]; omega) (by rw [ea, em]; omega), ea, em, ofC_toInt h]
  omega
theorem ofB_plus {a b : Nat} (h : a + b < 100000) : Int32.ofNat a + Int32.ofNat b = Int32.ofNat (a + b) := by
  have ea := ofC_toInt (n := a) (by omega)
  have eb := ofC_toInt (n := b) (by omega)
  refine Int32.toInt_inj.mp ?_
  rw [i_add (by rw [ea, eb]; omega) (by rw [ea, eb]; omega), ea, eb, ofC_toInt h]
  omega
/-- by squares -/
def wS (vn sn : Nat → Nat) (x : Int64) : Nat → Nat
  | 0 => 0
  | k + 1 => wS vn sn x k + (if bt x k = true then vn (sn k) else 0)
/-- by soils -/
def wC (vn : Nat → Nat) (so : Nat → Int64) (x : Int64) : Nat → Nat
  | 0 => 0
  | v + 1 => wC vn so x v + vn v * cnt (x &&& so v)
theorem wS_le {vn sn : Nat → Nat} {x : Int64} : ∀ n, (∀ q, q < n → vn (sn q) < 100) → wS vn sn x n ≤ 99 * n := by
  intro n
  induction n with
  | zero => intro _; exact Nat.le_refl _
  | succ n ih =>
    intro h
    have := ih (fun q hq => h q (by omega))
    have := h n (by omega)
    show wS vn sn x n + (if bt x n = true then vn (sn n) else 0) ≤ 99 * (n + 1)
    split <;> omega
theorem wC_le {vn : Nat → Nat} {so : Nat → Int64} {x : Int64} : ∀ n, (∀ v, v < n → vn v < 100) → wC vn so x n ≤ 6336 * n := by
  intro n
  induction n with
  | zero => intro _; exact Nat.le_refl _
  | succ n ih =>
    intro h
    have := ih (fun q hq => h q (by omega))
    have h1 := h n (by omega)
    have h2 := cnt_le (x &&& so n)
    have h3 : vn n * cnt (x &&& so n) ≤ 99 * 64 := Nat.mul_le_mul (by omega) h2
    show wC vn so x n + vn n * cnt (x &&& so n) ≤ 6336 * (n + 1)
    omega
theorem cntB_cut {y : Int64} {n : Nat} : ∀ d, n + d ≤ 64 → (∀ i, n ≤ i → i < 64 → bt y i = false) → cntB y (n + d) = cntB y n := by
  intro d
  induction d with
  | zero => intro _ _; rfl
  | succ d ih =>
    intro hd h
    show cntB y (n + d) + (if bt y (n + d) = true then 1 else 0) = _
    rw [ih (by omega) h, h (n + d) (by omega) (by omega)]
    rfl
def wP (vn : Nat → Nat) (so : Nat → Int64) (x : Int64) (k : Nat) : Nat := vn 0 * cntB (x &&& so 0) k + vn 1 * cntB (x &&& so 1) k + vn 2 * cntB (x &&& so 2) k + vn 3 * cntB (x &&& so 3) k + vn 4 * cntB (x &&& so 4) k + vn 5 * cntB (x &&& so 5) k
theorem wP_S {vn sn : Nat → Nat} {so : Nat → Int64} {x : Int64} {n : Nat} (hs : ∀ q, q < n → sn q < 6) (hb : ∀ v, v < 6 → ∀ q, q < n → bt (so v) q = decide (sn q = v)) : ∀ k, k ≤ n → wP vn so x k = wS vn sn x k := by
  intro k
  induction k with
  | zero => intro _; rfl
  | succ k ih =>
    intro hk
    have ih := ih (by omega)
    have inc : ∀ v, v < 6 → cntB (x &&& so v) (k + 1) = cntB (x &&& so v) k + (if bt x k = true ∧ sn k = v then 1 else 0) := fun v hv => by
      show cntB (x &&& so v) k + (if bt (x &&& so v) k = true then 1 else 0) = _
      rw [bt_and, hb v hv k (by omega)]
      by_cases z : bt x k = true
      · by_cases y : sn k = v
        · rw [if_pos (by rw [z, decide_eq_true y]; rfl), if_pos ⟨z, y⟩]
        · rw [if_neg (by rw [decide_eq_false y, Bool.and_false]; decide), if_neg (fun w => y w.2)]
      · rw [if_neg (by rw [nTF z, Bool.false_and]; decide), if_neg (fun w => z w.1)]
    have sk := hs k (by omega)
    show wP vn so x (k + 1) = wS vn sn x k + (if bt x k = true then vn (sn k) else 0)
    unfold wP at ih ⊢
    rw [inc 0 (by decide), inc 1 (by decide), inc 2 (by decide), inc 3 (by decide), inc 4 (by decide), inc 5 (by decide)]
    by_cases z : bt x k = true
    · rw [if_pos z]
      rcases (show sn k = 0 ∨ sn k = 1 ∨ sn k = 2 ∨ sn k = 3 ∨ sn k = 4 ∨ sn k = 5 by omega) with e | e | e | e | e | e
      · rw [e, if_pos (show bt x k = true ∧ (0 : Nat) = 0 from ⟨z, rfl⟩), if_neg (show ¬ (bt x k = true ∧ (0 : Nat) = 1) from fun w => absurd w.2 (by decide)), if_neg (show ¬ (bt x k = true ∧ (0 : Nat) = 2) from fun w => absurd w.2 (by decide)), if_neg (show ¬ (bt x k = true ∧ (0 : Nat) = 3) from fun w => absurd w.2 (by decide)), if_neg (show ¬ (bt x k = true ∧ (0 : Nat) = 4) from fun w => absurd w.2 (by decide)), if_neg (show ¬ (bt x k = true ∧ (0 : Nat) = 5) from fun w => absurd w.2 (by decide)), Nat.mul_succ]
        simp only [Nat.add_zero]
        omega
      · rw [e, if_neg (show ¬ (bt x k = true ∧ (1 : Nat) = 0) from fun w => absurd w.2 (by decide)), if_pos (show bt x k = true ∧ (1 : Nat) = 1 from ⟨z, rfl⟩), if_neg (show ¬ (bt x k = true ∧ (1 : Nat) = 2) from fun w => absurd w.2 (by decide)), if_neg (show ¬ (bt x k = true ∧ (1 : Nat) = 3) from fun w => absurd w.2 (by decide)), if_neg (show ¬ (bt x k = true ∧ (1 : Nat) = 4) from fun w => absurd w.2 (by decide)), if_neg (show ¬ (bt x k = true ∧ (1 : Nat) = 5) from fun w => absurd w.2 (by decide)), Nat.mul_succ]
        simp only [Nat.add_zero]
        omega
      · rw [e, if_neg (show ¬ (bt x k = true ∧ (2 : Nat) = 0) from fun w => absurd w.2 (by decide)), if_neg (show ¬ (bt x k = true ∧ (2 : Nat) = 1) from fun w => absurd w.2 (by decide)), if_pos (show bt x k = true ∧ (2 : Nat) = 2 from ⟨z, rfl⟩), if_neg (show ¬ (bt x k = true ∧ (2 : Nat) = 3) from fun w => absurd w.2 (by decide)), if_neg (show ¬ (bt x k = true ∧ (2 : Nat) = 4) from fun w => absurd w.2 (by decide)), if_neg (show ¬ (bt x k = true ∧ (2 : Nat) = 5) from fun w => absurd w.2 (by decide)), Nat.mul_succ]
        simp only [Nat.add_zero]
        omega
      · rw [e, if_neg (show ¬ (bt x k = true ∧ (3 : Nat) = 0) from fun w => absurd w.2 (by decide)), if_neg (show ¬ (bt x k = true ∧ (3 : Nat) = 1) from fun w => absurd w.2 (by decide)), if_neg (show ¬ (bt x k = true ∧ (3 : Nat) = 2) from fun w => absurd w.2 (by decide)), if_pos (show bt x k = true ∧ (3 : Nat) = 3 from ⟨z, rfl⟩), if_neg (show ¬ (bt x k = true ∧ (3 : Nat) = 4) from fun w => absurd w.2 (by decide)), if_neg (show ¬ (bt x k = true ∧ (3 : Nat) = 5) from fun w => absurd w.2 (by decide)), Nat.mul_succ]
        simp only [Nat.add_zero]
        omega
      · rw [e, if_neg (show ¬ (bt x k = true ∧ (4 : Nat) = 0) from fun w => absurd w.2 (by decide)), if_neg (show ¬ (bt x k = true ∧ (4 : Nat) = 1) from fun w => absurd w.2 (by decide)), if_neg (show ¬ (bt x k = true ∧ (4 : Nat) = 2) from fun w => absurd w.2 (by decide)), if_neg (show ¬ (bt x k = true ∧ (4 : Nat) = 3) from fun w => absurd w.2 (by decide)), if_pos (show bt x k = true ∧ (4 : Nat) = 4 from ⟨z, rfl⟩), if_neg (show ¬ (bt x k = true ∧ (4 : Nat) = 5) from fun w => absurd w.2 (by decide)), Nat.mul_succ]
        simp only [Nat.add_zero]
        omega
      · rw [e, if_neg (show ¬ (bt x k = true ∧ (5 : Nat) = 0) from fun w => absurd w.2 (by decide)), if_neg (show ¬ (bt x k = true ∧ (5 : Nat) = 1) from fun w => absurd w.2 (by decide)), if_neg (show ¬ (bt x k = true ∧ (5 : Nat) = 2) from fun w => absurd w.2 (by decide)), if_neg (show ¬ (bt x k = true ∧ (5 : Nat) = 3) from fun w => absurd w.2 (by decide)), if_neg (show ¬ (bt x k = true ∧ (5 : Nat) = 4) from fun w => absurd w.2 (by decide)), if_pos (show bt x k = true ∧ (5 : Nat) = 5 from ⟨z, rfl⟩), Nat.mul_succ]
        simp only [Nat.add_zero]
        omega
    · rw [if_neg z, if_neg (show ¬ (bt x k = true ∧ sn k = 0) from fun w => z w.1), if_neg (show ¬ (bt x k = true ∧ sn k = 1) from fun w => z w.1), if_neg (show ¬ (bt x k = true ∧ sn k = 2) from fun w => z w.1), if_neg (show ¬ (bt x k = true ∧ sn k = 3) from fun w => z w.1), if_neg (show ¬ (bt x k = true ∧ sn k = 4) from fun w => z w.1), if_neg (show ¬ (bt x k = true ∧ sn k = 5) from fun w => z w.1)]
      simp only [Nat.add_zero]
      exact ih
theorem wC_S {vn sn : Nat → Nat} {so : Nat → Int64} {x : Int64} {n : Nat} (hn : n ≤ 64) (hs : ∀ q, q < n → sn q < 6) (hb : ∀ v, v < 6 → so v = stO (fun q => decide (sn q = v)) n) : wC vn so x 6 = wS vn sn x n := by
  have key := wP_S (vn := vn) (so := so) (x := x) hs (fun v hv q hq => by rw [hb v hv, bt_stO _ _ hn, decide_eq_true hq, Bool.true_and]) n (Nat.le_refl _)
  have c : ∀ v, v < 6 → cnt (x &&& so v) = cntB (x &&& so v) n := fun v hv => by
    have := cntB_cut (y := x &&& so v) (n := n) (64 - n) (by omega) (fun i h1 h2 => by rw [bt_and, hb v hv, bt_stO _ _ hn, decide_eq_false (show ¬ i < n by omega), Bool.false_and, Bool.and_false])
    rw [show n + (64 - n) = 64 by omega] at this
    exact this
  rw [← key]
  unfold wP
  show ((((((0 + vn 0 * cnt (x &&& so 0)) + vn 1 * cnt (x &&& so 1)) + vn 2 * cnt (x &&& so 2)) + vn 3 * cnt (x &&& so 3)) + vn 4 * cnt (x &&& so 4)) + vn 5 * cnt (x &&& so 5)) = _
  rw [c 0 (by decide), c 1 (by decide), c 2 (by decide), c 3 (by decide), c 4 (by decide), c 5 (by decide), Nat.zero_add]
def bon (b : Bool) (f : Int32) : Nat := if b = true ∧ f = 1 then 20 else 0
theorem bon_le (b : Bool) (f : Int32) : bon b f ≤ 20 := by
  unfold bon
  split <;> omega
theorem bt_us {K : Nat} (hK : K < 64) (x : Int64) : ((x.toUInt64 >>> ((Int32.ofNat K).toInt64.toUInt64 &&& Int64.toUInt64 63)).toInt64) &&& Int64.ofNat 1 = Int64.ofNat 0 ↔ bt x K = false := by
  rw [bt_eq0]
  constructor
  · intro h
    have := h 0 (by decide)
    rw [bt_and, bt_lit1, decide_eq_true rfl, Bool.and_true, bt_ushr hK, Nat.zero_add] at this
    exact this
  · intro h i hi
    rw [bt_and, bt_lit1]
    by_cases e : i = 0
    · rw [e, bt_ushr hK, Nat.zero_add, h, Bool.false_and]
    · rw [decide_eq_false e, Bool.and_false]
theorem s_wo11_go {d : Nat} {h : sHp} {p : Nat} {c : CF} {N i : Nat} {x : Int64} {vn : Nat → Nat} {bO : Bool} (hd : 3 ≤ d) (F : FC h p c) (hI : c.1 11 = Int32.ofNat N) (hN : N ≤ 5) (hi : i < N) (hv : ∀ v, v < 6 → vn v < 100 ∧ c.2.2.2.2.1 i v = Int32.ofNat (vn v)) (ho : (c.1 9 = -1 ∧ bO = false) ∨ ∃ K, K < 64 ∧ c.1 9 = Int32.ofNat K ∧ bO = bt x K) (hf : c.2.2.2.2.2.1 i = 0 ∨ c.2.2.2.2.2.1 i = 1) : ∀ (f k : Nat), k + f = 6 → sGo none 37 d 16 [some (.ref p), some (.int (Int32.ofNat i)), some (.long x), none, some (.int (Int32.ofNat (wC vn c.2.2.1 x k))), some (.int (Int32.ofNat k))] [] h (fun r h' => h' = h ∧ r = some (.int (Int32.ofNat (wC vn c.2.2.1 x 6 + bon bO (c.2.2.2.2.2.1 i))))) := by
  have ei := ofN_toInt (n := i) (by omega)
  have e6 : (Int8.ofInt 6).toInt32.toInt = 6 := rfl
  obtain ⟨f3, a3, a4⟩ := id F.2.2.2.1
  have a5 := F.2.2.2.2.1 i (by omega)
  intro f
  induction f with
  | zero =>
    intro k hk
    have ek := ofN_toInt (n := k) (by omega)
    have e6k : k = 6 := by omega
    subst e6k
    have hwl := wC_le (x := x) (so := c.2.2.1) 6 (fun v h => (hv v h).1)
    have ewl := ofC_toInt (n := wC vn c.2.2.1 x 6) (by omega)
    refine g_iload (i := 5) rfl rfl ?_
    refine g_bipush (n := 6) rfl ?_
    refine g_icmp_ge 56 rfl rfl (fun _ => ?_) (fun hc => absurd hc (by rw [i_le, ek, e6]; omega))
    rcases ho with ⟨eo, hbo⟩ | ⟨K, hK, eo, hbo⟩
    · skip
      refine g_aload_n (i := 0) rfl rfl ?_
      refine g_getfield (v := .int (c.1 9)) rfl F.1 (by decide) rfl ?_
      refine g_iconst (n := (-1)) rfl ?_
      refine g_icmp_eq 81 rfl rfl (fun _ => ?_) (fun hc => absurd hc (by rw [eo]; exact fun z => z rfl))
      refine g_iconst (n := 0) rfl ?_
      refine g_istore (i := 5) (L1 := [some (.ref p), some (.int (Int32.ofNat i)), some (.long x), none, some (.int (Int32.ofNat (wC vn c.2.2.1 x 6))), some (.int (Int32.ofInt 0))]) rfl (Nat.le_of_ble_eq_true rfl) rfl ?_
      refine g_iload (i := 5) rfl rfl ?_
      refine g_if_eq 106 rfl rfl (fun _ => ?_) (fun hc => absurd hc (by decide))
      refine g_iload (i := 4) rfl rfl ?_
      refine g_ireturn (ty := .int) rfl rfl rfl ?_
      exact ⟨rfl, by rw [show bon bO (c.2.2.2.2.2.1 i) = 0 from if_neg (fun z => by rw [hbo] at z; cases z.1)]; rfl⟩
    · skip
      have eK := ofN_toInt (n := K) (by omega)
      refine g_aload_n (i := 0) rfl rfl ?_
      refine g_getfield (v := .int (c.1 9)) rfl F.1 (by decide) rfl ?_
      refine g_iconst (n := (-1)) rfl ?_
      refine g_icmp_eq 81 rfl rfl (fun hc => absurd hc (by intro z; rw [eo] at z; have := congrArg Int32.toInt z; rw [eK] at this; have e1 : (Int32.ofInt (-1)).toInt = -1 := rfl; omega)) (fun _ => ?_)
      refine g_lload_n (i := 2) rfl rfl ?_
      refine g_aload_n (i := 0) rfl rfl ?_
      refine g_getfield (v := .int (c.1 9)) rfl F.1 (by decide) rfl ?_
      refine g_lushr rfl ?_
      refine g_lconst (n := 1) rfl ?_
      show sGo none 37 _ 71 [some (.ref p), some (.int (Int32.ofNat i)), some (.long x), none, some (.int (Int32.ofNat (wC vn c.2.2.1 x 6))), some (.int (Int32.ofNat 6))] [.long (Int64.ofNat 1), .long ((x.toUInt64 >>> ((c.1 9).toInt64.toUInt64 &&& Int64.toUInt64 63)).toInt64)] _ _
      refine g_land rfl ?_
      refine g_lconst (n := 0) rfl ?_
      show sGo none 37 _ 73 [some (.ref p), some (.int (Int32.ofNat i)), some (.long x), none, some (.int (Int32.ofNat (wC vn c.2.2.1 x 6))), some (.int (Int32.ofNat 6))] [.long (Int64.ofNat 0), .long (((x.toUInt64 >>> ((c.1 9).toInt64.toUInt64 &&& Int64.toUInt64 63)).toInt64) &&& (Int64.ofNat 1))] _ _
      refine g_lcmp rfl ?_
      refine g_if_eq 81 rfl rfl (fun c_1 => ?_) (fun c_1 => ?_)
      · skip
        rw [lc_eq] at c_1
        rw [eo] at c_1
        refine g_iconst (n := 0) rfl ?_
        refine g_istore (i := 5) (L1 := [some (.ref p), some (.int (Int32.ofNat i)), some (.long x), none, some (.int (Int32.ofNat (wC vn c.2.2.1 x 6))), some (.int (Int32.ofInt 0))]) rfl (Nat.le_of_ble_eq_true rfl) rfl ?_
        refine g_iload (i := 5) rfl rfl ?_
        refine g_if_eq 106 rfl rfl (fun _ => ?_) (fun hc => absurd hc (by decide))
        refine g_iload (i := 4) rfl rfl ?_
        refine g_ireturn (ty := .int) rfl rfl rfl ?_
        exact ⟨rfl, by rw [show bon bO (c.2.2.2.2.2.1 i) = 0 from if_neg (fun z => by rw [hbo, (bt_us hK x).mp c_1] at z; cases z.1)]; rfl⟩
      · skip
        rw [lc_eq] at c_1
        rw [eo] at c_1
        refine g_iconst (n := 1) rfl ?_
        refine g_goto 82 rfl rfl ?_
        refine g_istore (i := 5) (L1 := [some (.ref p), some (.int (Int32.ofNat i)), some (.long x), none, some (.int (Int32.ofNat (wC vn c.2.2.1 x 6))), some (.int (Int32.ofInt 1))]) rfl (Nat.le_of_ble_eq_true rfl) rfl ?_
        refine g_iload (i := 5) rfl rfl ?_
        refine g_if_eq 106 rfl rfl (fun hc => absurd hc (by decide)) (fun _ => ?_)
        refine g_aload_n (i := 0) rfl rfl ?_
        refine g_getfield (v := .ref (p + 9)) rfl F.1 (by decide) rfl ?_
        refine g_iload_n (i := 1) rfl rfl ?_
        refine g_baload (n := 5) (f := c.2.2.2.2.2.1) rfl F.2.2.2.2.2.1 (i_in (by omega) (by omega)) ?_
        rw [i_nat ei]
        have k_3 : (0 : Int32).toInt = 0 := rfl
        refine g_if_eq 106 rfl rfl (fun c_2 => ?_) (fun c_2 => ?_)
        · skip
          rw [i_eq, k_3] at c_2
          refine g_iload (i := 4) rfl rfl ?_
          refine g_ireturn (ty := .int) rfl rfl rfl ?_
          exact ⟨rfl, by rw [show bon bO (c.2.2.2.2.2.1 i) = 0 from if_neg (fun z => by have := c_2; rw [z.2] at this; exact absurd this (by decide))]; rfl⟩
        · skip
          rw [i_eq, k_3] at c_2
          refine g_iload (i := 4) rfl rfl ?_
          refine g_bipush (n := 20) rfl ?_
          have k_4 : ((Int8.ofInt 20).toInt32).toInt = 20 := rfl
          refine g_iadd rfl ?_
          have t_5 : ((Int32.ofNat (wC vn c.2.2.1 x 6)) + (Int8.ofInt 20).toInt32).toInt = ((wC vn c.2.2.1 x 6 + 20 : Nat) : Int) := by rw [i_add (by rw [ewl, k_4]; omega) (by rw [ewl, k_4]; omega), ewl, k_4]; omega
          refine g_goto 108 rfl rfl ?_
          refine g_ireturn (ty := .int) rfl rfl rfl ?_
          have hbt : bO = true := by
            cases z : bt x K
            · exact absurd ((bt_us hK x).mpr z) c_1
            · rw [hbo, z]
          have hf1 : c.2.2.2.2.2.1 i = 1 := hf.resolve_left (fun z => c_2 (by rw [z]; rfl))
          exact ⟨rfl, by rw [show bon bO (c.2.2.2.2.2.1 i) = 20 from if_pos ⟨hbt, hf1⟩, ← ofB_plus (a := wC vn c.2.2.1 x 6) (b := 20) (by omega)]; rfl⟩
  | succ f ih =>
    intro k hk
    have ek := ofN_toInt (n := k) (by omega)
    have hwl := wC_le (x := x) (so := c.2.2.1) k (fun v h => (hv v (by omega)).1)
    have hc := cnt_le (x &&& c.2.2.1 k)
    have hvk := hv k (by omega)
    have hp : vn k * cnt (x &&& c.2.2.1 k) ≤ 99 * 64 := Nat.mul_le_mul (by omega) hc
    have wst : Int32.ofNat (wC vn c.2.2.1 x k) + Int32.ofNat (vn k) * Int32.ofNat (cnt (x &&& c.2.2.1 k)) = Int32.ofNat (wC vn c.2.2.1 x (k + 1)) := ofB_ma (by omega) (by omega) (by omega)
    refine g_iload (i := 5) rfl rfl ?_
    refine g_bipush (n := 6) rfl ?_
    refine g_icmp_ge 56 rfl rfl (fun hc => absurd hc (by rw [i_le, ek, e6]; omega)) (fun _ => ?_)
    refine g_iload (i := 4) rfl rfl ?_
    refine g_aload_n (i := 0) rfl rfl ?_
    refine g_getfield (v := .ref (p + 3)) rfl F.1 (by decide) rfl ?_
    refine g_iload_n (i := 1) rfl rfl ?_
    refine g_aaload rfl a3 (by decide) (i_in (by omega) (by omega)) ?_
    rw [i_nat ei, a4 i (by omega)]
    show sGo none 37 _ 31 [some (.ref p), some (.int (Int32.ofNat i)), some (.long x), none, some (.int (Int32.ofNat (wC vn c.2.2.1 x k))), some (.int (Int32.ofNat k))] (.ref (p + 4 + i) :: [.int (Int32.ofNat (wC vn c.2.2.1 x k))]) _ _
    refine g_iload (i := 5) rfl rfl ?_
    refine g_iaload (n := 6) (f := c.2.2.2.2.1 i) rfl a5 (i_in (by omega) (by omega)) ?_
    rw [i_nat ek, hvk.2]
    refine g_lload_n (i := 2) rfl rfl ?_
    refine g_aload_n (i := 0) rfl rfl ?_
    refine g_getfield (v := .ref (p + 1)) rfl F.1 (by decide) rfl ?_
    refine g_iload (i := 5) rfl rfl ?_
    refine g_laload (n := 6) (f := c.2.2.1) rfl F.2.1 (i_in (by omega) (by omega)) ?_
    rw [i_nat ek]
    refine g_land rfl ?_
    refine g_static1 (Qc := fun r h' => h' = h ∧ r = some (.int (Int32.ofNat (cnt (x &&& c.2.2.1 k))))) rfl (by decide) rfl (Nat.le_of_ble_eq_true rfl) (s_bitCount (by omega)) (fun r h hq9 => ?_)
    obtain ⟨rfl, rfl⟩ := hq9
    refine g_imul rfl ?_
    refine g_iadd rfl ?_
    rw [wst]
    refine g_istore (i := 4) (L1 := [some (.ref p), some (.int (Int32.ofNat i)), some (.long x), none, some (.int (Int32.ofNat (wC vn c.2.2.1 x (k + 1)))), some (.int (Int32.ofNat k))]) rfl (Nat.le_of_ble_eq_true rfl) rfl ?_
    refine g_iinc (i := 5) (L1 := [some (.ref p), some (.int (Int32.ofNat i)), some (.long x), none, some (.int (Int32.ofNat (wC vn c.2.2.1 x (k + 1)))), some (.int ((Int32.ofNat k) + Int32.ofInt 1))]) rfl rfl rfl ?_
    rw [ofN_add (by omega)]
    refine g_goto 16 rfl rfl ?_
    exact ih (k + 1) (by omega)
theorem s_wo11 {d : Nat} {h : sHp} {p : Nat} {c : CF} {N i : Nat} {x : Int64} {vn : Nat → Nat} {bO : Bool} (hd : 4 ≤ d) (F : FC h p c) (hI : c.1 11 = Int32.ofNat N) (hN : N ≤ 5) (hi : i < N) (hv : ∀ v, v < 6 → vn v < 100 ∧ c.2.2.2.2.1 i v = Int32.ofNat (vn v)) (ho : (c.1 9 = -1 ∧ bO = false) ∨ ∃ K, K < 64 ∧ c.1 9 = Int32.ofNat K ∧ bO = bt x K) (hf : c.2.2.2.2.2.1 i = 0 ∨ c.2.2.2.2.2.1 i = 1) : sDo d 37 [.ref p, .int (Int32.ofNat i), .long x] h (fun r h' => h' = h ∧ r = some (.int (Int32.ofNat (wC vn c.2.2.1 x 6 + bon bO (c.2.2.2.2.2.1 i))))) := by
  have ei := ofN_toInt (n := i) (by omega)
  refine sDo_of1 (nL := 6) (L := [some (.ref p), some (.int (Int32.ofNat i)), some (.long x), none, none, none]) (by omega) rfl rfl ?_
  refine g_aload_n (i := 0) rfl rfl ?_
  refine g_iload_n (i := 1) rfl rfl ?_
  refine g_virt1 (Qc := fun r h' => h' = h ∧ (((0 ≤ (Int32.ofNat i).toInt ∧ (Int32.ofNat i).toInt < (N : Int)) ∧ r = some (.int 1)) ∨ (¬ (0 ≤ (Int32.ofNat i).toInt ∧ (Int32.ofNat i).toInt < (N : Int)) ∧ r = some (.int 0)))) rfl (by decide) rfl F.1 rfl (Nat.le_of_ble_eq_true rfl) (s_hr11 (by omega) F hI hN) (fun r h hq9 => ?_)
  obtain ⟨rfl, ⟨c_1, rfl⟩ | ⟨c_1, rfl⟩⟩ := hq9
  · skip
    refine g_if_ne 10 rfl rfl (fun _ => ?_) (fun hc => absurd hc (by decide))
    refine g_iconst (n := 0) rfl ?_
    refine g_istore (i := 4) (L1 := [some (.ref p), some (.int (Int32.ofNat i)), some (.long x), none, some (.int (Int32.ofInt 0)), none]) rfl (Nat.le_of_ble_eq_true rfl) rfl ?_
    refine g_iconst (n := 0) rfl ?_
    refine g_istore (i := 5) (L1 := [some (.ref p), some (.int (Int32.ofNat i)), some (.long x), none, some (.int (Int32.ofInt 0)), some (.int (Int32.ofInt 0))]) rfl (Nat.le_of_ble_eq_true rfl) rfl ?_
    exact s_wo11_go (d := d - 1) (by omega) F hI hN hi hv ho hf 6 0 (by decide)
  · skip
    omega
theorem s_wo12_go {d : Nat} {h : sHp} {m : MF} {W H i : Nat} {x : Int64} {vn sn : Nat → Nat} {B : Nat} (hd : 2 ≤ d) (hB : B ≤ 20) (M : MC h m) (g : gdM m.1 W H) (hi : i < 5) (hv : ∀ v, v < 6 → vn v < 100 ∧ m.2.2.2.2.2 (6 * i + v) = Int32.ofNat (vn v)) (hs : ∀ q, q < W * H → sn q < 6 ∧ m.2.1 q = Int32.ofNat (sn q)) : ∀ (f k : Nat), k + f = W * H → sGo none 211 d 41 [some (.ref 60), some (.int (Int32.ofNat i)), some (.long x), none, some (.int (Int32.ofNat (B + wS vn sn x k))), some (.int (Int32.ofNat k))] [] h (fun r h' => h' = h ∧ r = some (.int (Int32.ofNat (B + wS vn sn x (W * H))))) := by
  have hr := M.1
  have gd := g
  obtain ⟨gw, gh, w2, w8, h2, h8⟩ := gd
  have hn := gdM_n g
  have hw0 : (m.1 0).toInt = ((W : Nat) : Int) := by rw [gw]; exact ofN_toInt (by omega)
  have hw1 : (m.1 1).toInt = ((H : Nat) : Int) := by rw [gh]; exact ofN_toInt (by omega)
  have hwn : (m.1 0 * m.1 1).toInt = ((W * H : Nat) : Int) := n_mul hw0 hw1 (by omega)
  have ei := ofN_toInt (n := i) (by omega)
  intro f
  induction f with
  | zero =>
    intro k hk
    have ek := ofN_toInt (n := k) (by omega)
    have eW : W * H = k := by omega
    refine g_iload (i := 5) rfl rfl ?_
    refine g_aload_n (i := 0) rfl rfl ?_
    refine g_getfield (v := .int (m.1 0)) rfl hr (by decide) rfl ?_
    refine g_aload_n (i := 0) rfl rfl ?_
    refine g_getfield (v := .int (m.1 1)) rfl hr (by decide) rfl ?_
    refine g_imul rfl ?_
    refine g_icmp_ge 93 rfl rfl (fun _ => ?_) (fun hc => absurd hc (by rw [i_le, hwn, ek]; omega))
    refine g_iload (i := 4) rfl rfl ?_
    refine g_ireturn (ty := .int) rfl rfl rfl ?_
    exact ⟨rfl, by rw [eW]⟩
  | succ f ih =>
    intro k hk
    have ek := ofN_toInt (n := k) (by omega)
    have hsk := hs k (by omega)
    have hvk := hv (sn k) hsk.1
    have hwl := wS_le (vn := vn) (sn := sn) (x := x) k (fun q hq => (hv _ (hs q (by omega)).1).1)
    have esk : (m.2.1 k).toInt = ((sn k : Nat) : Int) := by rw [hsk.2]; exact ofN_toInt (by omega)
    refine g_iload (i := 5) rfl rfl ?_
    refine g_aload_n (i := 0) rfl rfl ?_
    refine g_getfield (v := .int (m.1 0)) rfl hr (by decide) rfl ?_
    refine g_aload_n (i := 0) rfl rfl ?_
    refine g_getfield (v := .int (m.1 1)) rfl hr (by decide) rfl ?_
    refine g_imul rfl ?_
    refine g_icmp_ge 93 rfl rfl (fun hc => absurd hc (by rw [i_le, hwn, ek]; omega)) (fun _ => ?_)
    refine g_aload_n (i := 0) rfl rfl ?_
    refine g_lload_n (i := 2) rfl rfl ?_
    refine g_iload (i := 5) rfl rfl ?_
    refine g_virt2 (Qc := fun r h' => h' = h ∧ r = some (.int (zI (bt x k = true)))) rfl (by decide) rfl hr rfl (Nat.le_of_ble_eq_true rfl) (s_hasE (k := k) (by omega) hr (by omega)) (fun r h hq9 => ?_)
    obtain ⟨rfl, rfl⟩ := hq9
    refine g_if_eq 87 rfl rfl (fun c_1 => ?_) (fun c_1 => ?_)
    · skip
      rw [zI_eq0] at c_1
      refine g_iinc (i := 5) (L1 := [some (.ref 60), some (.int (Int32.ofNat i)), some (.long x), none, some (.int (Int32.ofNat (B + wS vn sn x k))), some (.int ((Int32.ofNat k) + Int32.ofInt 1))]) rfl rfl rfl ?_
      rw [ofN_add (by omega)]
      refine g_goto 41 rfl rfl ?_
      have key := ih (k + 1) (by omega)
      rw [show wS vn sn x (k + 1) = wS vn sn x k from by show wS vn sn x k + (if bt x k = true then vn (sn k) else 0) = _; rw [if_neg c_1, Nat.add_zero]] at key
      exact key
    · skip
      rw [zI_eq0] at c_1
      replace c_1 := Classical.not_not.mp c_1
      refine g_iload (i := 4) rfl rfl ?_
      refine g_aload_n (i := 0) rfl rfl ?_
      refine g_getfield (v := .ref 66) rfl hr (by decide) rfl ?_
      refine g_bipush (n := 6) rfl ?_
      refine g_iload_n (i := 1) rfl rfl ?_
      have k_2 : ((Int8.ofInt 6).toInt32).toInt = 6 := rfl
      refine g_imul rfl ?_
      have t_3 : (((Int8.ofInt 6).toInt32 * (Int32.ofNat i))).toInt = ((6 * i : Nat) : Int) := n_mul (X := 6) (Y := i) (show _ = ((6 : Nat) : Int) from k_2) (show _ = ((i : Nat) : Int) from ei) (by omega)
      refine g_aload_n (i := 0) rfl rfl ?_
      refine g_getfield (v := .ref 62) rfl hr (by decide) rfl ?_
      refine g_iload (i := 5) rfl rfl ?_
      refine g_iaload (n := 64) (f := m.2.1) rfl M.2.1 (i_in (by omega) (by omega)) ?_
      rw [i_nat ek]
      refine g_iadd rfl ?_
      have t_4 : (((Int8.ofInt 6).toInt32 * (Int32.ofNat i)) + (m.2.1 k)).toInt = ((6 * i + sn k : Nat) : Int) := by rw [i_add (by rw [t_3, esk]; omega) (by rw [t_3, esk]; omega), t_3, esk]; omega
      refine g_iaload (n := 30) (f := m.2.2.2.2.2) rfl M.2.2.2.2.2 (i_in (by omega) (by omega)) ?_
      rw [i_nat t_4, hvk.2]
      refine g_iadd rfl ?_
      rw [ofB_plus (by omega)]
      refine g_istore (i := 4) (L1 := [some (.ref 60), some (.int (Int32.ofNat i)), some (.long x), none, some (.int (Int32.ofNat (B + wS vn sn x k + vn (sn k)))), some (.int (Int32.ofNat k))]) rfl (Nat.le_of_ble_eq_true rfl) rfl ?_
      refine g_iinc (i := 5) (L1 := [some (.ref 60), some (.int (Int32.ofNat i)), some (.long x), none, some (.int (Int32.ofNat (B + wS vn sn x k + vn (sn k)))), some (.int ((Int32.ofNat k) + Int32.ofInt 1))]) rfl rfl rfl ?_
      rw [ofN_add (by omega)]
      refine g_goto 41 rfl rfl ?_
      have key := ih (k + 1) (by omega)
      rw [show wS vn sn x (k + 1) = wS vn sn x k + vn (sn k) from by show wS vn sn x k + (if bt x k = true then vn (sn k) else 0) = _; rw [if_pos c_1], ← Nat.add_assoc] at key
      exact key
theorem s_wo12 {d : Nat} {h : sHp} {m : MF} {W H i : Nat} {x : Int64} {vn sn : Nat → Nat} {bO : Bool} (hd : 3 ≤ d) (M : MC h m) (g : gdM m.1 W H) (hi : i < 5) (hv : ∀ v, v < 6 → vn v < 100 ∧ m.2.2.2.2.2 (6 * i + v) = Int32.ofNat (vn v)) (hs : ∀ q, q < W * H → sn q < 6 ∧ m.2.1 q = Int32.ofNat (sn q)) (ho : (m.1 4 = -1 ∧ bO = false) ∨ ∃ K, K < 64 ∧ m.1 4 = Int32.ofNat K ∧ bO = bt x K) : sDo d 211 [.ref 60, .int (Int32.ofNat i), .long x] h (fun r h' => h' = h ∧ r = some (.int (Int32.ofNat (bon bO (m.2.2.2.2.1 i) + wS vn sn x (W * H))))) := by
  have hr := M.1
  have ei := ofN_toInt (n := i) (by omega)
  refine sDo_of1 (nL := 6) (L := [some (.ref 60), some (.int (Int32.ofNat i)), some (.long x), none, none, none]) (by omega) rfl rfl ?_
  refine g_aload_n (i := 0) rfl rfl ?_
  refine g_getfield (v := .ref 65) rfl hr (by decide) rfl ?_
  refine g_iload_n (i := 1) rfl rfl ?_
  refine g_iaload (n := 5) (f := m.2.2.2.2.1) rfl M.2.2.2.2.1 (i_in (by omega) (by omega)) ?_
  rw [i_nat ei]
  refine g_iconst (n := 1) rfl ?_
  have k_2 : (Int32.ofInt 1).toInt = 1 := rfl
  refine g_icmp_ne 35 rfl rfl (fun c_1 => ?_) (fun c_1 => ?_)
  · skip
    rw [i_eq, k_2] at c_1
    refine g_iconst (n := 0) rfl ?_
    refine g_istore (i := 4) (L1 := [some (.ref 60), some (.int (Int32.ofNat i)), some (.long x), none, some (.int (Int32.ofInt 0)), none]) rfl (Nat.le_of_ble_eq_true rfl) rfl ?_
    refine g_iconst (n := 0) rfl ?_
    refine g_istore (i := 5) (L1 := [some (.ref 60), some (.int (Int32.ofNat i)), some (.long x), none, some (.int (Int32.ofInt 0)), some (.int (Int32.ofInt 0))]) rfl (Nat.le_of_ble_eq_true rfl) rfl ?_
    exact (show bon bO (m.2.2.2.2.1 i) = 0 from if_neg (fun z => c_1 (by rw [z.2]; rfl))) ▸ s_wo12_go (d := d - 1) (B := 0) (by omega) (by decide) M g hi hv hs (W * H) 0 (by omega)
  · skip
    rw [i_eq, k_2] at c_1
    rcases ho with ⟨eo, hbo⟩ | ⟨K, hK, eo, hbo⟩
    · skip
      refine g_aload_n (i := 0) rfl rfl ?_
      refine g_getfield (v := .int (m.1 4)) rfl hr (by decide) rfl ?_
      refine g_iconst (n := (-1)) rfl ?_
      refine g_icmp_eq 35 rfl rfl (fun _ => ?_) (fun hc => absurd hc (by rw [eo]; exact fun z => z rfl))
      refine g_iconst (n := 0) rfl ?_
      refine g_istore (i := 4) (L1 := [some (.ref 60), some (.int (Int32.ofNat i)), some (.long x), none, some (.int (Int32.ofInt 0)), none]) rfl (Nat.le_of_ble_eq_true rfl) rfl ?_
      refine g_iconst (n := 0) rfl ?_
      refine g_istore (i := 5) (L1 := [some (.ref 60), some (.int (Int32.ofNat i)), some (.long x), none, some (.int (Int32.ofInt 0)), some (.int (Int32.ofInt 0))]) rfl (Nat.le_of_ble_eq_true rfl) rfl ?_
      exact (show bon bO (m.2.2.2.2.1 i) = 0 from if_neg (fun z => by rw [hbo] at z; cases z.1)) ▸ s_wo12_go (d := d - 1) (B := 0) (by omega) (by decide) M g hi hv hs (W * H) 0 (by omega)
    · skip
      have eK := ofN_toInt (n := K) (by omega)
      refine g_aload_n (i := 0) rfl rfl ?_
      refine g_getfield (v := .int (m.1 4)) rfl hr (by decide) rfl ?_
      refine g_iconst (n := (-1)) rfl ?_
      refine g_icmp_eq 35 rfl rfl (fun hc => absurd hc (by intro z; rw [eo] at z; have := congrArg Int32.toInt z; rw [eK] at this; have e1 : (Int32.ofInt (-1)).toInt = -1 := rfl; omega)) (fun _ => ?_)
      refine g_aload_n (i := 0) rfl rfl ?_
      refine g_lload_n (i := 2) rfl rfl ?_
      refine g_aload_n (i := 0) rfl rfl ?_
      refine g_getfield (v := .int (m.1 4)) rfl hr (by decide) rfl ?_
      rw [eo]
      refine g_virt2 (Qc := fun r h' => h' = h ∧ r = some (.int (zI (bt x K = true)))) rfl (by decide) rfl hr rfl (Nat.le_of_ble_eq_true rfl) (s_hasE (k := K) (by omega) hr hK) (fun r h hq9 => ?_)
      obtain ⟨rfl, rfl⟩ := hq9
      refine g_if_eq 35 rfl rfl (fun c_3 => ?_) (fun c_3 => ?_)
      · skip
        rw [zI_eq0] at c_3
        refine g_iconst (n := 0) rfl ?_
        refine g_istore (i := 4) (L1 := [some (.ref 60), some (.int (Int32.ofNat i)), some (.long x), none, some (.int (Int32.ofInt 0)), none]) rfl (Nat.le_of_ble_eq_true rfl) rfl ?_
        refine g_iconst (n := 0) rfl ?_
        refine g_istore (i := 5) (L1 := [some (.ref 60), some (.int (Int32.ofNat i)), some (.long x), none, some (.int (Int32.ofInt 0)), some (.int (Int32.ofInt 0))]) rfl (Nat.le_of_ble_eq_true rfl) rfl ?_
        exact (show bon bO (m.2.2.2.2.1 i) = 0 from if_neg (fun z => c_3 (hbo.symm.trans z.1))) ▸ s_wo12_go (d := d - 1) (B := 0) (by omega) (by decide) M g hi hv hs (W * H) 0 (by omega)
      · skip
        rw [zI_eq0] at c_3
        replace c_3 := Classical.not_not.mp c_3
        refine g_bipush (n := 20) rfl ?_
        refine g_goto 36 rfl rfl ?_
        refine g_istore (i := 4) (L1 := [some (.ref 60), some (.int (Int32.ofNat i)), some (.long x), none, some (.int (Int8.ofInt 20).toInt32), none]) rfl (Nat.le_of_ble_eq_true rfl) rfl ?_
        refine g_iconst (n := 0) rfl ?_
        refine g_istore (i := 5) (L1 := [some (.ref 60), some (.int (Int32.ofNat i)), some (.long x), none, some (.int (Int8.ofInt 20).toInt32), some (.int (Int32.ofInt 0))]) rfl (Nat.le_of_ble_eq_true rfl) rfl ?_
        exact (show bon bO (m.2.2.2.2.1 i) = 20 from if_pos ⟨hbo.trans c_3, Int32.toInt_inj.mp (c_1.trans (show (1 : Int) = (1 : Int32).toInt from rfl))⟩) ▸ s_wo12_go (d := d - 1) (B := 20) (by omega) (by decide) M g hi hv hs (W * H) 0 (by omega)
end
section
/-! ===== worth: what both say ===== -/
def vnM (m : MF) (i v : Nat) : Nat := (m.2.2.2.2.2 (6 * i + v)).toInt.toNat
def snM (m : MF) (q : Nat) : Nat := (m.2.1 q).toInt.toNat
def oakB (m : MF) (x : Int64) : Bool := if m.1 4 = -1 then false else bt x (m.1 4).toInt.toNat
def wV (m : MF) (n i : Nat) (x : Int64) : Nat := wS (vnM m i) (snM m) x n + bon (oakB m x) (m.2.2.2.2.1 i)
theorem nt_of {z : Int32} {b : Nat} (hb : b < 1000) (h : ∃ n, n < b ∧ z = Int32.ofNat n) : z.toInt.toNat < b ∧ z = Int32.ofNat z.toInt.toNat := by
  obtain ⟨n, hn, rfl⟩ := h
  rw [ofN_toInt (by omega)]
  exact ⟨hn, rfl⟩
theorem oak_of {n : Nat} {J : Int32} (hn : n ≤ 64) (x : Int64) (h : okPl n (2 : Nat) J.toInt) : (J = -1 ∧ (if J = -1 then false else bt x J.toInt.toNat) = false) ∨ ∃ K, K < 64 ∧ J = Int32.ofNat K ∧ (if J = -1 then false else bt x J.toInt.toNat) = bt x K := by
  have e1 : (-1 : Int32).toInt = -1 := rfl
  by_cases z : J = -1
  · exact Or.inl ⟨z, if_pos z⟩
  · have k : 0 ≤ J.toInt ∧ J.toInt < (n : Int) := by
      unfold okPl at h
      have : ¬ J.toInt = -1 := fun y => z (Int32.toInt_inj.mp (y.trans e1.symm))
      omega
    refine Or.inr ⟨J.toInt.toNat, by omega, ?_, if_neg z⟩
    exact Int32.toInt_inj.mp (by rw [ofN_toInt (by omega)]; omega)
theorem RB_vn {c : CF} {m : MF} {s : Sg} {i : Nat} (RS : RSs s c m) (hi : i < s.2.2) : ∀ v, v < 6 → vnM m i v < 100 ∧ m.2.2.2.2.2 (6 * i + v) = Int32.ofNat (vnM m i v) := fun v hv => nt_of (by decide) ((RS.2.2.2.2 i hi).2.2 v hv)
theorem RB_sn {c : CF} {m : MF} {s : Sg} (RS : RSs s c m) : ∀ q, q < s.1 * s.2.1 → snM m q < 6 ∧ m.2.1 q = Int32.ofNat (snM m q) := fun q hq => nt_of (by decide) (RS.2.1 q hq)
theorem wV_le {c : CF} {m : MF} {s : Sg} {i : Nat} {x : Int64} (hn : s.1 * s.2.1 ≤ 64) (RS : RSs s c m) (hi : i < s.2.2) : wV m (s.1 * s.2.1) i x ≤ 6356 := by
  have h1 := wS_le (vn := vnM m i) (sn := snM m) (x := x) (s.1 * s.2.1) (fun q hq => (RB_vn RS hi _ (RB_sn RS q hq).1).1)
  have h2 := bon_le (oakB m x) (m.2.2.2.2.1 i)
  unfold wV
  omega
theorem s_worthOf11 {d : Nat} {h : sHp} {p : Nat} {c : CF} {m : MF} {s : Sg} {i : Nat} {x : Int64} (hd : 4 ≤ d) (F : FC h p c) (g : gdF c s.1 s.2.1) (r : RB c m) (sI : sgI c s) (hi : i < s.2.2) : sDo d 37 [.ref p, .int (Int32.ofNat i), .long x] h (fun r h' => h' = h ∧ r = some (.int (Int32.ofNat (wV m (s.1 * s.2.1) i x)))) := by
  have RS := (r.2 s sI).1
  have RP := (r.2 s sI).2
  have hn := gdF_n g
  obtain ⟨W', H', N', -, -, -, -, -, -, mk⟩ := r.1
  have eo : c.1 9 = m.1 4 := mk 2 (by decide)
  have ef := (RS.2.2.1 i hi).2
  have key := s_wo11 (x := x) (vn := vnM m i) (bO := oakB m x) hd F sI.2.2.1 sI.2.2.2.2.2.2.2 hi (fun v hv => ⟨(RB_vn RS hi v hv).1, (RS.2.2.2.1 i hi v hv).trans (RB_vn RS hi v hv).2⟩) (by rw [eo]; exact oak_of hn.1 x (RP 2 (by decide))) (by rw [ef]; exact (RS.2.2.2.2 i hi).2.1)
  have e := wC_S (vn := vnM m i) (sn := snM m) (so := c.2.2.1) (x := x) hn.1 (fun q hq => (RB_sn RS q hq).1) (fun v hv => (RS.1 v hv).trans (stO_ext hn.1 (fun q hq => by
    have k := RB_sn RS q hq
    refine decide_eq_decide.mpr ⟨fun z => ?_, fun z => by rw [k.2, z]⟩
    rw [k.2] at z
    exact ofN_inj (by omega) (by omega) z)))
  rw [e, ef] at key
  exact key
theorem s_worthOf12 {d : Nat} {h : sHp} {c : CF} {m : MF} {s : Sg} {i : Nat} {x : Int64} (hd : 3 ≤ d) (M : MC h m) (g : gdF c s.1 s.2.1) (gM : gdM m.1 s.1 s.2.1) (r : RB c m) (sI : sgI c s) (hi : i < s.2.2) : sDo d 211 [.ref 60, .int (Int32.ofNat i), .long x] h (fun r h' => h' = h ∧ r = some (.int (Int32.ofNat (wV m (s.1 * s.2.1) i x)))) := by
  have RS := (r.2 s sI).1
  have RP := (r.2 s sI).2
  have hn := gdF_n g
  have n5 := sI.2.2.2.2.2.2.2
  have key := s_wo12 (x := x) (vn := vnM m i) (sn := snM m) (bO := oakB m x) hd M gM (by omega) (RB_vn RS hi) (RB_sn RS) (oak_of hn.1 x (RP 2 (by decide)))
  rw [Nat.add_comm] at key
  exact key
theorem pr_qR {R : sHp → Prop} {c1 c2 : bCn} {as : List Value} (h1 : bHolds c1) (h2 : bHolds c2) (d1 : Nat.ble c1.2.1 10 = true) (d2 : Nat.ble c2.2.1 10 = true) (g1 : Nat.ble c1.2.2.2.2.2.1 1 = true) (g2 : Nat.ble c2.2.2.2.2.2.1 1 = true) (o1 : c1.2.2.2.1 = []) (o2 : c2.2.2.2.1 = []) (t1 : ∀ h, bH h → bTl h c1.2.2.1 (.ref 0 :: as)) (t2 : ∀ h, bH h → bTl h c2.2.2.1 (.ref 60 :: as)) (w1 : ∀ {g : Nat} {h h' : sHp}, bH h' → bFr c1.2.2.2.2.1 g h h' → R h → R h') (w2 : ∀ {g : Nat} {h h' : sHp}, bH h' → bFr c2.2.2.2.2.1 g h h' → R h → R h') (e : ∀ h, bH h → R h → ∃ v, sDo 10 c1.1 (.ref 0 :: as) h (fun r h1 => r = some v ∧ vE h h1) ∧ ∀ h1, bH h1 → vE h h1 → sDo 10 c2.1 (.ref 60 :: as) h1 (fun r _ => r = some v)) : pairR R c1.1 c2.1 as :=
  pr_mk h1 h2 d1 d2 g1 g2 o1 o2 t1 t2 (fun h hH hR => by
    obtain ⟨v, e1, e2⟩ := e h hH hR
    exact sDo_mono e1 (fun r1 h1' q hH1 fr1 => sDo_mono (e2 h1' hH1 q.2) (fun r2 h2' p hH2 fr2 => ⟨w2 hH2 fr2 (w1 hH1 fr1 hR), v, q.1, p⟩)))
theorem MC_vE {h h1 : sHp} {m : MF} (M : MC h m) (E : vE h h1) : MC h1 m := MC_tr M (fun q x h1 h2 h3 hx => vE_at E hx (by omega))
theorem s_worth11 {d : Nat} {h : sHp} {ik tf : Int32} {c : CF} {m : MF} {s : Sg} {i : Nat} {y : Int64} (hd : 5 ≤ d) (h0 : h[0]? = some (cO ik tf)) (F : FC h 5 c) (g : gdF c s.1 s.2.1) (r : RB c m) (sI : sgI c s) (hi : i < s.2.2) (hy : inN y (s.1 * s.2.1)) : sDo d 131 [.ref 0, .int (Int32.ofNat i), .long y] h (fun r h' => r = some (.int (Int32.ofNat (wV m (s.1 * s.2.1) i y))) ∧ h' = h) := by
  have n5 := sI.2.2.2.2.2.2.2
  have ei := ofN_toInt (n := i) (by omega)
  refine sDo_of1 (nL := 4) (L := [some (.ref 0), some (.int (Int32.ofNat i)), some (.long y), none]) (by omega) rfl rfl ?_
  refine g_aload_n (i := 0) rfl rfl ?_
  refine g_getfield (v := .ref 5) rfl h0 (by decide) rfl ?_
  refine g_iload_n (i := 1) rfl rfl ?_
  refine g_virt1 (Qc := fun r h' => h' = h ∧ (((0 ≤ (Int32.ofNat i).toInt ∧ (Int32.ofNat i).toInt < (s.2.2 : Int)) ∧ r = some (.int 1)) ∨ (¬ (0 ≤ (Int32.ofNat i).toInt ∧ (Int32.ofNat i).toInt < (s.2.2 : Int)) ∧ r = some (.int 0)))) rfl (by decide) rfl F.1 rfl (Nat.le_of_ble_eq_true rfl) (s_hr11 (by omega) F sI.2.2.1 n5) (fun r h hq9 => ?_)
  obtain ⟨rfl, ⟨c_1, rfl⟩ | ⟨c_1, rfl⟩⟩ := hq9
  · skip
    refine g_if_eq 22 rfl rfl (fun hc => absurd hc (by decide)) (fun _ => ?_)
    refine g_aload_n (i := 0) rfl rfl ?_
    refine g_getfield (v := .ref 5) rfl h0 (by decide) rfl ?_
    refine g_lload_n (i := 2) rfl rfl ?_
    refine g_virt1 (Qc := fun r h' => h' = h ∧ (((inN y (s.1 * s.2.1)) ∧ r = some (.int 1)) ∨ (¬ (inN y (s.1 * s.2.1)) ∧ r = some (.int 0)))) rfl (by decide) rfl F.1 rfl (Nat.le_of_ble_eq_true rfl) (s_hasAll (by omega) F g) (fun r h hq9 => ?_)
    obtain ⟨rfl, ⟨c_2, rfl⟩ | ⟨c_2, rfl⟩⟩ := hq9
    · skip
      refine g_if_ne 28 rfl rfl (fun _ => ?_) (fun hc => absurd hc (by decide))
      refine g_aload_n (i := 0) rfl rfl ?_
      refine g_getfield (v := .ref 5) rfl h0 (by decide) rfl ?_
      refine g_iload_n (i := 1) rfl rfl ?_
      refine g_lload_n (i := 2) rfl rfl ?_
      refine g_virt2 (Qc := fun r h' => h' = h ∧ r = some (.int (Int32.ofNat (wV m (s.1 * s.2.1) i y)))) rfl (by decide) rfl F.1 rfl (Nat.le_of_ble_eq_true rfl) (s_worthOf11 (by omega) F g r sI hi) (fun r h hq9 => ?_)
      obtain ⟨rfl, rfl⟩ := hq9
      refine g_ireturn (ty := .int) rfl rfl rfl ?_
      exact ⟨rfl, rfl⟩
    · skip
      exact absurd hy c_2
  · skip
    omega
theorem s_worth11n {d : Nat} {h : sHp} {ik tf : Int32} {R : Nat → Int32} {c : CF} {s : Sg} {x : Int32} {y : Int64} (hd : 4 ≤ d) (h0 : h[0]? = some (cO ik tf)) (hR : h[43]? = some (rFc R)) (F : FC h 5 c) (g : gdF c s.1 s.2.1) (sI : sgI c s) (hx : ¬ ((0 ≤ x.toInt ∧ x.toInt < (s.2.2 : Int)) ∧ inN y (s.1 * s.2.1))) : sDo d 131 [.ref 0, .int x, .long y] h (fun r h' => r = some (.int (-1)) ∧ h' = h.set 43 (rFc (bump R 1))) := by
  have n5 := sI.2.2.2.2.2.2.2
  refine sDo_of1 (nL := 4) (L := [some (.ref 0), some (.int x), some (.long y), none]) (by omega) rfl rfl ?_
  refine g_aload_n (i := 0) rfl rfl ?_
  refine g_getfield (v := .ref 5) rfl h0 (by decide) rfl ?_
  refine g_iload_n (i := 1) rfl rfl ?_
  refine g_virt1 (Qc := fun r h' => h' = h ∧ (((0 ≤ x.toInt ∧ x.toInt < (s.2.2 : Int)) ∧ r = some (.int 1)) ∨ (¬ (0 ≤ x.toInt ∧ x.toInt < (s.2.2 : Int)) ∧ r = some (.int 0)))) rfl (by decide) rfl F.1 rfl (Nat.le_of_ble_eq_true rfl) (s_hr11 (by omega) F sI.2.2.1 n5) (fun r h hq9 => ?_)
  obtain ⟨rfl, ⟨c_1, rfl⟩ | ⟨c_1, rfl⟩⟩ := hq9
  · skip
    refine g_if_eq 22 rfl rfl (fun hc => absurd hc (by decide)) (fun _ => ?_)
    refine g_aload_n (i := 0) rfl rfl ?_
    refine g_getfield (v := .ref 5) rfl h0 (by decide) rfl ?_
    refine g_lload_n (i := 2) rfl rfl ?_
    refine g_virt1 (Qc := fun r h' => h' = h ∧ (((inN y (s.1 * s.2.1)) ∧ r = some (.int 1)) ∨ (¬ (inN y (s.1 * s.2.1)) ∧ r = some (.int 0)))) rfl (by decide) rfl F.1 rfl (Nat.le_of_ble_eq_true rfl) (s_hasAll (by omega) F g) (fun r h hq9 => ?_)
    obtain ⟨rfl, ⟨c_2, rfl⟩ | ⟨c_2, rfl⟩⟩ := hq9
    · skip
      exact absurd ⟨c_1, c_2⟩ hx
    · skip
      refine g_if_ne 28 rfl rfl (fun hc => absurd hc (by decide)) (fun _ => ?_)
      refine g_aload_n (i := 0) rfl rfl ?_
      refine g_iconst (n := (-1)) rfl ?_
      refine g_virt1 (Qc := fun r h' => r = some (.int ((Int32.ofInt (-1)))) ∧ h' = h.set 43 (rFc (bump R 1))) rfl (by decide) rfl h0 rfl (Nat.le_of_ble_eq_true rfl) (s_refuse2 (X := 1) (by omega) h0 hR rfl (by decide)) (fun r h9 hq9 => ?_)
      obtain ⟨rfl, rfl⟩ := hq9
      refine g_ireturn (ty := .int) rfl rfl rfl ?_
      exact ⟨rfl, rfl⟩
  · skip
    refine g_if_eq 22 rfl rfl (fun _ => ?_) (fun hc => absurd hc (by decide))
    refine g_aload_n (i := 0) rfl rfl ?_
    refine g_iconst (n := (-1)) rfl ?_
    refine g_virt1 (Qc := fun r h' => r = some (.int ((Int32.ofInt (-1)))) ∧ h' = h.set 43 (rFc (bump R 1))) rfl (by decide) rfl h0 rfl (Nat.le_of_ble_eq_true rfl) (s_refuse2 (X := 1) (by omega) h0 hR rfl (by decide)) (fun r h9 hq9 => ?_)
    obtain ⟨rfl, rfl⟩ := hq9
    refine g_ireturn (ty := .int) rfl rfl rfl ?_
    exact ⟨rfl, rfl⟩
theorem s_worth12 {d : Nat} {h : sHp} {c : CF} {m : MF} {s : Sg} {i : Nat} {y : Int64} (hd : 4 ≤ d) (M : MC h m) (g : gdF c s.1 s.2.1) (gM : gdM m.1 s.1 s.2.1) (r : RB c m) (sI : sgI c s) (sJ : sgJ m.1 s) (hi : i < s.2.2) (hy : inN y (s.1 * s.2.1)) : sDo d 212 [.ref 60, .int (Int32.ofNat i), .long y] h (fun r h' => r = some (.int (Int32.ofNat (wV m (s.1 * s.2.1) i y))) ∧ h' = h) := by
  have n5 := sI.2.2.2.2.2.2.2
  have ei := ofN_toInt (n := i) (by omega)
  refine sDo_of1 (nL := 4) (L := [some (.ref 60), some (.int (Int32.ofNat i)), some (.long y), none]) (by omega) rfl rfl ?_
  refine g_aload_n (i := 0) rfl rfl ?_
  refine g_iload_n (i := 1) rfl rfl ?_
  refine g_virt1 (Qc := fun r h' => h' = h ∧ (((0 ≤ (Int32.ofNat i).toInt ∧ (Int32.ofNat i).toInt < (s.2.2 : Int)) ∧ r = some (.int 1)) ∨ (¬ (0 ≤ (Int32.ofNat i).toInt ∧ (Int32.ofNat i).toInt < (s.2.2 : Int)) ∧ r = some (.int 0)))) rfl (by decide) rfl M.1 rfl (Nat.le_of_ble_eq_true rfl) (s_hr12 (by omega) M.1 sJ.2.2.1 n5) (fun r h hq9 => ?_)
  obtain ⟨rfl, ⟨c_1, rfl⟩ | ⟨c_1, rfl⟩⟩ := hq9
  · skip
    refine g_if_eq 25 rfl rfl (fun hc => absurd hc (by decide)) (fun _ => ?_)
    refine g_aload_n (i := 0) rfl rfl ?_
    refine g_lload_n (i := 2) rfl rfl ?_
    refine g_virt1 (Qc := fun r h' => h' = h ∧ (((inN y (s.1 * s.2.1)) ∧ r = some (.int 1)) ∨ (¬ (inN y (s.1 * s.2.1)) ∧ r = some (.int 0)))) rfl (by decide) rfl M.1 rfl (Nat.le_of_ble_eq_true rfl) (s_isSet12 (by omega) M.1 gM) (fun r h hq9 => ?_)
    obtain ⟨rfl, ⟨c_2, rfl⟩ | ⟨c_2, rfl⟩⟩ := hq9
    · skip
      refine g_if_eq 25 rfl rfl (fun hc => absurd hc (by decide)) (fun _ => ?_)
      refine g_aload_n (i := 0) rfl rfl ?_
      refine g_iload_n (i := 1) rfl rfl ?_
      refine g_lload_n (i := 2) rfl rfl ?_
      refine g_virt2 (Qc := fun r h' => h' = h ∧ r = some (.int (Int32.ofNat (wV m (s.1 * s.2.1) i y)))) rfl (by decide) rfl M.1 rfl (Nat.le_of_ble_eq_true rfl) (s_worthOf12 (by omega) M g gM r sI hi) (fun r h hq9 => ?_)
      obtain ⟨rfl, rfl⟩ := hq9
      refine g_goto 30 rfl rfl ?_
      refine g_ireturn (ty := .int) rfl rfl rfl ?_
      exact ⟨rfl, rfl⟩
    · skip
      exact absurd hy c_2
  · skip
    omega
theorem s_worth12n {d : Nat} {h : sHp} {R : Nat → Int32} {m : MF} {s : Sg} {x : Int32} {y : Int64} (hd : 4 ≤ d) (M : MC h m) (hR : h[61]? = some (rFc R)) (gM : gdM m.1 s.1 s.2.1) (sJ : sgJ m.1 s) (hx : ¬ ((0 ≤ x.toInt ∧ x.toInt < (s.2.2 : Int)) ∧ inN y (s.1 * s.2.1))) : sDo d 212 [.ref 60, .int x, .long y] h (fun r h' => r = some (.int (-1)) ∧ h' = h.set 61 (rFc (bump R 1))) := by
  have n5 := sJ.2.2.2.2.2.2.2
  refine sDo_of1 (nL := 4) (L := [some (.ref 60), some (.int x), some (.long y), none]) (by omega) rfl rfl ?_
  refine g_aload_n (i := 0) rfl rfl ?_
  refine g_iload_n (i := 1) rfl rfl ?_
  refine g_virt1 (Qc := fun r h' => h' = h ∧ (((0 ≤ x.toInt ∧ x.toInt < (s.2.2 : Int)) ∧ r = some (.int 1)) ∨ (¬ (0 ≤ x.toInt ∧ x.toInt < (s.2.2 : Int)) ∧ r = some (.int 0)))) rfl (by decide) rfl M.1 rfl (Nat.le_of_ble_eq_true rfl) (s_hr12 (by omega) M.1 sJ.2.2.1 n5) (fun r h hq9 => ?_)
  obtain ⟨rfl, ⟨c_1, rfl⟩ | ⟨c_1, rfl⟩⟩ := hq9
  · skip
    refine g_if_eq 25 rfl rfl (fun hc => absurd hc (by decide)) (fun _ => ?_)
    refine g_aload_n (i := 0) rfl rfl ?_
    refine g_lload_n (i := 2) rfl rfl ?_
    refine g_virt1 (Qc := fun r h' => h' = h ∧ (((inN y (s.1 * s.2.1)) ∧ r = some (.int 1)) ∨ (¬ (inN y (s.1 * s.2.1)) ∧ r = some (.int 0)))) rfl (by decide) rfl M.1 rfl (Nat.le_of_ble_eq_true rfl) (s_isSet12 (by omega) M.1 gM) (fun r h hq9 => ?_)
    obtain ⟨rfl, ⟨c_2, rfl⟩ | ⟨c_2, rfl⟩⟩ := hq9
    · skip
      exact absurd ⟨c_1, c_2⟩ hx
    · skip
      refine g_if_eq 25 rfl rfl (fun _ => ?_) (fun hc => absurd hc (by decide))
      refine g_aload_n (i := 0) rfl rfl ?_
      refine g_iconst (n := (-1)) rfl ?_
      refine g_virt1 (Qc := fun r h' => r = some (.int ((Int32.ofInt (-1)))) ∧ h' = h.set 61 (rFc (bump R 1))) rfl (by decide) rfl M.1 rfl (Nat.le_of_ble_eq_true rfl) (s_no2 (X := 1) (by omega) M.1 hR rfl (by decide)) (fun r h9 hq9 => ?_)
      obtain ⟨rfl, rfl⟩ := hq9
      refine g_ireturn (ty := .int) rfl rfl rfl ?_
      exact ⟨rfl, rfl⟩
  · skip
    refine g_if_eq 25 rfl rfl (fun _ => ?_) (fun hc => absurd hc (by decide))
    refine g_aload_n (i := 0) rfl rfl ?_
    refine g_iconst (n := (-1)) rfl ?_
    refine g_virt1 (Qc := fun r h' => r = some (.int ((Int32.ofInt (-1)))) ∧ h' = h.set 61 (rFc (bump R 1))) rfl (by decide) rfl M.1 rfl (Nat.le_of_ble_eq_true rfl) (s_no2 (X := 1) (by omega) M.1 hR rfl (by decide)) (fun r h9 hq9 => ?_)
    obtain ⟨rfl, rfl⟩ := hq9
    refine g_ireturn (ty := .int) rfl rfl rfl ?_
    exact ⟨rfl, rfl⟩
theorem pr8_worth (x : Int32) (y : Int64) : pairR bR8 131 212 [.int x, .long y] := pr_qR (c1 := cn_X11_worth_0) (c2 := cn_X12_worth_0) ch_X11_worth_0 ch_X12_worth_0 (by decide +kernel) (by decide +kernel) (by decide +kernel) (by decide +kernel) rfl rfl (fun h hH => ⟨bt0 hH, vI0 x, vL0 y, trivial⟩) (fun h hH => ⟨bt60 hH, vI0 x, vL0 y, trivial⟩) (fun hH a q => bR8_fr hH a (by decide +kernel) q) (fun hH a q => bR8_fr hH a (by decide +kernel) q) (fun h hH hR => by
  obtain ⟨⟨hd, so, sz, co, cl, f, gg, q4, bs⟩, c, ck, m, gk, ik, tf, kc, km, ej, rl, rk⟩ := hR
  have F := kc.1
  have h0 := kc.2.2.1
  have M := km.1
  obtain ⟨R, hR43⟩ := RA_of hH (p := 43) (Or.inl rfl)
  obtain ⟨s, sI, sJ, g, gM⟩ := RN_sg rl.1
  have n5 := sI.2.2.2.2.2.2.2
  have hn := gdF_n g
  by_cases hx : (0 ≤ x.toInt ∧ x.toInt < (s.2.2 : Int)) ∧ inN y (s.1 * s.2.1)
  · obtain ⟨hx, hy⟩ := hx
    obtain ⟨i, hi⟩ : ∃ i : Nat, x.toInt = i := ⟨x.toInt.toNat, by omega⟩
    have ex : x = Int32.ofNat i := Int32.toInt_inj.mp (by rw [hi, ofN_toInt (by omega)])
    subst ex
    exact ⟨_, sDo_mono (s_worth11 (d := 10) (by omega) h0 F g rl sI (by omega) hy) (fun r h' q => ⟨q.1, by rw [q.2]; exact vE_rfl⟩), fun h1 hH1 E => sDo_mono (s_worth12 (d := 10) (by omega) (MC_vE M E) g gM rl sI sJ (by omega) hy) (fun r h' q => q.1)⟩
  · refine ⟨_, sDo_mono (s_worth11n (d := 10) (by omega) h0 hR43 F g sI hx) (fun r h' q => ⟨q.1, by rw [q.2]; exact vE_43⟩), fun h1 hH1 E => ?_⟩
    obtain ⟨Rm, hRm⟩ := RA_of hH1 (p := 61) (Or.inr rfl)
    exact sDo_mono (s_worth12n (d := 10) (by omega) (MC_vE M E) hRm gM sJ hx) (fun r h' q => q.1))
end
