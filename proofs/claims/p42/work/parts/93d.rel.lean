/-! ===== soil, worths, fond of both ===== -/
theorem s_hr11 {d : Nat} {h : sHp} {p : Nat} {c : CF} {N : Nat} {i : Int32} (hd : 1 ≤ d) (F : FC h p c) (hI : c.1 11 = Int32.ofNat N) (hN : N ≤ 5) : sDo d 23 [.ref p, .int i] h (fun r h' => h' = h ∧ ((0 ≤ i.toInt ∧ i.toInt < (N : Int)) ∧ r = some (.int 1) ∨ ¬ (0 ≤ i.toInt ∧ i.toInt < (N : Int)) ∧ r = some (.int 0))) := by
  have eI : (c.1 11).toInt = ((N : Nat) : Int) := by rw [hI]; exact ofN_toInt (by omega)
  refine sDo_of1 (nL := 2) (L := [some (.ref p), some (.int i)]) hd rfl rfl ?_
  refine g_iload_n (i := 1) rfl rfl ?_
  have k_2 : (0 : Int32).toInt = 0 := rfl
  refine g_if_lt 21 rfl rfl (fun c_1 => ?_) (fun c_1 => ?_)
  · skip
    rw [i_lt, k_2] at c_1
    refine g_iconst (n := 0) rfl ?_
    refine g_ireturn (ty := .boolean) rfl rfl (by decide) ?_
    exact ⟨rfl, Or.inr ⟨by omega, rfl⟩⟩
  · skip
    rw [i_lt, k_2] at c_1
    refine g_iload_n (i := 1) rfl rfl ?_
    refine g_aload_n (i := 0) rfl rfl ?_
    refine g_getfield (v := .int (c.1 11)) rfl F.1 (by decide) rfl ?_
    refine g_icmp_ge 21 rfl rfl (fun c_3 => ?_) (fun c_3 => ?_)
    · skip
      rw [i_le, eI] at c_3
      refine g_iconst (n := 0) rfl ?_
      refine g_ireturn (ty := .boolean) rfl rfl (by decide) ?_
      exact ⟨rfl, Or.inr ⟨by omega, rfl⟩⟩
    · skip
      rw [i_le, eI] at c_3
      refine g_iload_n (i := 1) rfl rfl ?_
      refine g_iconst (n := 5) rfl ?_
      have k_5 : (Int32.ofInt 5).toInt = 5 := rfl
      refine g_icmp_ge 21 rfl rfl (fun c_4 => ?_) (fun c_4 => ?_)
      · skip
        rw [i_le, k_5] at c_4
        refine g_iconst (n := 0) rfl ?_
        refine g_ireturn (ty := .boolean) rfl rfl (by decide) ?_
        exact ⟨rfl, Or.inr ⟨by omega, rfl⟩⟩
      · skip
        rw [i_le, k_5] at c_4
        refine g_iconst (n := 1) rfl ?_
        refine g_goto 22 rfl rfl ?_
        refine g_ireturn (ty := .boolean) rfl rfl (by decide) ?_
        exact ⟨rfl, Or.inl ⟨by omega, rfl⟩⟩
theorem s_hr12 {d : Nat} {h : sHp} {J : Nat → Int32} {N : Nat} {i : Int32} (hd : 1 ≤ d) (hr : h[60]? = some (mO J)) (hI : J 6 = Int32.ofNat N) (hN : N ≤ 5) : sDo d 173 [.ref 60, .int i] h (fun r h' => h' = h ∧ ((0 ≤ i.toInt ∧ i.toInt < (N : Int)) ∧ r = some (.int 1) ∨ ¬ (0 ≤ i.toInt ∧ i.toInt < (N : Int)) ∧ r = some (.int 0))) := by
  have eI : (J 6).toInt = ((N : Nat) : Int) := by rw [hI]; exact ofN_toInt (by omega)
  refine sDo_of1 (nL := 2) (L := [some (.ref 60), some (.int i)]) hd rfl rfl ?_
  refine g_iload_n (i := 1) rfl rfl ?_
  have k_2 : (0 : Int32).toInt = 0 := rfl
  refine g_if_lt 16 rfl rfl (fun c_1 => ?_) (fun c_1 => ?_)
  · skip
    rw [i_lt, k_2] at c_1
    refine g_iconst (n := 0) rfl ?_
    refine g_ireturn (ty := .boolean) rfl rfl (by decide) ?_
    exact ⟨rfl, Or.inr ⟨by omega, rfl⟩⟩
  · skip
    rw [i_lt, k_2] at c_1
    refine g_iload_n (i := 1) rfl rfl ?_
    refine g_aload_n (i := 0) rfl rfl ?_
    refine g_getfield (v := .int (J 6)) rfl hr (by decide) rfl ?_
    refine g_icmp_ge 16 rfl rfl (fun c_3 => ?_) (fun c_3 => ?_)
    · skip
      rw [i_le, eI] at c_3
      refine g_iconst (n := 0) rfl ?_
      refine g_ireturn (ty := .boolean) rfl rfl (by decide) ?_
      exact ⟨rfl, Or.inr ⟨by omega, rfl⟩⟩
    · skip
      rw [i_le, eI] at c_3
      refine g_iconst (n := 1) rfl ?_
      refine g_goto 17 rfl rfl ?_
      refine g_ireturn (ty := .boolean) rfl rfl (by decide) ?_
      exact ⟨rfl, Or.inl ⟨by omega, rfl⟩⟩
theorem s_only8 {d : Nat} {h : sHp} {p : Nat} {c : CF} {W H k : Nat} (hd : 2 ≤ d) (F : FC h p c) (g : gdF c W H) (hk : k < W * H) : sDo d 25 [.ref p, .int (Int32.ofNat k)] h (fun r h' => h' = h ∧ r = some (.long (Int64.ofNat 1 <<< ((Int32.ofNat k).toInt64 &&& 63)))) := by
  have hn := gdF_n g
  have ek := ofN_toInt (n := k) (by omega)
  refine sDo_of1 (nL := 2) (L := [some (.ref p), some (.int (Int32.ofNat k))]) (by omega) rfl rfl ?_
  refine g_aload_n (i := 0) rfl rfl ?_
  refine g_iload_n (i := 1) rfl rfl ?_
  refine g_virt1 (Qc := fun r h' => h' = h ∧ (((0 ≤ (Int32.ofNat k).toInt ∧ (Int32.ofNat k).toInt < ((W * H : Nat) : Int)) ∧ r = some (.int 1)) ∨ (¬ (0 ≤ (Int32.ofNat k).toInt ∧ (Int32.ofNat k).toInt < ((W * H : Nat) : Int)) ∧ r = some (.int 0)))) rfl (by decide) rfl F.1 rfl (Nat.le_of_ble_eq_true rfl) (s_isSq11 (by omega) F g) (fun r h hq9 => ?_)
  obtain ⟨rfl, ⟨c_1, rfl⟩ | ⟨c_1, rfl⟩⟩ := hq9
  · skip
    refine g_if_eq 14 rfl rfl (fun hc => absurd hc (by decide)) (fun _ => ?_)
    refine g_lconst (n := 1) rfl ?_
    show sGo none 25 _ 9 [some (.ref p), some (.int (Int32.ofNat k))] [.long (Int64.ofNat 1)] _ _
    refine g_iload_n (i := 1) rfl rfl ?_
    refine g_lshl rfl ?_
    refine g_goto 15 rfl rfl ?_
    refine g_lreturn rfl rfl ?_
    exact ⟨rfl, rfl⟩
  · skip
    omega
theorem bt_pick {x : Int64} {q : Nat} (hq : q < 64) : x &&& (Int64.ofNat 1 <<< ((Int32.ofNat q).toInt64 &&& 63)) = Int64.ofNat 0 ↔ bt x q = false := by
  rw [bt_eq0]
  constructor
  · intro h
    have := h q hq
    rw [bt_and, bt_one hq, decide_eq_true rfl, Bool.and_true] at this
    exact this
  · intro h i hi
    rw [bt_and, bt_one hq]
    by_cases e : i = q
    · rw [e, h, Bool.false_and]
    · rw [decide_eq_false e, Bool.and_false]
theorem s_soilAt {d : Nat} {h : sHp} {p : Nat} {c : CF} {W H q V : Nat} (hd : 2 ≤ d) (F : FC h p c) (g : gdF c W H) (hq : q < W * H) (hV : V < 6) (hb : ∀ u, u < 6 → bt (c.2.2.1 u) q = decide (u = V)) : ∀ (f k : Nat), k + f = V → sGo none 32 d 2 [some (.ref p), some (.int (Int32.ofNat q)), some (.int (Int32.ofNat k))] [] h (fun r h' => h' = h ∧ r = some (.int (Int32.ofNat V))) := by
  have hn := gdF_n g
  intro f
  induction f with
  | zero =>
    intro k hk
    have ek := ofN_toInt (n := k) (by omega)
    have e6 : (Int8.ofInt 6).toInt32.toInt = 6 := rfl
    have eV : k = V := by omega
    subst eV
    refine g_iload_n (i := 2) rfl rfl ?_
    refine g_bipush (n := 6) rfl ?_
    refine g_icmp_ge 33 rfl rfl (fun hc => absurd hc (by rw [i_le, ek, e6]; omega)) (fun _ => ?_)
    refine g_aload_n (i := 0) rfl rfl ?_
    refine g_getfield (v := .ref (p + 1)) rfl F.1 (by decide) rfl ?_
    refine g_iload_n (i := 2) rfl rfl ?_
    refine g_laload (n := 6) (f := c.2.2.1) rfl F.2.1 (i_in (by omega) (by omega)) ?_
    rw [i_nat ek]
    refine g_aload_n (i := 0) rfl rfl ?_
    refine g_iload_n (i := 1) rfl rfl ?_
    refine g_virt1 (Qc := fun r h' => h' = h ∧ r = some (.long (Int64.ofNat 1 <<< ((Int32.ofNat q).toInt64 &&& 63)))) rfl (by decide) rfl F.1 rfl (Nat.le_of_ble_eq_true rfl) (s_only8 (by omega) F g (by omega)) (fun r h hq9 => ?_)
    obtain ⟨rfl, rfl⟩ := hq9
    refine g_land rfl ?_
    refine g_lconst (n := 0) rfl ?_
    show sGo none 32 _ 21 [some (.ref p), some (.int (Int32.ofNat q)), some (.int (Int32.ofNat k))] [.long (Int64.ofNat 0), .long ((c.2.2.1 k) &&& (Int64.ofNat 1 <<< ((Int32.ofNat q).toInt64 &&& 63)))] _ _
    refine g_lcmp rfl ?_
    refine g_if_eq 27 rfl rfl (fun c_1 => ?_) (fun c_1 => ?_)
    · skip
      rw [lc_eq] at c_1
      refine g_iinc (i := 2) (L1 := [some (.ref p), some (.int (Int32.ofNat q)), some (.int ((Int32.ofNat k) + Int32.ofInt 1))]) rfl rfl rfl ?_
      rw [ofN_add (by omega)]
      refine g_goto 2 rfl rfl ?_
      exact absurd ((bt_pick (by omega)).mp c_1) (by rw [hb k hV, decide_eq_true rfl]; decide)
    · skip
      rw [lc_eq] at c_1
      refine g_iload_n (i := 2) rfl rfl ?_
      refine g_ireturn (ty := .int) rfl rfl rfl ?_
      exact ⟨rfl, rfl⟩
  | succ f ih =>
    intro k hk
    have ek := ofN_toInt (n := k) (by omega)
    have e6 : (Int8.ofInt 6).toInt32.toInt = 6 := rfl
    refine g_iload_n (i := 2) rfl rfl ?_
    refine g_bipush (n := 6) rfl ?_
    refine g_icmp_ge 33 rfl rfl (fun hc => absurd hc (by rw [i_le, ek, e6]; omega)) (fun _ => ?_)
    refine g_aload_n (i := 0) rfl rfl ?_
    refine g_getfield (v := .ref (p + 1)) rfl F.1 (by decide) rfl ?_
    refine g_iload_n (i := 2) rfl rfl ?_
    refine g_laload (n := 6) (f := c.2.2.1) rfl F.2.1 (i_in (by omega) (by omega)) ?_
    rw [i_nat ek]
    refine g_aload_n (i := 0) rfl rfl ?_
    refine g_iload_n (i := 1) rfl rfl ?_
    refine g_virt1 (Qc := fun r h' => h' = h ∧ r = some (.long (Int64.ofNat 1 <<< ((Int32.ofNat q).toInt64 &&& 63)))) rfl (by decide) rfl F.1 rfl (Nat.le_of_ble_eq_true rfl) (s_only8 (by omega) F g (by omega)) (fun r h hq9 => ?_)
    obtain ⟨rfl, rfl⟩ := hq9
    refine g_land rfl ?_
    refine g_lconst (n := 0) rfl ?_
    show sGo none 32 _ 21 [some (.ref p), some (.int (Int32.ofNat q)), some (.int (Int32.ofNat k))] [.long (Int64.ofNat 0), .long ((c.2.2.1 k) &&& (Int64.ofNat 1 <<< ((Int32.ofNat q).toInt64 &&& 63)))] _ _
    refine g_lcmp rfl ?_
    refine g_if_eq 27 rfl rfl (fun c_1 => ?_) (fun c_1 => ?_)
    · skip
      rw [lc_eq] at c_1
      refine g_iinc (i := 2) (L1 := [some (.ref p), some (.int (Int32.ofNat q)), some (.int ((Int32.ofNat k) + Int32.ofInt 1))]) rfl rfl rfl ?_
      rw [ofN_add (by omega)]
      refine g_goto 2 rfl rfl ?_
      exact ih (k + 1) (by omega)
    · skip
      rw [lc_eq] at c_1
      refine g_iload_n (i := 2) rfl rfl ?_
      refine g_ireturn (ty := .int) rfl rfl rfl ?_
      exact absurd ((bt_pick (by omega)).mpr (by rw [hb k (by omega), decide_eq_false (show ¬ k = V by omega)])) c_1
theorem sa0 {d : Nat} {h : sHp} {p : Nat} {c : CF} {W H q V : Nat} (hd : 3 ≤ d) (F : FC h p c) (g : gdF c W H) (hq : q < W * H) (hV : V < 6) (hb : ∀ u, u < 6 → bt (c.2.2.1 u) q = decide (u = V)) : sDo d 32 [.ref p, .int (Int32.ofNat q)] h (fun r h' => h' = h ∧ r = some (.int (Int32.ofNat V))) := by
  obtain ⟨d, rfl⟩ : ∃ e, d = e + 1 := ⟨d - 1, by omega⟩
  refine sDo_of (d := d) (nL := 3) (L := [some (.ref p), some (.int (Int32.ofNat q)), none]) rfl rfl ?_
  refine g_iconst (n := 0) rfl ?_
  refine g_istore_n (i := 2) (L1 := [some (.ref p), some (.int (Int32.ofNat q)), some (.int (Int32.ofInt 0))]) rfl (Nat.le_of_ble_eq_true rfl) rfl ?_
  exact s_soilAt (d := d) (by omega) F g hq hV hb V 0 (by omega)
theorem s_soil11 {d : Nat} {h : sHp} {ik tf : Int32} {R : Nat → Int32} {c : CF} {W H q V U : Nat} (hd : 5 ≤ d) (h0 : h[0]? = some (cO ik tf)) (hR : h[43]? = some (rFc R)) (F : FC h 5 c) (g : gdF c W H) (hq : q < W * H) (hU : U < 6) (hV : V < 6) (hb : ∀ u, u < 6 → bt (c.2.2.1 u) q = decide (u = U)) : sDo d 125 [.ref 0, .int (Int32.ofNat q), .int (Int32.ofNat V)] h (fun r h' => r = some (.int (Int32.ofNat U)) ∧ h' = h.set 6 (.inl (1, 6, .inr (.inl (giveS c.2.2.1 6 (Int64.ofNat 1 <<< ((Int32.ofNat q).toInt64 &&& 63)) V))))) := by
  have hn := gdF_n g
  have eq := ofN_toInt (n := q) (by omega)
  have eV := ofN_toInt (n := V) (by omega)
  refine sDo_of1 (nL := 4) (L := [some (.ref 0), some (.int (Int32.ofNat q)), some (.int (Int32.ofNat V)), none]) (by omega) rfl rfl ?_
  refine g_aload_n (i := 0) rfl rfl ?_
  refine g_getfield (v := .ref 5) rfl h0 (by decide) rfl ?_
  refine g_iload_n (i := 1) rfl rfl ?_
  refine g_virt1 (Qc := fun r h' => h' = h ∧ (((0 ≤ (Int32.ofNat q).toInt ∧ (Int32.ofNat q).toInt < ((W * H : Nat) : Int)) ∧ r = some (.int 1)) ∨ (¬ (0 ≤ (Int32.ofNat q).toInt ∧ (Int32.ofNat q).toInt < ((W * H : Nat) : Int)) ∧ r = some (.int 0)))) rfl (by decide) rfl F.1 rfl (Nat.le_of_ble_eq_true rfl) (s_isSq11 (by omega) F g) (fun r h hq9 => ?_)
  obtain ⟨rfl, ⟨c_1, rfl⟩ | ⟨c_1, rfl⟩⟩ := hq9
  · skip
    refine g_if_eq 21 rfl rfl (fun hc => absurd hc (by decide)) (fun _ => ?_)
    refine g_iload_n (i := 2) rfl rfl ?_
    have k_3 : (0 : Int32).toInt = 0 := rfl
    refine g_if_lt 21 rfl rfl (fun c_2 => ?_) (fun c_2 => ?_)
    · skip
      rw [i_lt, eV, k_3] at c_2
      refine g_aload_n (i := 0) rfl rfl ?_
      refine g_iconst (n := (-1)) rfl ?_
      omega
    · skip
      rw [i_lt, eV, k_3] at c_2
      refine g_iload_n (i := 2) rfl rfl ?_
      refine g_bipush (n := 6) rfl ?_
      have k_5 : ((Int8.ofInt 6).toInt32).toInt = 6 := rfl
      refine g_icmp_lt 27 rfl rfl (fun c_4 => ?_) (fun c_4 => ?_)
      · skip
        rw [i_lt, eV, k_5] at c_4
        refine g_aload_n (i := 0) rfl rfl ?_
        refine g_getfield (v := .ref 5) rfl h0 (by decide) rfl ?_
        refine g_iload_n (i := 1) rfl rfl ?_
        refine g_virt1 (Qc := fun r h' => h' = h ∧ r = some (.int (Int32.ofNat U))) rfl (by decide) rfl F.1 rfl (Nat.le_of_ble_eq_true rfl) (sa0 (by omega) F g hq hU hb) (fun r h hq9 => ?_)
        obtain ⟨rfl, rfl⟩ := hq9
        refine g_istore_n (i := 3) (L1 := [some (.ref 0), some (.int (Int32.ofNat q)), some (.int (Int32.ofNat V)), some (.int (Int32.ofNat U))]) rfl (Nat.le_of_ble_eq_true rfl) rfl ?_
        refine g_aload_n (i := 0) rfl rfl ?_
        refine g_getfield (v := .ref 5) rfl h0 (by decide) rfl ?_
        refine g_aload_n (i := 0) rfl rfl ?_
        refine g_getfield (v := .ref 5) rfl h0 (by decide) rfl ?_
        refine g_iload_n (i := 1) rfl rfl ?_
        refine g_virt1 (Qc := fun r h' => h' = h ∧ r = some (.long (Int64.ofNat 1 <<< ((Int32.ofNat q).toInt64 &&& 63)))) rfl (by decide) rfl F.1 rfl (Nat.le_of_ble_eq_true rfl) (s_only8 (by omega) F g (by omega)) (fun r h hq9 => ?_)
        obtain ⟨rfl, rfl⟩ := hq9
        refine g_iload_n (i := 2) rfl rfl ?_
        refine g_virt2 (Qc := fun r h' => r = none ∧ h' = h.set (5 + 1) (.inl (1, 6, .inr (.inl (giveS c.2.2.1 6 (Int64.ofNat 1 <<< ((Int32.ofNat q).toInt64 &&& 63)) V))))) rfl (by decide) rfl F.1 rfl (Nat.le_of_ble_eq_true rfl) (sDo_up (d := 2) (by omega) (s_laySoil (d := 0) (set := (Int64.ofNat 1 <<< ((Int32.ofNat q).toInt64 &&& 63))) F eV hV)) (fun r h9 hq9 => ?_)
        obtain ⟨rfl, rfl⟩ := hq9
        refine g_iload_n (i := 3) rfl rfl ?_
        refine g_ireturn (ty := .int) rfl rfl rfl ?_
        exact ⟨rfl, rfl⟩
      · skip
        rw [i_lt, eV, k_5] at c_4
        refine g_aload_n (i := 0) rfl rfl ?_
        refine g_iconst (n := (-1)) rfl ?_
        omega
  · skip
    omega
theorem s_soil11n {d : Nat} {h : sHp} {ik tf : Int32} {R : Nat → Int32} {c : CF} {W H : Nat} {x v : Int32} (hd : 4 ≤ d) (h0 : h[0]? = some (cO ik tf)) (hR : h[43]? = some (rFc R)) (F : FC h 5 c) (g : gdF c W H) (hx : ¬ ((0 ≤ x.toInt ∧ x.toInt < ((W * H : Nat) : Int)) ∧ 0 ≤ v.toInt ∧ v.toInt < 6)) : sDo d 125 [.ref 0, .int x, .int v] h (fun r h' => r = some (.int (-1)) ∧ h' = h.set 43 (rFc (bump R 1))) := by
  refine sDo_of1 (nL := 4) (L := [some (.ref 0), some (.int x), some (.int v), none]) (by omega) rfl rfl ?_
  refine g_aload_n (i := 0) rfl rfl ?_
  refine g_getfield (v := .ref 5) rfl h0 (by decide) rfl ?_
  refine g_iload_n (i := 1) rfl rfl ?_
  refine g_virt1 (Qc := fun r h' => h' = h ∧ (((0 ≤ x.toInt ∧ x.toInt < ((W * H : Nat) : Int)) ∧ r = some (.int 1)) ∨ (¬ (0 ≤ x.toInt ∧ x.toInt < ((W * H : Nat) : Int)) ∧ r = some (.int 0)))) rfl (by decide) rfl F.1 rfl (Nat.le_of_ble_eq_true rfl) (s_isSq11 (by omega) F g) (fun r h hq9 => ?_)
  obtain ⟨rfl, ⟨c_1, rfl⟩ | ⟨c_1, rfl⟩⟩ := hq9
  · skip
    refine g_if_eq 21 rfl rfl (fun hc => absurd hc (by decide)) (fun _ => ?_)
    refine g_iload_n (i := 2) rfl rfl ?_
    have k_3 : (0 : Int32).toInt = 0 := rfl
    refine g_if_lt 21 rfl rfl (fun c_2 => ?_) (fun c_2 => ?_)
    · skip
      rw [i_lt, k_3] at c_2
      refine g_aload_n (i := 0) rfl rfl ?_
      refine g_iconst (n := (-1)) rfl ?_
      refine g_virt1 (Qc := fun r h' => r = some (.int ((Int32.ofInt (-1)))) ∧ h' = h.set 43 (rFc (bump R 1))) rfl (by decide) rfl h0 rfl (Nat.le_of_ble_eq_true rfl) (s_refuse2 (X := 1) (by omega) h0 hR rfl (by decide)) (fun r h9 hq9 => ?_)
      obtain ⟨rfl, rfl⟩ := hq9
      refine g_ireturn (ty := .int) rfl rfl rfl ?_
      exact ⟨rfl, rfl⟩
    · skip
      rw [i_lt, k_3] at c_2
      refine g_iload_n (i := 2) rfl rfl ?_
      refine g_bipush (n := 6) rfl ?_
      have k_5 : ((Int8.ofInt 6).toInt32).toInt = 6 := rfl
      refine g_icmp_lt 27 rfl rfl (fun c_4 => ?_) (fun c_4 => ?_)
      · skip
        rw [i_lt, k_5] at c_4
        exfalso; omega
      · skip
        rw [i_lt, k_5] at c_4
        refine g_aload_n (i := 0) rfl rfl ?_
        refine g_iconst (n := (-1)) rfl ?_
        refine g_virt1 (Qc := fun r h' => r = some (.int ((Int32.ofInt (-1)))) ∧ h' = h.set 43 (rFc (bump R 1))) rfl (by decide) rfl h0 rfl (Nat.le_of_ble_eq_true rfl) (s_refuse2 (X := 1) (by omega) h0 hR rfl (by decide)) (fun r h9 hq9 => ?_)
        obtain ⟨rfl, rfl⟩ := hq9
        refine g_ireturn (ty := .int) rfl rfl rfl ?_
        exact ⟨rfl, rfl⟩
  · skip
    refine g_if_eq 21 rfl rfl (fun _ => ?_) (fun hc => absurd hc (by decide))
    refine g_aload_n (i := 0) rfl rfl ?_
    refine g_iconst (n := (-1)) rfl ?_
    refine g_virt1 (Qc := fun r h' => r = some (.int ((Int32.ofInt (-1)))) ∧ h' = h.set 43 (rFc (bump R 1))) rfl (by decide) rfl h0 rfl (Nat.le_of_ble_eq_true rfl) (s_refuse2 (X := 1) (by omega) h0 hR rfl (by decide)) (fun r h9 hq9 => ?_)
    obtain ⟨rfl, rfl⟩ := hq9
    refine g_ireturn (ty := .int) rfl rfl rfl ?_
    exact ⟨rfl, rfl⟩
theorem s_soil12 {d : Nat} {h : sHp} {m : MF} {W H q V : Nat} (hd : 3 ≤ d) (M : MC h m) (g : gdM m.1 W H) (hq : q < W * H) (hV : V < 6) : sDo d 205 [.ref 60, .int (Int32.ofNat q), .int (Int32.ofNat V)] h (fun r h' => r = some (.int (m.2.1 q)) ∧ h' = h.set 62 (.inl (0, 64, .inl (upd m.2.1 q (Int32.ofNat V))))) := by
  have hn : W * H ≤ 64 := wh_le8 g.2.2.2.1 g.2.2.2.2.2
  have eq := ofN_toInt (n := q) (by omega)
  have eV := ofN_toInt (n := V) (by omega)
  refine sDo_of1 (nL := 4) (L := [some (.ref 60), some (.int (Int32.ofNat q)), some (.int (Int32.ofNat V)), none]) (by omega) rfl rfl ?_
  refine g_aload_n (i := 0) rfl rfl ?_
  refine g_iload_n (i := 1) rfl rfl ?_
  refine g_virt1 (Qc := fun r h' => h' = h ∧ (((0 ≤ (Int32.ofNat q).toInt ∧ (Int32.ofNat q).toInt < ((W * H : Nat) : Int)) ∧ r = some (.int 1)) ∨ (¬ (0 ≤ (Int32.ofNat q).toInt ∧ (Int32.ofNat q).toInt < ((W * H : Nat) : Int)) ∧ r = some (.int 0)))) rfl (by decide) rfl M.1 rfl (Nat.le_of_ble_eq_true rfl) (s_isSq12 (by omega) M.1 g) (fun r h hq9 => ?_)
  obtain ⟨rfl, ⟨c_1, rfl⟩ | ⟨c_1, rfl⟩⟩ := hq9
  · skip
    refine g_if_eq 17 rfl rfl (fun hc => absurd hc (by decide)) (fun _ => ?_)
    refine g_iload_n (i := 2) rfl rfl ?_
    have k_3 : (0 : Int32).toInt = 0 := rfl
    refine g_if_lt 17 rfl rfl (fun c_2 => ?_) (fun c_2 => ?_)
    · skip
      rw [i_lt, eV, k_3] at c_2
      refine g_aload_n (i := 0) rfl rfl ?_
      refine g_iconst (n := (-1)) rfl ?_
      omega
    · skip
      rw [i_lt, eV, k_3] at c_2
      refine g_iload_n (i := 2) rfl rfl ?_
      refine g_iconst (n := 5) rfl ?_
      have k_5 : (Int32.ofInt 5).toInt = 5 := rfl
      refine g_icmp_le 23 rfl rfl (fun c_4 => ?_) (fun c_4 => ?_)
      · skip
        rw [i_le, eV, k_5] at c_4
        refine g_aload_n (i := 0) rfl rfl ?_
        refine g_getfield (v := .ref 62) rfl M.1 (by decide) rfl ?_
        refine g_iload_n (i := 1) rfl rfl ?_
        refine g_iaload (n := 64) (f := m.2.1) rfl M.2.1 (i_in (by omega) (by omega)) ?_
        rw [i_nat eq]
        refine g_istore_n (i := 3) (L1 := [some (.ref 60), some (.int (Int32.ofNat q)), some (.int (Int32.ofNat V)), some (.int (m.2.1 q))]) rfl (Nat.le_of_ble_eq_true rfl) rfl ?_
        refine g_aload_n (i := 0) rfl rfl ?_
        refine g_getfield (v := .ref 62) rfl M.1 (by decide) rfl ?_
        refine g_iload_n (i := 1) rfl rfl ?_
        refine g_iload_n (i := 2) rfl rfl ?_
        refine g_iastore (n := 64) (f := m.2.1) (h1 := h.set 62 (.inl (0, 64, .inl (upd m.2.1 q (Int32.ofNat V))))) rfl M.2.1 (i_in (by omega) (by omega)) (by rw [i_nat eq]) ?_
        refine g_iload_n (i := 3) rfl rfl ?_
        refine g_ireturn (ty := .int) rfl rfl rfl ?_
        exact ⟨rfl, rfl⟩
      · skip
        rw [i_le, eV, k_5] at c_4
        refine g_aload_n (i := 0) rfl rfl ?_
        refine g_iconst (n := (-1)) rfl ?_
        omega
  · skip
    omega
theorem s_soil12n {d : Nat} {h : sHp} {R : Nat → Int32} {m : MF} {W H : Nat} {x v : Int32} (hd : 3 ≤ d) (M : MC h m) (hR : h[61]? = some (rFc R)) (g : gdM m.1 W H) (hx : ¬ ((0 ≤ x.toInt ∧ x.toInt < ((W * H : Nat) : Int)) ∧ 0 ≤ v.toInt ∧ v.toInt < 6)) : sDo d 205 [.ref 60, .int x, .int v] h (fun r h' => r = some (.int (-1)) ∧ h' = h.set 61 (rFc (bump R 1))) := by
  refine sDo_of1 (nL := 4) (L := [some (.ref 60), some (.int x), some (.int v), none]) (by omega) rfl rfl ?_
  refine g_aload_n (i := 0) rfl rfl ?_
  refine g_iload_n (i := 1) rfl rfl ?_
  refine g_virt1 (Qc := fun r h' => h' = h ∧ (((0 ≤ x.toInt ∧ x.toInt < ((W * H : Nat) : Int)) ∧ r = some (.int 1)) ∨ (¬ (0 ≤ x.toInt ∧ x.toInt < ((W * H : Nat) : Int)) ∧ r = some (.int 0)))) rfl (by decide) rfl M.1 rfl (Nat.le_of_ble_eq_true rfl) (s_isSq12 (by omega) M.1 g) (fun r h hq9 => ?_)
  obtain ⟨rfl, ⟨c_1, rfl⟩ | ⟨c_1, rfl⟩⟩ := hq9
  · skip
    refine g_if_eq 17 rfl rfl (fun hc => absurd hc (by decide)) (fun _ => ?_)
    refine g_iload_n (i := 2) rfl rfl ?_
    have k_3 : (0 : Int32).toInt = 0 := rfl
    refine g_if_lt 17 rfl rfl (fun c_2 => ?_) (fun c_2 => ?_)
    · skip
      rw [i_lt, k_3] at c_2
      refine g_aload_n (i := 0) rfl rfl ?_
      refine g_iconst (n := (-1)) rfl ?_
      refine g_virt1 (Qc := fun r h' => r = some (.int ((Int32.ofInt (-1)))) ∧ h' = h.set 61 (rFc (bump R 1))) rfl (by decide) rfl M.1 rfl (Nat.le_of_ble_eq_true rfl) (s_no2 (X := 1) (by omega) M.1 hR rfl (by decide)) (fun r h9 hq9 => ?_)
      obtain ⟨rfl, rfl⟩ := hq9
      refine g_ireturn (ty := .int) rfl rfl rfl ?_
      exact ⟨rfl, rfl⟩
    · skip
      rw [i_lt, k_3] at c_2
      refine g_iload_n (i := 2) rfl rfl ?_
      refine g_iconst (n := 5) rfl ?_
      have k_5 : (Int32.ofInt 5).toInt = 5 := rfl
      refine g_icmp_le 23 rfl rfl (fun c_4 => ?_) (fun c_4 => ?_)
      · skip
        rw [i_le, k_5] at c_4
        exfalso; omega
      · skip
        rw [i_le, k_5] at c_4
        refine g_aload_n (i := 0) rfl rfl ?_
        refine g_iconst (n := (-1)) rfl ?_
        refine g_virt1 (Qc := fun r h' => r = some (.int ((Int32.ofInt (-1)))) ∧ h' = h.set 61 (rFc (bump R 1))) rfl (by decide) rfl M.1 rfl (Nat.le_of_ble_eq_true rfl) (s_no2 (X := 1) (by omega) M.1 hR rfl (by decide)) (fun r h9 hq9 => ?_)
        obtain ⟨rfl, rfl⟩ := hq9
        refine g_ireturn (ty := .int) rfl rfl rfl ?_
        exact ⟨rfl, rfl⟩
  · skip
    refine g_if_eq 17 rfl rfl (fun _ => ?_) (fun hc => absurd hc (by decide))
    refine g_aload_n (i := 0) rfl rfl ?_
    refine g_iconst (n := (-1)) rfl ?_
    refine g_virt1 (Qc := fun r h' => r = some (.int ((Int32.ofInt (-1)))) ∧ h' = h.set 61 (rFc (bump R 1))) rfl (by decide) rfl M.1 rfl (Nat.le_of_ble_eq_true rfl) (s_no2 (X := 1) (by omega) M.1 hR rfl (by decide)) (fun r h9 hq9 => ?_)
    obtain ⟨rfl, rfl⟩ := hq9
    refine g_ireturn (ty := .int) rfl rfl rfl ?_
    exact ⟨rfl, rfl⟩
theorem s_worths11 {d : Nat} {h : sHp} {ik tf : Int32} {c : CF} {N i V X : Nat} (hd : 3 ≤ d) (h0 : h[0]? = some (cO ik tf)) (F : FC h 5 c) (hI : c.1 11 = Int32.ofNat N) (hN : N ≤ 5) (hi : i < N) (hV : V < 6) (hX : X < 100) : sDo d 128 [.ref 0, .int (Int32.ofNat i), .int (Int32.ofNat V), .int (Int32.ofNat X)] h (fun r h' => r = some (.int (c.2.2.2.2.1 i V)) ∧ h' = h.set (5 + 4 + i) (.inl (0, 6, .inl (upd (c.2.2.2.2.1 i) V (Int32.ofNat X))))) := by
  have ei := ofN_toInt (n := i) (by omega)
  have eV := ofN_toInt (n := V) (by omega)
  have eX := ofN_toInt (n := X) (by omega)
  obtain ⟨f, a3, a4⟩ := id F.2.2.2.1
  have a5 := F.2.2.2.2.1 i (by omega)
  refine sDo_of1 (nL := 5) (L := [some (.ref 0), some (.int (Int32.ofNat i)), some (.int (Int32.ofNat V)), some (.int (Int32.ofNat X)), none]) (by omega) rfl rfl ?_
  refine g_aload_n (i := 0) rfl rfl ?_
  refine g_getfield (v := .ref 5) rfl h0 (by decide) rfl ?_
  refine g_iload_n (i := 1) rfl rfl ?_
  refine g_virt1 (Qc := fun r h' => h' = h ∧ (((0 ≤ (Int32.ofNat i).toInt ∧ (Int32.ofNat i).toInt < (N : Int)) ∧ r = some (.int 1)) ∨ (¬ (0 ≤ (Int32.ofNat i).toInt ∧ (Int32.ofNat i).toInt < (N : Int)) ∧ r = some (.int 0)))) rfl (by decide) rfl F.1 rfl (Nat.le_of_ble_eq_true rfl) (s_hr11 (by omega) F hI hN) (fun r h hq9 => ?_)
  obtain ⟨rfl, ⟨c_1, rfl⟩ | ⟨c_1, rfl⟩⟩ := hq9
  · skip
    refine g_if_eq 21 rfl rfl (fun hc => absurd hc (by decide)) (fun _ => ?_)
    refine g_iload_n (i := 2) rfl rfl ?_
    have k_3 : (0 : Int32).toInt = 0 := rfl
    refine g_if_lt 21 rfl rfl (fun c_2 => ?_) (fun c_2 => ?_)
    · skip
      rw [i_lt, eV, k_3] at c_2
      refine g_aload_n (i := 0) rfl rfl ?_
      refine g_iconst (n := (-1)) rfl ?_
      omega
    · skip
      rw [i_lt, eV, k_3] at c_2
      refine g_iload_n (i := 2) rfl rfl ?_
      refine g_bipush (n := 6) rfl ?_
      have k_5 : ((Int8.ofInt 6).toInt32).toInt = 6 := rfl
      refine g_icmp_lt 27 rfl rfl (fun c_4 => ?_) (fun c_4 => ?_)
      · skip
        rw [i_lt, eV, k_5] at c_4
        refine g_iload_n (i := 3) rfl rfl ?_
        refine g_if_lt 37 rfl rfl (fun c_6 => ?_) (fun c_6 => ?_)
        · skip
          rw [i_lt, eX, k_3] at c_6
          refine g_aload_n (i := 0) rfl rfl ?_
          refine g_bipush (n := (-6)) rfl ?_
          omega
        · skip
          rw [i_lt, eX, k_3] at c_6
          refine g_iload_n (i := 3) rfl rfl ?_
          refine g_bipush (n := 99) rfl ?_
          have k_8 : ((Int8.ofInt 99).toInt32).toInt = 99 := rfl
          refine g_icmp_le 44 rfl rfl (fun c_7 => ?_) (fun c_7 => ?_)
          · skip
            rw [i_le, eX, k_8] at c_7
            refine g_aload_n (i := 0) rfl rfl ?_
            refine g_getfield (v := .ref 5) rfl h0 (by decide) rfl ?_
            refine g_getfield (v := .ref (5 + 3)) rfl F.1 (by decide) rfl ?_
            refine g_iload_n (i := 1) rfl rfl ?_
            refine g_aaload rfl a3 (by decide) (i_in (by omega) (by omega)) ?_
            rw [i_nat ei, a4 i (by omega)]
            show sGo none 128 _ 53 [some (.ref 0), some (.int (Int32.ofNat i)), some (.int (Int32.ofNat V)), some (.int (Int32.ofNat X)), none] (.ref (5 + 4 + i) :: []) _ _
            refine g_iload_n (i := 2) rfl rfl ?_
            refine g_iaload (n := 6) (f := (c.2.2.2.2.1 i)) rfl a5 (i_in (by omega) (by omega)) ?_
            rw [i_nat eV]
            refine g_istore (i := 4) (L1 := [some (.ref 0), some (.int (Int32.ofNat i)), some (.int (Int32.ofNat V)), some (.int (Int32.ofNat X)), some (.int ((c.2.2.2.2.1 i) V))]) rfl (Nat.le_of_ble_eq_true rfl) rfl ?_
            refine g_aload_n (i := 0) rfl rfl ?_
            refine g_getfield (v := .ref 5) rfl h0 (by decide) rfl ?_
            refine g_getfield (v := .ref (5 + 3)) rfl F.1 (by decide) rfl ?_
            refine g_iload_n (i := 1) rfl rfl ?_
            refine g_aaload rfl a3 (by decide) (i_in (by omega) (by omega)) ?_
            rw [i_nat ei, a4 i (by omega)]
            show sGo none 128 _ 66 [some (.ref 0), some (.int (Int32.ofNat i)), some (.int (Int32.ofNat V)), some (.int (Int32.ofNat X)), some (.int ((c.2.2.2.2.1 i) V))] (.ref (5 + 4 + i) :: []) _ _
            refine g_iload_n (i := 2) rfl rfl ?_
            refine g_iload_n (i := 3) rfl rfl ?_
            refine g_iastore (n := 6) (f := (c.2.2.2.2.1 i)) (h1 := h.set (5 + 4 + i) (.inl (0, 6, .inl (upd (c.2.2.2.2.1 i) V (Int32.ofNat X))))) rfl a5 (i_in (by omega) (by omega)) (by rw [i_nat eV]) ?_
            refine g_iload (i := 4) rfl rfl ?_
            refine g_ireturn (ty := .int) rfl rfl rfl ?_
            exact ⟨rfl, rfl⟩
          · skip
            rw [i_le, eX, k_8] at c_7
            refine g_aload_n (i := 0) rfl rfl ?_
            refine g_bipush (n := (-6)) rfl ?_
            omega
      · skip
        rw [i_lt, eV, k_5] at c_4
        refine g_aload_n (i := 0) rfl rfl ?_
        refine g_iconst (n := (-1)) rfl ?_
        omega
  · skip
    omega
theorem s_worths11n {d : Nat} {h : sHp} {ik tf : Int32} {R : Nat → Int32} {c : CF} {N : Nat} {x v y : Int32} (hd : 3 ≤ d) (h0 : h[0]? = some (cO ik tf)) (hR : h[43]? = some (rFc R)) (F : FC h 5 c) (hI : c.1 11 = Int32.ofNat N) (hN : N ≤ 5) (hx : ¬ ((0 ≤ x.toInt ∧ x.toInt < (N : Int)) ∧ (0 ≤ v.toInt ∧ v.toInt < 6) ∧ 0 ≤ y.toInt ∧ y.toInt < 100)) : sDo d 128 [.ref 0, .int x, .int v, .int y] h (fun r h' => (¬ ((0 ≤ x.toInt ∧ x.toInt < (N : Int)) ∧ (0 ≤ v.toInt ∧ v.toInt < 6)) ∧ r = some (.int (-1)) ∧ h' = h.set 43 (rFc (bump R 1))) ∨ (((0 ≤ x.toInt ∧ x.toInt < (N : Int)) ∧ (0 ≤ v.toInt ∧ v.toInt < 6)) ∧ r = some (.int (-6)) ∧ h' = h.set 43 (rFc (bump R 6)))) := by
  refine sDo_of1 (nL := 5) (L := [some (.ref 0), some (.int x), some (.int v), some (.int y), none]) (by omega) rfl rfl ?_
  refine g_aload_n (i := 0) rfl rfl ?_
  refine g_getfield (v := .ref 5) rfl h0 (by decide) rfl ?_
  refine g_iload_n (i := 1) rfl rfl ?_
  refine g_virt1 (Qc := fun r h' => h' = h ∧ (((0 ≤ x.toInt ∧ x.toInt < (N : Int)) ∧ r = some (.int 1)) ∨ (¬ (0 ≤ x.toInt ∧ x.toInt < (N : Int)) ∧ r = some (.int 0)))) rfl (by decide) rfl F.1 rfl (Nat.le_of_ble_eq_true rfl) (s_hr11 (by omega) F hI hN) (fun r h hq9 => ?_)
  obtain ⟨rfl, ⟨c_1, rfl⟩ | ⟨c_1, rfl⟩⟩ := hq9
  · skip
    refine g_if_eq 21 rfl rfl (fun hc => absurd hc (by decide)) (fun _ => ?_)
    refine g_iload_n (i := 2) rfl rfl ?_
    have k_3 : (0 : Int32).toInt = 0 := rfl
    refine g_if_lt 21 rfl rfl (fun c_2 => ?_) (fun c_2 => ?_)
    · skip
      rw [i_lt, k_3] at c_2
      refine g_aload_n (i := 0) rfl rfl ?_
      refine g_iconst (n := (-1)) rfl ?_
      refine g_virt1 (Qc := fun r h' => r = some (.int ((Int32.ofInt (-1)))) ∧ h' = h.set 43 (rFc (bump R 1))) rfl (by decide) rfl h0 rfl (Nat.le_of_ble_eq_true rfl) (s_refuse2 (X := 1) (by omega) h0 hR rfl (by decide)) (fun r h9 hq9 => ?_)
      obtain ⟨rfl, rfl⟩ := hq9
      refine g_ireturn (ty := .int) rfl rfl rfl ?_
      exact Or.inl ⟨by omega, rfl, rfl⟩
    · skip
      rw [i_lt, k_3] at c_2
      refine g_iload_n (i := 2) rfl rfl ?_
      refine g_bipush (n := 6) rfl ?_
      have k_5 : ((Int8.ofInt 6).toInt32).toInt = 6 := rfl
      refine g_icmp_lt 27 rfl rfl (fun c_4 => ?_) (fun c_4 => ?_)
      · skip
        rw [i_lt, k_5] at c_4
        refine g_iload_n (i := 3) rfl rfl ?_
        refine g_if_lt 37 rfl rfl (fun c_6 => ?_) (fun c_6 => ?_)
        · skip
          rw [i_lt, k_3] at c_6
          refine g_aload_n (i := 0) rfl rfl ?_
          refine g_bipush (n := (-6)) rfl ?_
          refine g_virt1 (Qc := fun r h' => r = some (.int ((Int8.ofInt (-6)).toInt32)) ∧ h' = h.set 43 (rFc (bump R 6))) rfl (by decide) rfl h0 rfl (Nat.le_of_ble_eq_true rfl) (s_refuse2 (X := 6) (by omega) h0 hR rfl (by decide)) (fun r h9 hq9 => ?_)
          obtain ⟨rfl, rfl⟩ := hq9
          refine g_ireturn (ty := .int) rfl rfl rfl ?_
          exact Or.inr ⟨by omega, rfl, rfl⟩
        · skip
          rw [i_lt, k_3] at c_6
          refine g_iload_n (i := 3) rfl rfl ?_
          refine g_bipush (n := 99) rfl ?_
          have k_8 : ((Int8.ofInt 99).toInt32).toInt = 99 := rfl
          refine g_icmp_le 44 rfl rfl (fun c_7 => ?_) (fun c_7 => ?_)
          · skip
            rw [i_le, k_8] at c_7
            exfalso; omega
          · skip
            rw [i_le, k_8] at c_7
            refine g_aload_n (i := 0) rfl rfl ?_
            refine g_bipush (n := (-6)) rfl ?_
            refine g_virt1 (Qc := fun r h' => r = some (.int ((Int8.ofInt (-6)).toInt32)) ∧ h' = h.set 43 (rFc (bump R 6))) rfl (by decide) rfl h0 rfl (Nat.le_of_ble_eq_true rfl) (s_refuse2 (X := 6) (by omega) h0 hR rfl (by decide)) (fun r h9 hq9 => ?_)
            obtain ⟨rfl, rfl⟩ := hq9
            refine g_ireturn (ty := .int) rfl rfl rfl ?_
            exact Or.inr ⟨by omega, rfl, rfl⟩
      · skip
        rw [i_lt, k_5] at c_4
        refine g_aload_n (i := 0) rfl rfl ?_
        refine g_iconst (n := (-1)) rfl ?_
        refine g_virt1 (Qc := fun r h' => r = some (.int ((Int32.ofInt (-1)))) ∧ h' = h.set 43 (rFc (bump R 1))) rfl (by decide) rfl h0 rfl (Nat.le_of_ble_eq_true rfl) (s_refuse2 (X := 1) (by omega) h0 hR rfl (by decide)) (fun r h9 hq9 => ?_)
        obtain ⟨rfl, rfl⟩ := hq9
        refine g_ireturn (ty := .int) rfl rfl rfl ?_
        exact Or.inl ⟨by omega, rfl, rfl⟩
  · skip
    refine g_if_eq 21 rfl rfl (fun _ => ?_) (fun hc => absurd hc (by decide))
    refine g_aload_n (i := 0) rfl rfl ?_
    refine g_iconst (n := (-1)) rfl ?_
    refine g_virt1 (Qc := fun r h' => r = some (.int ((Int32.ofInt (-1)))) ∧ h' = h.set 43 (rFc (bump R 1))) rfl (by decide) rfl h0 rfl (Nat.le_of_ble_eq_true rfl) (s_refuse2 (X := 1) (by omega) h0 hR rfl (by decide)) (fun r h9 hq9 => ?_)
    obtain ⟨rfl, rfl⟩ := hq9
    refine g_ireturn (ty := .int) rfl rfl rfl ?_
    exact Or.inl ⟨by omega, rfl, rfl⟩
theorem s_worths12 {d : Nat} {h : sHp} {m : MF} {N i V X : Nat} (hd : 3 ≤ d) (M : MC h m) (hI : m.1 6 = Int32.ofNat N) (hN : N ≤ 5) (hi : i < N) (hV : V < 6) (hX : X < 100) : sDo d 208 [.ref 60, .int (Int32.ofNat i), .int (Int32.ofNat V), .int (Int32.ofNat X)] h (fun r h' => r = some (.int (m.2.2.2.2.2 (6 * i + V))) ∧ h' = h.set 66 (.inl (0, 30, .inl (upd m.2.2.2.2.2 (6 * i + V) (Int32.ofNat X))))) := by
  have ei := ofN_toInt (n := i) (by omega)
  have eV := ofN_toInt (n := V) (by omega)
  have eX := ofN_toInt (n := X) (by omega)
  refine sDo_of1 (nL := 5) (L := [some (.ref 60), some (.int (Int32.ofNat i)), some (.int (Int32.ofNat V)), some (.int (Int32.ofNat X)), none]) (by omega) rfl rfl ?_
  refine g_aload_n (i := 0) rfl rfl ?_
  refine g_iload_n (i := 1) rfl rfl ?_
  refine g_virt1 (Qc := fun r h' => h' = h ∧ (((0 ≤ (Int32.ofNat i).toInt ∧ (Int32.ofNat i).toInt < (N : Int)) ∧ r = some (.int 1)) ∨ (¬ (0 ≤ (Int32.ofNat i).toInt ∧ (Int32.ofNat i).toInt < (N : Int)) ∧ r = some (.int 0)))) rfl (by decide) rfl M.1 rfl (Nat.le_of_ble_eq_true rfl) (s_hr12 (by omega) M.1 hI hN) (fun r h hq9 => ?_)
  obtain ⟨rfl, ⟨c_1, rfl⟩ | ⟨c_1, rfl⟩⟩ := hq9
  · skip
    refine g_if_eq 17 rfl rfl (fun hc => absurd hc (by decide)) (fun _ => ?_)
    refine g_iload_n (i := 2) rfl rfl ?_
    have k_3 : (0 : Int32).toInt = 0 := rfl
    refine g_if_lt 17 rfl rfl (fun c_2 => ?_) (fun c_2 => ?_)
    · skip
      rw [i_lt, eV, k_3] at c_2
      refine g_aload_n (i := 0) rfl rfl ?_
      refine g_iconst (n := (-1)) rfl ?_
      omega
    · skip
      rw [i_lt, eV, k_3] at c_2
      refine g_iload_n (i := 2) rfl rfl ?_
      refine g_iconst (n := 5) rfl ?_
      have k_5 : (Int32.ofInt 5).toInt = 5 := rfl
      refine g_icmp_le 23 rfl rfl (fun c_4 => ?_) (fun c_4 => ?_)
      · skip
        rw [i_le, eV, k_5] at c_4
        refine g_iload_n (i := 3) rfl rfl ?_
        refine g_if_lt 33 rfl rfl (fun c_6 => ?_) (fun c_6 => ?_)
        · skip
          rw [i_lt, eX, k_3] at c_6
          refine g_aload_n (i := 0) rfl rfl ?_
          refine g_bipush (n := (-6)) rfl ?_
          omega
        · skip
          rw [i_lt, eX, k_3] at c_6
          refine g_iload_n (i := 3) rfl rfl ?_
          refine g_bipush (n := 99) rfl ?_
          have k_8 : ((Int8.ofInt 99).toInt32).toInt = 99 := rfl
          refine g_icmp_le 40 rfl rfl (fun c_7 => ?_) (fun c_7 => ?_)
          · skip
            rw [i_le, eX, k_8] at c_7
            refine g_aload_n (i := 0) rfl rfl ?_
            refine g_getfield (v := .ref 66) rfl M.1 (by decide) rfl ?_
            refine g_bipush (n := 6) rfl ?_
            refine g_iload_n (i := 1) rfl rfl ?_
            have k_9 : ((Int8.ofInt 6).toInt32).toInt = 6 := rfl
            refine g_imul rfl ?_
            have t_10 : (((Int8.ofInt 6).toInt32 * (Int32.ofNat i))).toInt = ((6 * i : Nat) : Int) := n_mul (X := 6) (Y := i) (show _ = ((6 : Nat) : Int) from k_9) (show _ = ((i : Nat) : Int) from ei) (by omega)
            refine g_iload_n (i := 2) rfl rfl ?_
            refine g_iadd rfl ?_
            have t_11 : (((Int8.ofInt 6).toInt32 * (Int32.ofNat i)) + (Int32.ofNat V)).toInt = ((6 * i + V : Nat) : Int) := by rw [i_add (by rw [t_10, eV]; omega) (by rw [t_10, eV]; omega), t_10, eV]; omega
            refine g_iaload (n := 30) (f := m.2.2.2.2.2) rfl M.2.2.2.2.2 (i_in (by omega) (by omega)) ?_
            rw [i_nat t_11]
            refine g_istore (i := 4) (L1 := [some (.ref 60), some (.int (Int32.ofNat i)), some (.int (Int32.ofNat V)), some (.int (Int32.ofNat X)), some (.int (m.2.2.2.2.2 (6 * i + V)))]) rfl (Nat.le_of_ble_eq_true rfl) rfl ?_
            refine g_aload_n (i := 0) rfl rfl ?_
            refine g_getfield (v := .ref 66) rfl M.1 (by decide) rfl ?_
            refine g_bipush (n := 6) rfl ?_
            refine g_iload_n (i := 1) rfl rfl ?_
            refine g_imul rfl ?_
            refine g_iload_n (i := 2) rfl rfl ?_
            refine g_iadd rfl ?_
            have t_12 : (((Int8.ofInt 6).toInt32 * (Int32.ofNat i)) + (Int32.ofNat V)).toInt = ((6 * i + V : Nat) : Int) := by rw [i_add (by rw [t_10, eV]; omega) (by rw [t_10, eV]; omega), t_10, eV]; omega
            refine g_iload_n (i := 3) rfl rfl ?_
            refine g_iastore (n := 30) (f := m.2.2.2.2.2) (h1 := h.set 66 (.inl (0, 30, .inl (upd m.2.2.2.2.2 (6 * i + V) (Int32.ofNat X))))) rfl M.2.2.2.2.2 (i_in (by omega) (by omega)) (by rw [i_nat t_12]) ?_
            refine g_iload (i := 4) rfl rfl ?_
            refine g_ireturn (ty := .int) rfl rfl rfl ?_
            exact ⟨rfl, rfl⟩
          · skip
            rw [i_le, eX, k_8] at c_7
            refine g_aload_n (i := 0) rfl rfl ?_
            refine g_bipush (n := (-6)) rfl ?_
            omega
      · skip
        rw [i_le, eV, k_5] at c_4
        refine g_aload_n (i := 0) rfl rfl ?_
        refine g_iconst (n := (-1)) rfl ?_
        omega
  · skip
    omega
theorem s_worths12n {d : Nat} {h : sHp} {R : Nat → Int32} {m : MF} {N : Nat} {x v y : Int32} (hd : 3 ≤ d) (M : MC h m) (hR : h[61]? = some (rFc R)) (hI : m.1 6 = Int32.ofNat N) (hN : N ≤ 5) (hx : ¬ ((0 ≤ x.toInt ∧ x.toInt < (N : Int)) ∧ (0 ≤ v.toInt ∧ v.toInt < 6) ∧ 0 ≤ y.toInt ∧ y.toInt < 100)) : sDo d 208 [.ref 60, .int x, .int v, .int y] h (fun r h' => (¬ ((0 ≤ x.toInt ∧ x.toInt < (N : Int)) ∧ (0 ≤ v.toInt ∧ v.toInt < 6)) ∧ r = some (.int (-1)) ∧ h' = h.set 61 (rFc (bump R 1))) ∨ (((0 ≤ x.toInt ∧ x.toInt < (N : Int)) ∧ (0 ≤ v.toInt ∧ v.toInt < 6)) ∧ r = some (.int (-6)) ∧ h' = h.set 61 (rFc (bump R 6)))) := by
  refine sDo_of1 (nL := 5) (L := [some (.ref 60), some (.int x), some (.int v), some (.int y), none]) (by omega) rfl rfl ?_
  refine g_aload_n (i := 0) rfl rfl ?_
  refine g_iload_n (i := 1) rfl rfl ?_
  refine g_virt1 (Qc := fun r h' => h' = h ∧ (((0 ≤ x.toInt ∧ x.toInt < (N : Int)) ∧ r = some (.int 1)) ∨ (¬ (0 ≤ x.toInt ∧ x.toInt < (N : Int)) ∧ r = some (.int 0)))) rfl (by decide) rfl M.1 rfl (Nat.le_of_ble_eq_true rfl) (s_hr12 (by omega) M.1 hI hN) (fun r h hq9 => ?_)
  obtain ⟨rfl, ⟨c_1, rfl⟩ | ⟨c_1, rfl⟩⟩ := hq9
  · skip
    refine g_if_eq 17 rfl rfl (fun hc => absurd hc (by decide)) (fun _ => ?_)
    refine g_iload_n (i := 2) rfl rfl ?_
    have k_3 : (0 : Int32).toInt = 0 := rfl
    refine g_if_lt 17 rfl rfl (fun c_2 => ?_) (fun c_2 => ?_)
    · skip
      rw [i_lt, k_3] at c_2
      refine g_aload_n (i := 0) rfl rfl ?_
      refine g_iconst (n := (-1)) rfl ?_
      refine g_virt1 (Qc := fun r h' => r = some (.int ((Int32.ofInt (-1)))) ∧ h' = h.set 61 (rFc (bump R 1))) rfl (by decide) rfl M.1 rfl (Nat.le_of_ble_eq_true rfl) (s_no2 (X := 1) (by omega) M.1 hR rfl (by decide)) (fun r h9 hq9 => ?_)
      obtain ⟨rfl, rfl⟩ := hq9
      refine g_ireturn (ty := .int) rfl rfl rfl ?_
      exact Or.inl ⟨by omega, rfl, rfl⟩
    · skip
      rw [i_lt, k_3] at c_2
      refine g_iload_n (i := 2) rfl rfl ?_
      refine g_iconst (n := 5) rfl ?_
      have k_5 : (Int32.ofInt 5).toInt = 5 := rfl
      refine g_icmp_le 23 rfl rfl (fun c_4 => ?_) (fun c_4 => ?_)
      · skip
        rw [i_le, k_5] at c_4
        refine g_iload_n (i := 3) rfl rfl ?_
        refine g_if_lt 33 rfl rfl (fun c_6 => ?_) (fun c_6 => ?_)
        · skip
          rw [i_lt, k_3] at c_6
          refine g_aload_n (i := 0) rfl rfl ?_
          refine g_bipush (n := (-6)) rfl ?_
          refine g_virt1 (Qc := fun r h' => r = some (.int ((Int8.ofInt (-6)).toInt32)) ∧ h' = h.set 61 (rFc (bump R 6))) rfl (by decide) rfl M.1 rfl (Nat.le_of_ble_eq_true rfl) (s_no2 (X := 6) (by omega) M.1 hR rfl (by decide)) (fun r h9 hq9 => ?_)
          obtain ⟨rfl, rfl⟩ := hq9
          refine g_ireturn (ty := .int) rfl rfl rfl ?_
          exact Or.inr ⟨by omega, rfl, rfl⟩
        · skip
          rw [i_lt, k_3] at c_6
          refine g_iload_n (i := 3) rfl rfl ?_
          refine g_bipush (n := 99) rfl ?_
          have k_8 : ((Int8.ofInt 99).toInt32).toInt = 99 := rfl
          refine g_icmp_le 40 rfl rfl (fun c_7 => ?_) (fun c_7 => ?_)
          · skip
            rw [i_le, k_8] at c_7
            exfalso; omega
          · skip
            rw [i_le, k_8] at c_7
            refine g_aload_n (i := 0) rfl rfl ?_
            refine g_bipush (n := (-6)) rfl ?_
            refine g_virt1 (Qc := fun r h' => r = some (.int ((Int8.ofInt (-6)).toInt32)) ∧ h' = h.set 61 (rFc (bump R 6))) rfl (by decide) rfl M.1 rfl (Nat.le_of_ble_eq_true rfl) (s_no2 (X := 6) (by omega) M.1 hR rfl (by decide)) (fun r h9 hq9 => ?_)
            obtain ⟨rfl, rfl⟩ := hq9
            refine g_ireturn (ty := .int) rfl rfl rfl ?_
            exact Or.inr ⟨by omega, rfl, rfl⟩
      · skip
        rw [i_le, k_5] at c_4
        refine g_aload_n (i := 0) rfl rfl ?_
        refine g_iconst (n := (-1)) rfl ?_
        refine g_virt1 (Qc := fun r h' => r = some (.int ((Int32.ofInt (-1)))) ∧ h' = h.set 61 (rFc (bump R 1))) rfl (by decide) rfl M.1 rfl (Nat.le_of_ble_eq_true rfl) (s_no2 (X := 1) (by omega) M.1 hR rfl (by decide)) (fun r h9 hq9 => ?_)
        obtain ⟨rfl, rfl⟩ := hq9
        refine g_ireturn (ty := .int) rfl rfl rfl ?_
        exact Or.inl ⟨by omega, rfl, rfl⟩
  · skip
    refine g_if_eq 17 rfl rfl (fun _ => ?_) (fun hc => absurd hc (by decide))
    refine g_aload_n (i := 0) rfl rfl ?_
    refine g_iconst (n := (-1)) rfl ?_
    refine g_virt1 (Qc := fun r h' => r = some (.int ((Int32.ofInt (-1)))) ∧ h' = h.set 61 (rFc (bump R 1))) rfl (by decide) rfl M.1 rfl (Nat.le_of_ble_eq_true rfl) (s_no2 (X := 1) (by omega) M.1 hR rfl (by decide)) (fun r h9 hq9 => ?_)
    obtain ⟨rfl, rfl⟩ := hq9
    refine g_ireturn (ty := .int) rfl rfl rfl ?_
    exact Or.inl ⟨by omega, rfl, rfl⟩
