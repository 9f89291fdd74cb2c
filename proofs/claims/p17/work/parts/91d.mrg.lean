section
/-! ===== field of the reference ===== -/
/-- what bars a row (1), a cut (2) -/
def wtS (hd : Nat → Int32) (S : Nat) (w : Int) : Int32 := if (hd S).toInt = 3 - w then -2 else if (hd S).toInt = 0 then -3 else 0
theorem s_sh12z {d : Nat} {h : sHp} {s : Int32} (hd : 1 ≤ d) : sDo d 171 [.ref 60, .int s] h (fun r h' => h' = h ∧ ((0 ≤ s.toInt ∧ s.toInt < 8) ∧ r = some (.int 1) ∨ ¬ (0 ≤ s.toInt ∧ s.toInt < 8) ∧ r = some (.int 0))) := by
  obtain ⟨e, rfl⟩ : ∃ e, d = e + 1 := ⟨d - 1, by omega⟩
  refine sDo_mono (s_sh12 rfl) (fun r h' q => ⟨q.1, ?_⟩)
  by_cases z : 0 ≤ s.toInt ∧ s.toInt < 8
  · rw [if_pos z] at q; exact Or.inl ⟨z, q.2⟩
  · rw [if_neg z] at q; exact Or.inr ⟨z, q.2⟩
theorem s_wantsE {d : Nat} {h : sHp} {J hd : Nat → Int32} {s w : Int32} (hd1 : 2 ≤ d) (hr : h[60]? = some (mO J)) (a4 : h[67]? = some (.inl (0, 8, .inl hd))) (hw : w.toInt = 1 ∨ w.toInt = 2) : sDo d 184 [.ref 60, .int s, .int w] h (fun r h' => h' = h ∧ ((0 ≤ s.toInt ∧ s.toInt < 8) ∧ r = some (.int (wtS hd s.toInt.toNat w.toInt)) ∨ ¬ (0 ≤ s.toInt ∧ s.toInt < 8) ∧ r = some (.int (-1)))) := by
  unfold wtS
  refine sDo_of1 (nL := 3) (L := [some (.ref 60), some (.int s), some (.int w)]) (by omega) rfl rfl ?_
  refine g_aload_n (i := 0) rfl rfl ?_
  refine g_iload_n (i := 1) rfl rfl ?_
  refine g_virt1 (Qc := fun r h' => h' = h ∧ (((0 ≤ s.toInt ∧ s.toInt < 8) ∧ r = some (.int 1)) ∨ (¬ (0 ≤ s.toInt ∧ s.toInt < 8) ∧ r = some (.int 0)))) rfl (by decide) rfl hr rfl (Nat.le_of_ble_eq_true rfl) (s_sh12z (by omega)) (fun r h hq9 => ?_)
  obtain ⟨rfl, ⟨c_1, rfl⟩ | ⟨c_1, rfl⟩⟩ := hq9
  · skip
    obtain ⟨S, hS⟩ : ∃ S : Nat, s.toInt = S := ⟨s.toInt.toNat, by omega⟩
    rw [show s.toInt.toNat = S by omega]
    refine g_if_ne 12 rfl rfl (fun _ => ?_) (fun hc => absurd hc (by decide))
    refine g_aload_n (i := 0) rfl rfl ?_
    refine g_getfield (v := .ref 67) rfl hr (by decide) rfl ?_
    refine g_iload_n (i := 1) rfl rfl ?_
    refine g_iaload (n := 8) (f := hd) rfl a4 (i_in (by omega) (by omega)) ?_
    rw [i_nat hS]
    refine g_iconst (n := 3) rfl ?_
    refine g_iload_n (i := 2) rfl rfl ?_
    have k_2 : (Int32.ofInt 3).toInt = 3 := rfl
    refine g_isub rfl ?_
    have t_3 : ((Int32.ofInt 3) - w).toInt = 3 - w.toInt := by rw [i_sub (by rw [k_2]; omega) (by rw [k_2]; omega), k_2]
    refine g_icmp_ne 29 rfl rfl (fun c_4 => ?_) (fun c_4 => ?_)
    · skip
      rw [i_eq, t_3] at c_4
      refine g_aload_n (i := 0) rfl rfl ?_
      refine g_getfield (v := .ref 67) rfl hr (by decide) rfl ?_
      refine g_iload_n (i := 1) rfl rfl ?_
      refine g_iaload (n := 8) (f := hd) rfl a4 (i_in (by omega) (by omega)) ?_
      rw [i_nat hS]
      have k_6 : (0 : Int32).toInt = 0 := rfl
      refine g_if_ne 43 rfl rfl (fun c_5 => ?_) (fun c_5 => ?_)
      · skip
        rw [i_eq, k_6] at c_5
        refine g_iconst (n := 0) rfl ?_
        refine g_ireturn (ty := .int) rfl rfl rfl ?_
        exact ⟨rfl, Or.inl ⟨c_1, by rw [if_neg (by omega), if_neg (by omega)]; rfl⟩⟩
      · skip
        rw [i_eq, k_6] at c_5
        refine g_bipush (n := (-3)) rfl ?_
        refine g_goto 44 rfl rfl ?_
        refine g_ireturn (ty := .int) rfl rfl rfl ?_
        exact ⟨rfl, Or.inl ⟨c_1, by rw [if_neg (by omega), if_pos (by omega)]; rfl⟩⟩
    · skip
      rw [i_eq, t_3] at c_4
      refine g_bipush (n := (-2)) rfl ?_
      refine g_goto 44 rfl rfl ?_
      refine g_ireturn (ty := .int) rfl rfl rfl ?_
      exact ⟨rfl, Or.inl ⟨c_1, by rw [if_pos (by omega)]; rfl⟩⟩
  · skip
    refine g_if_ne 12 rfl rfl (fun hc => absurd hc (by decide)) (fun _ => ?_)
    refine g_iconst (n := (-1)) rfl ?_
    refine g_goto 44 rfl rfl ?_
    refine g_ireturn (ty := .int) rfl rfl rfl ?_
    exact ⟨rfl, Or.inr ⟨c_1, rfl⟩⟩
/-- alike in what a field is -/
def mQ (m m' : MF) : Prop := (∀ j, j < 7 → m'.1 j = m.1 j) ∧ m'.2 = m.2
theorem mQ_rfl (m : MF) : mQ m m := ⟨fun _ _ => rfl, rfl⟩
theorem mQ_tr {a b c : MF} (x : mQ a b) (y : mQ b c) : mQ a c := ⟨fun j hj => (y.1 j hj).trans (x.1 j hj), y.2.trans x.2⟩
theorem mQ_S {m m' : MF} (x : mS m m') : mQ m m' := ⟨fun j hj => x.1 j (by omega) (by omega) (by omega), x.2⟩
theorem upd7 {J J' : Nat → Int32} {k : Nat} {v : Int32} (a : ∀ j, j < 7 → J' j = J j) : ∀ j, j < 7 → upd J' k v j = upd J k v j := fun j hj => by
  by_cases e : j = k
  · rw [e, u_at, u_at]
  · rw [u_ne e, u_ne e, a j hj]
theorem mQ_do {m m' : MF} (q : mQ m m') (a : Act) : mQ (mfDo m a) (mfDo m' a) := by
  obtain ⟨J, R⟩ := m
  obtain ⟨J', R'⟩ := m'
  obtain ⟨q1, q2⟩ := q
  have q2 : R' = R := q2
  subst q2
  obtain ⟨k, x, y, z⟩ := a
  match k with
  | 0 => exact ⟨upd7 (upd7 (upd7 (upd7 q1))), rfl⟩
  | 1 => exact ⟨q1, rfl⟩
  | 2 => exact ⟨upd7 q1, rfl⟩
  | 3 =>
    have e : J' 6 = J 6 := q1 6 (by decide)
    show mQ (mfHeir (J 6).toNatClampNeg (Int32.ofNat x) (J, R')) (mfHeir (J' 6).toNatClampNeg (Int32.ofNat x) (J', R'))
    rw [e]
    exact ⟨upd7 q1, rfl⟩
  | k + 4 => exact ⟨q1, rfl⟩
theorem mQ_dos {m m' : MF} (q : mQ m m') : ∀ as : List Act, mQ (as.foldl mfDo m) (as.foldl mfDo m') := by
  intro as
  induction as generalizing m m' with
  | nil => exact q
  | cons a as ih => exact ih (mQ_do q a)
def fdM (h h' : sHp) : Prop := h'.length = h.length ∧ ∀ q, q ≠ 60 → q ≠ 74 → (q < 61 ∨ 66 < q) → h'[q]? = h[q]?
def qF12 (h : sHp) (m : MF) (q : Option (Nat × List Act)) (r : Option Value) (h' : sHp) : Prop := match q with
  | some (k, as) => r = some (.int (Int32.ofNat k)) ∧ (∃ m', MC h' m' ∧ mQ (as.foldl mfDo m) m') ∧ fdM h h'
  | none => r = some (.int (-6)) ∧ (∃ m0 g m', MC h' m' ∧ mQ (mfBack m0 (svF m g)) m') ∧ fdM h h'
theorem s_field12 {d : Nat} {h : sHp} {m : MF} {R hd sz : Nat → Int32} {gw wd : Nat → Int32} {cl : Nat → Int64} {S n : Nat} {x : Int32} {T : Nat → Int32} {s : Sg} (hd1 : 7 ≤ d) (M : MC h m) (hR : h[61]? = some (rFc R)) (hg : h[74]? = some (.inl (0, 180, .inl gw))) (w0 : h[73]? = some (.inl (0, 42, .inl wd))) (W : WD wd) (a4 : h[67]? = some (.inl (0, 8, .inl hd))) (a6 : h[69]? = some (.inl (0, 8, .inl sz))) (a8 : h[71]? = some (.inl (1, 800, .inr (.inl cl)))) (hS : S < 8) (hx : x.toInt = S) (h1 : hd S = 1) (hz : sz S = Int32.ofNat n) (RT1 : RT cl S n T) (hs : sgJ m.1 s) : sDo d 202 [.ref 60, .int x] h (qF12 h m (itsS T n 101 s 0)) := by
  have hwt : wtS hd x.toInt.toNat 1 = 0 := by
    unfold wtS
    rw [show x.toInt.toNat = S by omega, h1]
    rfl
  have e100 : (Int8.ofInt 100).toInt32 * x = Int32.ofNat (100 * S) := Int32.toInt_inj.mp (by rw [n_mul (X := 100) (Y := S) rfl hx (by omega), ofN_toInt (by omega)])
  refine sDo_of1 (nL := 5) (L := [some (.ref 60), some (.int x), none, none, none]) (by omega) rfl rfl ?_
  refine g_aload_n (i := 0) rfl rfl ?_
  refine g_iload_n (i := 1) rfl rfl ?_
  refine g_iconst (n := 1) rfl ?_
  refine g_virt2 rfl (by decide) rfl M.1 rfl (Nat.le_of_ble_eq_true rfl) (s_wantsE (by omega) M.1 a4 (Or.inl rfl)) (fun r h9 hq9 => ?_)
  obtain ⟨rfl, hq9 | hq9⟩ := hq9
  rotate_left
  · exact absurd (show 0 ≤ x.toInt ∧ x.toInt < 8 by omega) hq9.1
  obtain ⟨-, rfl⟩ := hq9
  rw [show wtS hd x.toInt.toNat (Int32.ofInt 1).toInt = 0 from hwt]
  refine g_istore_n (i := 2) (L1 := [some (.ref 60), some (.int x), some (.int 0), none, none]) rfl (Nat.le_of_ble_eq_true rfl) rfl ?_
  refine g_iload_n (i := 2) rfl rfl ?_
  refine g_if_eq 17 rfl rfl (fun _ => ?_) (fun hc => absurd hc (by decide))
  refine g_aload_n (i := 0) rfl rfl ?_
  refine g_aload_n (i := 0) rfl rfl ?_
  refine g_getfield (v := .ref 74) rfl M.1 (by decide) rfl ?_
  refine g_iconst (n := 0) rfl ?_
  refine g_virt2 (Qc := fun r h' => r = none ∧ h' = h9.set 74 (.inl (0, 180, .inl (svF m gw)))) rfl (by decide) rfl M.1 rfl (Nat.le_of_ble_eq_true rfl) (sDo_up (d := 2) (by omega) (s_saveE (d := 0) M hg (by decide))) (fun r h8 hq9 => ?_)
  obtain ⟨rfl, rfl⟩ := hq9
  have M2 : MC (h9.set 74 (.inl (0, 180, .inl (svF m gw)))) m := by
    obtain ⟨b0, b1, b2, b3, b4, b5⟩ := M
    exact ⟨by rw [s_set_ne (by decide)]; exact b0, by rw [s_set_ne (by decide)]; exact b1, by rw [s_set_ne (by decide)]; exact b2, by rw [s_set_ne (by decide)]; exact b3, by rw [s_set_ne (by decide)]; exact b4, by rw [s_set_ne (by decide)]; exact b5⟩
  have g2 : (h9.set 74 (.inl (0, 180, .inl (svF m gw))))[74]? = some (.inl (0, 180, .inl (svF m gw))) := s_set_eq hg
  have v0 : (h9.set 74 (.inl (0, 180, .inl (svF m gw))))[73]? = some (.inl (0, 42, .inl wd)) := by rw [s_set_ne (by decide)]; exact w0
  have v6 : (h9.set 74 (.inl (0, 180, .inl (svF m gw))))[69]? = some (.inl (0, 8, .inl sz)) := by rw [s_set_ne (by decide)]; exact a6
  have v8 : (h9.set 74 (.inl (0, 180, .inl (svF m gw))))[71]? = some (.inl (1, 800, .inr (.inl cl))) := by rw [s_set_ne (by decide)]; exact a8
  have vR : (h9.set 74 (.inl (0, 180, .inl (svF m gw))))[61]? = some (rFc R) := by rw [s_set_ne (by decide)]; exact hR
  have fd1 : fdM h9 (h9.set 74 (.inl (0, 180, .inl (svF m gw)))) := ⟨List.length_set, fun q e1 e2 e3 => s_set_ne (Ne.symm e2)⟩
  generalize h9.set 74 (.inl (0, 180, .inl (svF m gw))) = h2 at M2 g2 v0 v6 v8 vR fd1 ⊢
  refine g_aload_n (i := 0) rfl rfl ?_
  refine g_bipush (n := 100) rfl ?_
  refine g_iload_n (i := 1) rfl rfl ?_
  refine g_imul rfl ?_
  rw [e100]
  have M3 := MC_0 (f := (upd m.1 21 (Int32.ofNat (100 * S)))) M2
  refine g_putfield (h1 := List.set h2 60 (mO (upd m.1 21 (Int32.ofNat (100 * S))))) rfl M2.1 (by decide) (Nat.le_of_ble_eq_true rfl) rfl rfl ?_
  refine g_aload_n (i := 0) rfl rfl ?_
  refine g_iconst (n := 0) rfl ?_
  have M4 := MC_0 (f := (upd (upd m.1 21 (Int32.ofNat (100 * S))) 22 (Int32.ofInt 0))) M3
  refine g_putfield (h1 := List.set (List.set h2 60 (mO (upd m.1 21 (Int32.ofNat (100 * S))))) 60 (mO (upd (upd m.1 21 (Int32.ofNat (100 * S))) 22 (Int32.ofInt 0)))) rfl M3.1 (by decide) (Nat.le_of_ble_eq_true rfl) rfl rfl ?_
  refine g_aload_n (i := 0) rfl rfl ?_
  refine g_aload_n (i := 0) rfl rfl ?_
  refine g_getfield (v := .ref 69) rfl M4.1 (by decide) rfl ?_
  refine g_iload_n (i := 1) rfl rfl ?_
  refine g_iaload (n := 8) (f := sz) rfl (by (repeat rw [s_set_ne (by decide)]); exact v6) (i_in (by omega) (by omega)) ?_
  rw [i_nat hx, hz]
  have M5 := MC_0 (f := (upd (upd (upd m.1 21 (Int32.ofNat (100 * S))) 22 (Int32.ofInt 0)) 23 (Int32.ofNat n))) M4
  refine g_putfield (h1 := List.set (List.set (List.set h2 60 (mO (upd m.1 21 (Int32.ofNat (100 * S))))) 60 (mO (upd (upd m.1 21 (Int32.ofNat (100 * S))) 22 (Int32.ofInt 0)))) 60 (mO (upd (upd (upd m.1 21 (Int32.ofNat (100 * S))) 22 (Int32.ofInt 0)) 23 (Int32.ofNat n)))) rfl M4.1 (by decide) (Nat.le_of_ble_eq_true rfl) rfl rfl ?_
  refine g_aload_n (i := 0) rfl rfl ?_
  refine g_iconst (n := (-1)) rfl ?_
  have M6 := MC_0 (f := (upd (upd (upd (upd m.1 21 (Int32.ofNat (100 * S))) 22 (Int32.ofInt 0)) 23 (Int32.ofNat n)) 7 ((Int32.ofInt (-1))))) M5
  refine g_putfield (h1 := List.set (List.set (List.set (List.set h2 60 (mO (upd m.1 21 (Int32.ofNat (100 * S))))) 60 (mO (upd (upd m.1 21 (Int32.ofNat (100 * S))) 22 (Int32.ofInt 0)))) 60 (mO (upd (upd (upd m.1 21 (Int32.ofNat (100 * S))) 22 (Int32.ofInt 0)) 23 (Int32.ofNat n)))) 60 (mO (upd (upd (upd (upd m.1 21 (Int32.ofNat (100 * S))) 22 (Int32.ofInt 0)) 23 (Int32.ofNat n)) 7 ((Int32.ofInt (-1)))))) rfl M5.1 (by decide) (Nat.le_of_ble_eq_true rfl) rfl rfl ?_
  refine g_iconst (n := 1) rfl ?_
  refine g_istore_n (i := 3) (L1 := [some (.ref 60), some (.int x), some (.int 0), some (.int (Int32.ofInt 1)), none]) rfl (Nat.le_of_ble_eq_true rfl) rfl ?_
  have E2 : mE h2 (List.set (List.set (List.set (List.set h2 60 (mO (upd m.1 21 (Int32.ofNat (100 * S))))) 60 (mO (upd (upd m.1 21 (Int32.ofNat (100 * S))) 22 (Int32.ofInt 0)))) 60 (mO (upd (upd (upd m.1 21 (Int32.ofNat (100 * S))) 22 (Int32.ofInt 0)) 23 (Int32.ofNat n)))) 60 (mO (upd (upd (upd (upd m.1 21 (Int32.ofNat (100 * S))) 22 (Int32.ofInt 0)) 23 (Int32.ofNat n)) 7 ((Int32.ofInt (-1)))))) := mE_set (mE_set (mE_set (mE_set mE_rfl (by decide)) (by decide)) (by decide)) (by decide)
  have hs2 : sgJ (upd (upd (upd (upd m.1 21 (Int32.ofNat (100 * S))) 22 (Int32.ofInt 0)) 23 (Int32.ofNat n)) 7 ((Int32.ofInt (-1)))) s := hs
  refine s_fld_go (d := d - 1) (h0 := h2) W RT1 (by omega) v0 v8 101 0 1 _ ((upd (upd (upd (upd m.1 21 (Int32.ofNat (100 * S))) 22 (Int32.ofInt 0)) 23 (Int32.ofNat n)) 7 ((Int32.ofInt (-1)))), m.2) ((upd (upd (upd (upd m.1 21 (Int32.ofNat (100 * S))) 22 (Int32.ofInt 0)) 23 (Int32.ofNat n)) 7 ((Int32.ofInt (-1)))), m.2) s none 56 (Or.inl rfl) (by have := RT1.2.1; omega) (by omega) (by omega) M6 ⟨fun _ _ _ _ => rfl, rfl⟩ E2 ⟨rfl, rfl, rfl⟩ hs2 (fun h5 goes K' hK' hq => ?_)
  have hmQ : mQ m ((upd (upd (upd (upd m.1 21 (Int32.ofNat (100 * S))) 22 (Int32.ofInt 0)) 23 (Int32.ofNat n)) 7 ((Int32.ofInt (-1)))), m.2) := ⟨fun j hj => (u_ne (by omega)).trans ((u_ne (by omega)).trans ((u_ne (by omega)).trans (u_ne (by omega)))), rfl⟩
  obtain ⟨m', M', E', hq⟩ := hq
  have eK := ofN_toInt (n := K') (by omega)
  cases hi : itsS T n 101 s 0 with
  | none =>
    rw [hi] at hq
    have hq : goes = 0 := hq
    subst hq
    have g5 := (E'.2 74 (by decide) (by decide)).trans g2
    have r5 : h5[61]? = some (rFc R) := (E'.2 61 (by decide) (by decide)).trans vR
    refine g_iload (i := 4) rfl rfl ?_
    refine g_if_eq 140 rfl rfl (fun _ => ?_) (fun hc => absurd hc (by decide))
    refine g_aload_n (i := 0) rfl rfl ?_
    refine g_aload_n (i := 0) rfl rfl ?_
    refine g_getfield (v := .ref 74) rfl M'.1 (by decide) rfl ?_
    refine g_iconst (n := 1) rfl ?_
    refine g_virt2 (Qc := fun r h' => r = none ∧ MC h' (mfBack m' (svF m gw)) ∧ mE h5 h') rfl (by decide) rfl M'.1 rfl (Nat.le_of_ble_eq_true rfl) (sDo_up (d := 2) (by omega) (s_backE (d := 0) M' g5 (by decide))) (fun r h4 hq9 => ?_)
    obtain ⟨rfl, q1, q2⟩ := hq9
    refine g_aload_n (i := 0) rfl rfl ?_
    refine g_aload_n (i := 0) rfl rfl ?_
    refine g_getfield (v := .int ((mfBack m' (svF m gw)).1 25)) rfl q1.1 (by decide) rfl ?_
    have q3 := MC_0 (f := (upd (mfBack m' (svF m gw)).1 7 (((mfBack m' (svF m gw)).1 25)))) q1
    refine g_putfield (h1 := h4.set 60 (mO (upd (mfBack m' (svF m gw)).1 7 (((mfBack m' (svF m gw)).1 25))))) rfl q1.1 (by decide) (Nat.le_of_ble_eq_true rfl) rfl rfl ?_
    refine g_aload_n (i := 0) rfl rfl ?_
    refine g_bipush (n := (-6)) rfl ?_
    refine g_virt1 (Qc := fun r h' => r = some (.int (-6)) ∧ h' = List.set (h4.set 60 (mO (upd (mfBack m' (svF m gw)).1 7 (((mfBack m' (svF m gw)).1 25))))) 61 (rFc (bump R 6))) rfl (by decide) rfl q3.1 rfl (Nat.le_of_ble_eq_true rfl) (s_no2 (X := 6) (R := R) (by omega) q3.1 (by rw [s_set_ne (by decide), q2.2 61 (by decide) (by decide)]; exact r5) rfl (by decide)) (fun r h3 hq9 => ?_)
    obtain ⟨rfl, rfl⟩ := hq9
    refine g_ireturn (ty := .int) rfl rfl rfl ?_
    refine ⟨rfl, ⟨m', gw, _, MC_61 q3, ⟨fun j hj => u_ne (by omega), rfl⟩⟩, ?_, fun q e1 e2 e3 => ?_⟩
    · rw [List.length_set, List.length_set]; exact q2.1.trans (E'.1.trans fd1.1)
    · rw [s_set_ne (by omega), s_set_ne (Ne.symm e1), q2.2 q e1 (by omega), E'.2 q e1 (by omega)]
      exact fd1.2 q e1 e2 e3
  | some kb =>
    obtain ⟨k, as⟩ := kb
    rw [hi] at hq
    obtain ⟨rfl, e1, ms⟩ := hq
    have hk : K' = k := by omega
    subst hk
    refine g_iload (i := 4) rfl rfl ?_
    refine g_if_eq 140 rfl rfl (fun hc => absurd hc (by decide)) (fun _ => ?_)
    refine g_iload_n (i := 3) rfl rfl ?_
    refine g_ireturn (ty := .int) rfl rfl rfl ?_
    exact ⟨rfl, ⟨m', M', mQ_tr (mQ_dos hmQ as) (mQ_S ms)⟩, E'.1.trans fd1.1, fun q e1 e2 e3 => (E'.2 q e1 (by omega)).trans (fd1.2 q e1 e2 e3)⟩
end
section
/-! ===== what is alike of two fields ===== -/
def szC (W H : Nat) : Bool := decide (lowS (Int32.ofNat W * Int32.ofNat H) = stO (fun _ => true) (W * H)) && (decide (fcS (Int32.ofNat W) H = stO (fun i => decide (i % W = 0)) (W * H)) && (decide (fcS (Int32.ofNat W) H <<< ((Int32.ofNat W - Int32.ofInt 1).toInt64 &&& 63) = stO (fun i => decide (i % W = W - 1)) (W * H)) && (decide (lowS (Int32.ofNat W) = stO (fun i => decide (i < W)) (W * H)) && decide (lowS (Int32.ofNat W) <<< ((Int32.ofNat W * (Int32.ofNat H - Int32.ofInt 1)).toInt64 &&& 63) = stO (fun i => decide (W * (H - 1) ≤ i)) (W * H)))))
theorem sz_ck : ((List.range 9).all fun W => (List.range 9).all fun H => Nat.blt W 2 || (Nat.blt H 2 || szC W H)) = true := by decide +kernel
theorem blt_n {a b : Nat} (h : b ≤ a) : Nat.blt a b = false := by
  cases z : Nat.blt a b
  · rfl
  · have := Nat.le_of_ble_eq_true z; omega
theorem gdF_size {c : CF} {W H : Nat} (w2 : 2 ≤ W) (w8 : W ≤ 8) (h2 : 2 ≤ H) (h8 : H ≤ 8) : gdF (cfSize (Int32.ofNat W) (Int32.ofNat H) c) W H := by
  have h := rg_all (rg_all sz_ck W (by omega)) H (by omega)
  rw [blt_n w2, blt_n h2, Bool.false_or, Bool.false_or] at h
  unfold szC at h
  simp only [Bool.and_eq_true, decide_eq_true_eq] at h
  obtain ⟨a1, a2, a3, a4, a5⟩ := h
  have eH : (Int32.ofNat H).toInt.toNat = H := by rw [ofN_toInt (by omega)]; rfl
  have key : ∀ G : Nat → Int64, szG (Int32.ofNat W) (Int32.ofNat H) G 2 = lowS (Int32.ofNat W * Int32.ofNat H) ∧ szG (Int32.ofNat W) (Int32.ofNat H) G 3 = fcS (Int32.ofNat W) H ∧ szG (Int32.ofNat W) (Int32.ofNat H) G 4 = fcS (Int32.ofNat W) H <<< ((Int32.ofNat W - Int32.ofInt 1).toInt64 &&& 63) ∧ szG (Int32.ofNat W) (Int32.ofNat H) G 5 = lowS (Int32.ofNat W) ∧ szG (Int32.ofNat W) (Int32.ofNat H) G 6 = lowS (Int32.ofNat W) <<< ((Int32.ofNat W * (Int32.ofNat H - Int32.ofInt 1)).toInt64 &&& 63) := by
    intro G
    unfold szG
    rw [eH]
    exact ⟨rfl, rfl, rfl, rfl, rfl⟩
  obtain ⟨b1, b2, b3, b4, b5⟩ := key c.2.1
  exact ⟨rfl, rfl, w2, w8, h2, h8, b1.trans a1, b2.trans a2, b3.trans a3, b4.trans a4, b5.trans a5⟩
/-- ints and longs alike -/
def RN (c : CF) (m : MF) : Prop := ∃ W H N : Nat, gdF c W H ∧ N ≤ 5 ∧ c.1 11 = Int32.ofNat N ∧ m.1 0 = Int32.ofNat W ∧ m.1 1 = Int32.ofNat H ∧ m.1 6 = Int32.ofNat N ∧ ∀ k, k ≤ 3 → c.1 (7 + k) = m.1 (2 + k)
/-- what a relation of fields must bear -/
def relOk (Rel : CF → MF → Prop) : Prop := (∀ c m m', Rel c m → mQ m m' → Rel c m') ∧ (∀ c m s a, Rel c m → sgI c s → sgJ m.1 s → actOk s a → Rel (cfDo c a) (mfDo m a)) ∧ (∀ a b m, Rel a m → Rel (cfBecome a b) m) ∧ (∀ c m m' g, Rel c m → Rel c (mfBack m' (svF m g))) ∧ (∀ c m, Rel c m → RN c m) ∧ (∀ (c : CF) (m : MF) (s : Sg) (k : Nat) (v : Int32), Rel c m → sgI c s → k ≤ 3 → okPl (s.1 * s.2.1) (k : Int) v.toInt → Rel (upd c.1 (7 + k) v, c.2) (upd m.1 (2 + k) v, m.2))
theorem RN_sg {c : CF} {m : MF} (r : RN c m) : ∃ s : Sg, sgI c s ∧ sgJ m.1 s ∧ gdF c s.1 s.2.1 ∧ gdM m.1 s.1 s.2.1 := by
  obtain ⟨W, H, N, g, hN, c11, m0, m1, m6, -⟩ := r
  have g' := g
  obtain ⟨g0, g1, w2, w8, h2, h8, -⟩ := g'
  exact ⟨(W, H, N), ⟨g0, g1, c11, w2, w8, h2, h8, hN⟩, ⟨m0, m1, m6, w2, w8, h2, h8, hN⟩, g, ⟨m0, m1, w2, w8, h2, h8⟩⟩
theorem sg_do {c : CF} {m : MF} {s : Sg} {a : Act} (q : sgI c s) (p : sgJ m.1 s) (k : actOk s a) : sgI (cfDo c a) (sgDo s a) ∧ sgJ (mfDo m a).1 (sgDo s a) := by
  obtain ⟨q1, q2, q3, q4, q5, q6, q7, q8⟩ := q
  obtain ⟨p1, p2, p3, -⟩ := p
  obtain ⟨i, x, y, z⟩ := a
  match i, k with
  | 0, k => exact ⟨⟨rfl, rfl, q3, k.1, k.2.1, k.2.2.1, k.2.2.2, q8⟩, ⟨rfl, rfl, p3, k.1, k.2.1, k.2.2.1, k.2.2.2, q8⟩⟩
  | 1, k => exact ⟨⟨q1, q2, q3, q4, q5, q6, q7, q8⟩, ⟨p1, p2, p3, q4, q5, q6, q7, q8⟩⟩
  | 2, k =>
    have k1 : x < 4 := k.1
    exact ⟨⟨(u_ne (show (0 : Nat) ≠ 7 + x by omega)).trans q1, (u_ne (show (1 : Nat) ≠ 7 + x by omega)).trans q2, (u_ne (show (11 : Nat) ≠ 7 + x by omega)).trans q3, q4, q5, q6, q7, q8⟩, ⟨(u_ne (show (0 : Nat) ≠ 2 + x by omega)).trans p1, (u_ne (show (1 : Nat) ≠ 2 + x by omega)).trans p2, (u_ne (show (6 : Nat) ≠ 2 + x by omega)).trans p3, q4, q5, q6, q7, q8⟩⟩
  | 3, k =>
    have eN := ofN_toInt (n := s.2.2) (by omega)
    have e1 : (c.1 11).toNatClampNeg = s.2.2 := by rw [q3]; exact i_nat eN
    have e2 : (m.1 6).toNatClampNeg = s.2.2 := by rw [p3]; exact i_nat eN
    have k3 : s.2.2 < 5 := k.2.2
    refine ⟨?_, ?_⟩
    · show sgI (cfHeir (c.1 11).toNatClampNeg (Int32.ofNat x) c) (s.1, s.2.1, s.2.2 + 1)
      rw [e1]
      exact ⟨q1, q2, rfl, q4, q5, q6, q7, k3⟩
    · show sgJ (mfHeir (m.1 6).toNatClampNeg (Int32.ofNat x) m).1 (s.1, s.2.1, s.2.2 + 1)
      rw [e2]
      exact ⟨p1, p2, rfl, q4, q5, q6, q7, k3⟩
  | i + 4, k => exact ⟨⟨q1, q2, q3, q4, q5, q6, q7, q8⟩, ⟨p1, p2, p3, q4, q5, q6, q7, q8⟩⟩
theorem rel_dos {Rel : CF → MF → Prop} (ok : relOk Rel) : ∀ {as : List Act} {c : CF} {m : MF} {s : Sg}, Rel c m → sgI c s → sgJ m.1 s → actsOk s as → Rel (as.foldl cfDo c) (as.foldl mfDo m) := by
  intro as
  induction as with
  | nil => intro c m s r _ _ _; exact r
  | cons a as ih =>
    intro c m s r q p k
    have z := sg_do q p k.1
    exact ih (ok.2.1 c m s a r q p k.1) z.1 z.2 k.2
theorem gdF_I {c c' : CF} {W H : Nat} (g : gdF c W H) (e0 : c'.1 0 = c.1 0) (e1 : c'.1 1 = c.1 1) (e2 : ∀ j, 2 ≤ j → j ≤ 6 → c'.2.1 j = c.2.1 j) : gdF c' W H := by
  obtain ⟨g0, g1, w2, w8, h2, h8, a, b, c, d, e⟩ := g
  exact ⟨e0.trans g0, e1.trans g1, w2, w8, h2, h8, (e2 2 (by decide) (by decide)).trans a, (e2 3 (by decide) (by decide)).trans b, (e2 4 (by decide) (by decide)).trans c, (e2 5 (by decide) (by decide)).trans d, (e2 6 (by decide) (by decide)).trans e⟩
theorem bk_at (J g : Nat → Int32) : ∀ j, j < 7 → bkJ J g j = g (168 + j) := fun j hj => by
  match j, hj with
  | 0, _ => rfl
  | 1, _ => rfl
  | 2, _ => rfl
  | 3, _ => rfl
  | 4, _ => rfl
  | 5, _ => rfl
  | 6, _ => rfl
  | j + 7, hj => exact absurd hj (by omega)
theorem RN_J {c : CF} {m m' : MF} (r : RN c m) (e : ∀ j, j < 7 → m'.1 j = m.1 j) : RN c m' := by
  obtain ⟨W, H, N, g, hN, c11, m0, m1, m6, mk⟩ := r
  exact ⟨W, H, N, g, hN, c11, (e 0 (by decide)).trans m0, (e 1 (by decide)).trans m1, (e 6 (by decide)).trans m6, fun k hk => (mk k hk).trans (e (2 + k) (by omega)).symm⟩
theorem RN_C {c c' : CF} {m : MF} (r : RN c m) (e : ∀ j, j < 2 ∨ (7 ≤ j ∧ j ≤ 11) → c'.1 j = c.1 j) (e2 : ∀ j, 2 ≤ j → j ≤ 6 → c'.2.1 j = c.2.1 j) : RN c' m := by
  obtain ⟨W, H, N, g, hN, c11, m0, m1, m6, mk⟩ := r
  exact ⟨W, H, N, gdF_I g (e 0 (by decide)) (e 1 (by decide)) e2, hN, (e 11 (by decide)).trans c11, m0, m1, m6, fun k hk => (e (7 + k) (by omega)).trans (mk k hk)⟩
theorem bc_I (a b : Nat → Int32) : ∀ j, j < 2 ∨ (7 ≤ j ∧ j ≤ 11) → bcI a b j = a j := fun j hj => by
  rcases (show j = 0 ∨ j = 1 ∨ j = 7 ∨ j = 8 ∨ j = 9 ∨ j = 10 ∨ j = 11 by omega) with rfl | rfl | rfl | rfl | rfl | rfl | rfl <;> rfl
theorem bc_G (a b : Nat → Int64) : ∀ j, 2 ≤ j → j ≤ 6 → bcG a b j = a j := fun j h1 h2 => by
  rcases (show j = 2 ∨ j = 3 ∨ j = 4 ∨ j = 5 ∨ j = 6 by omega) with rfl | rfl | rfl | rfl | rfl <;> rfl
theorem RN_ok : relOk RN := by
  refine ⟨fun c m m' r q => RN_J r q.1, fun c m s a r q p k => ?_, fun a b m r => RN_C r (bc_I a.1 b.1) (bc_G a.2.1 b.2.1), fun c m m' g r => RN_J r (fun j hj => bk_sv j hj), fun c m r => r, fun c m s k v r q hk hv => ?_⟩
  · obtain ⟨W, H, N, g, hN, c11, m0, m1, m6, mk⟩ := r
    obtain ⟨i, x, y, z⟩ := a
    match i, k with
    | 0, k => exact ⟨x, y, N, gdF_size k.1 k.2.1 k.2.2.1 k.2.2.2, hN, c11, rfl, rfl, m6, fun j hj => by
        rcases (show j = 0 ∨ j = 1 ∨ j = 2 ∨ j = 3 by omega) with rfl | rfl | rfl | rfl
        · exact mk 0 (by decide)
        · rfl
        · rfl
        · exact mk 3 (by decide)⟩
    | 1, k => exact ⟨W, H, N, g, hN, c11, m0, m1, m6, mk⟩
    | 2, k =>
      have k1 : x < 4 := k.1
      refine ⟨W, H, N, gdF_I g (u_ne (by omega)) (u_ne (by omega)) (fun _ _ _ => rfl), hN, (u_ne (show (11 : Nat) ≠ 7 + x by omega)).trans c11, (u_ne (show (0 : Nat) ≠ 2 + x by omega)).trans m0, (u_ne (show (1 : Nat) ≠ 2 + x by omega)).trans m1, (u_ne (show (6 : Nat) ≠ 2 + x by omega)).trans m6, fun j hj => ?_⟩
      show upd c.1 (7 + x) (Int32.ofNat y) (7 + j) = upd m.1 (2 + x) (Int32.ofNat y) (2 + j)
      by_cases e : j = x
      · rw [e, u_at, u_at]
      · rw [u_ne (by omega), u_ne (by omega)]; exact mk j hj
    | 3, k =>
      have eN := ofN_toInt (n := N) (by omega)
      have e1 : (c.1 11).toNatClampNeg = N := by rw [c11]; exact i_nat eN
      have e2 : (m.1 6).toNatClampNeg = N := by rw [m6]; exact i_nat eN
      have k3 : s.2.2 < 5 := k.2.2
      have e3 : N = s.2.2 := by
        have := q.2.2.1
        rw [c11] at this
        have h2 := congrArg Int32.toInt this
        rw [ofN_toInt (by omega), ofN_toInt (by omega)] at h2
        omega
      show RN (cfHeir (c.1 11).toNatClampNeg (Int32.ofNat x) c) (mfHeir (m.1 6).toNatClampNeg (Int32.ofNat x) m)
      rw [e1, e2]
      refine ⟨W, H, N + 1, gdF_I g rfl rfl (fun _ _ _ => rfl), by omega, rfl, m0, m1, rfl, fun j hj => ?_⟩
      show upd c.1 11 (Int32.ofNat (N + 1)) (7 + j) = upd m.1 6 (Int32.ofNat (N + 1)) (2 + j)
      rw [u_ne (by omega), u_ne (by omega)]
      exact mk j hj
    | i + 4, k => exact ⟨W, H, N, g, hN, c11, m0, m1, m6, mk⟩
  · obtain ⟨W, H, N, g, hN, c11, m0, m1, m6, mk⟩ := r
    refine ⟨W, H, N, gdF_I g (u_ne (by omega)) (u_ne (by omega)) (fun _ _ _ => rfl), hN, (u_ne (show (11 : Nat) ≠ 7 + k by omega)).trans c11, (u_ne (show (0 : Nat) ≠ 2 + k by omega)).trans m0, (u_ne (show (1 : Nat) ≠ 2 + k by omega)).trans m1, (u_ne (show (6 : Nat) ≠ 2 + k by omega)).trans m6, fun j hj => ?_⟩
    show upd c.1 (7 + k) v (7 + j) = upd m.1 (2 + k) v (2 + j)
    by_cases e : j = k
    · rw [e, u_at, u_at]
    · rw [u_ne (by omega), u_ne (by omega)]; exact mk j hj
/-- FOND is 0 or 1 -/
def fb01 (c : CF) : Prop := ∀ k, k < 5 → c.2.2.2.2.2.1 k = 0 ∨ c.2.2.2.2.2.1 k = 1
theorem fb_do {c : CF} (h : fb01 c) (a : Act) : fb01 (cfDo c a) := by
  obtain ⟨i, x, y, z⟩ := a
  match i with
  | 0 => exact h
  | 1 => exact h
  | 2 => exact h
  | 3 =>
    intro k hk
    show upd c.2.2.2.2.2.1 (c.1 11).toNatClampNeg 0 k = 0 ∨ upd c.2.2.2.2.2.1 (c.1 11).toNatClampNeg 0 k = 1
    by_cases e : k = (c.1 11).toNatClampNeg
    · rw [e, u_at]; exact Or.inl rfl
    · rw [u_ne e]; exact h k hk
  | i + 4 => exact h
theorem fb_dos {c : CF} (h : fb01 c) : ∀ as : List Act, fb01 (as.foldl cfDo c) := by
  intro as
  induction as generalizing c with
  | nil => exact h
  | cons a as ih => exact ih (fb_do h a)
theorem fb_bc {a b : CF} (h : fb01 a) : fb01 (cfBecome a b) := fun k hk => by
  show cpI a.2.2.2.2.2.1 b.2.2.2.2.2.1 5 k = 0 ∨ cpI a.2.2.2.2.2.1 b.2.2.2.2.2.1 5 k = 1
  have e : cpI a.2.2.2.2.2.1 b.2.2.2.2.2.1 5 k = a.2.2.2.2.2.1 k := if_pos hk
  rw [e]; exact h k hk
end
section
/-! ===== the fields' ints, alike ===== -/
def nkC (h : sHp) (I : Nat → Int32) (G : Nat → Int64) (Ik : Nat → Int32) (Gk : Nat → Int64) (ik tf : Int32) : Prop := h[5]? = some (fO 5 I G) ∧ h[16]? = some (fO 16 Ik Gk) ∧ h[0]? = some (cO ik tf) ∧ fxR h 5 ∧ fxR h 16 ∧ fxR h 27
def nkM (h : sHp) (J g : Nat → Int32) : Prop := (∃ J', h[60]? = some (mO J') ∧ (∀ j, j < 7 → J' j = J j) ∧ J' 37 = J 37) ∧ h[75]? = some (.inl (0, 180, .inl g))
def RNi (I : Nat → Int32) (G : Nat → Int64) (J : Nat → Int32) : Prop := RN (I, G, (fun _ => 0), (fun _ => 0), (fun _ _ => 0), (fun _ => 0), (fun _ => 0)) (J, (fun _ => 0), (fun _ => 0), (fun _ => 0), (fun _ => 0), (fun _ => 0))
def bNK (h : sHp) : Prop := ∃ (I : Nat → Int32) (G : Nat → Int64) (Ik : Nat → Int32) (Gk : Nat → Int64) (ik tf : Int32) (J g : Nat → Int32), nkC h I G Ik Gk ik tf ∧ nkM h J g ∧ J 37 = ik ∧ RNi I G J ∧ (¬ ik = 0 → RNi Ik Gk (fun j => g (168 + j)))
def NKc : List Nat := (List.range 11).map (fun j => 0 * 64 + j) ++ ((List.range 17).map (fun j => 5 * 64 + j) ++ ((List.range 17).map (fun j => 16 * 64 + j) ++ [8 * 64, 19 * 64, 30 * 64]))
def NKm : List Nat := [3840, 3841, 3842, 3843, 3844, 3845, 3846, 3877, 4800]
theorem fxR_fr {W gg p : Nat} {h h' : sHp} (a : bFr W gg h h') (hp : p = 5 ∨ p = 16 ∨ p = 27) (hW : W.testBit ((p + 3) * 64) = false) (q : fxR h p) : fxR h' p := by
  obtain ⟨f, q1, q2⟩ := q
  rcases hp with rfl | rfl | rfl
  · exact ⟨f, bFr_arr a q1 (by decide) rfl hW, q2⟩
  · exact ⟨f, bFr_arr a q1 (by decide) rfl hW, q2⟩
  · exact ⟨f, bFr_arr a q1 (by decide) rfl hW, q2⟩
theorem nkC_fr {W gg : Nat} {h h' : sHp} {I : Nat → Int32} {G : Nat → Int64} {Ik : Nat → Int32} {Gk : Nat → Int64} {ik tf : Int32} (a : bFr W gg h h') (hW : ∀ b ∈ NKc, W.testBit b = false) (q : nkC h I G Ik Gk ik tf) : nkC h' I G Ik Gk ik tf := by
  obtain ⟨q1, q2, q3, q4, q5, q6⟩ := q
  refine ⟨bFr_obj (K := 5) (n := 17) a q1 rfl rfl (fun j hj => hW _ ?_), bFr_obj (K := 16) (n := 17) a q2 rfl rfl (fun j hj => hW _ ?_), bFr_obj (K := 0) (n := 11) a q3 rfl rfl (fun j hj => hW _ ?_), fxR_fr a (by decide) (hW _ (by decide)) q4, fxR_fr a (by decide) (hW _ (by decide)) q5, fxR_fr a (by decide) (hW _ (by decide)) q6⟩
  · exact List.mem_append_right _ (List.mem_append_left _ (List.mem_map.mpr ⟨j, List.mem_range.mpr hj, rfl⟩))
  · exact List.mem_append_right _ (List.mem_append_right _ (List.mem_append_left _ (List.mem_map.mpr ⟨j, List.mem_range.mpr hj, rfl⟩)))
  · exact List.mem_append_left _ (List.mem_map.mpr ⟨j, List.mem_range.mpr hj, rfl⟩)
theorem nkM_fr {W gg : Nat} {h h' : sHp} {J g : Nat → Int32} (hH' : bH h') (a : bFr W gg h h') (hW : ∀ b ∈ NKm, W.testBit b = false) (q : nkM h J g) : nkM h' J g := by
  obtain ⟨⟨J', q1, q2, q3⟩, q4⟩ := q
  obtain ⟨⟨J'', R⟩, M⟩ := MC_of hH'
  refine ⟨⟨J'', M.1, ?_⟩, bFr_arr a q4 (by decide) rfl (hW _ (by decide))⟩
  obtain ⟨c', h1, h2⟩ := a.2.2 60 _ q1
  have h3 := M.1
  rw [h1] at h3
  cases h3
  obtain ⟨-, -, e3, -⟩ := h2
  have k : ∀ j, (3840 + j) ∈ NKm → [Value.int (J'' 0), .int (J'' 1), .int (J'' 2), .int (J'' 3), .int (J'' 4), .int (J'' 5), .int (J'' 6), .int (J'' 7), .ref 61, .ref 62, .ref 63, .ref 64, .ref 65, .ref 66, .ref 67, .ref 68, .ref 69, .ref 70, .ref 71, .ref 72, .ref 73, .int (J'' 21), .int (J'' 22), .int (J'' 23), .int (J'' 24), .int (J'' 25), .ref 74, .ref 75, .int (J'' 28), .ref 76, .ref 77, .int (J'' 31), .int (J'' 32), .int (J'' 33), .int (J'' 34), .ref 78, .int (J'' 36), .int (J'' 37)][j]? = [Value.int (J' 0), .int (J' 1), .int (J' 2), .int (J' 3), .int (J' 4), .int (J' 5), .int (J' 6), .int (J' 7), .ref 61, .ref 62, .ref 63, .ref 64, .ref 65, .ref 66, .ref 67, .ref 68, .ref 69, .ref 70, .ref 71, .ref 72, .ref 73, .int (J' 21), .int (J' 22), .int (J' 23), .int (J' 24), .int (J' 25), .ref 74, .ref 75, .int (J' 28), .ref 76, .ref 77, .int (J' 31), .int (J' 32), .int (J' 33), .int (J' 34), .ref 78, .int (J' 36), .int (J' 37)][j]? := fun j hj => e3 j (hW _ hj)
  have inj : ∀ {x y : Int32}, (some (Value.int x) : Option Value) = some (Value.int y) → x = y := fun h => by cases h; rfl
  have ej : ∀ j, j < 7 → J'' j = J' j := fun j hj => by
    match j, hj with
    | 0, _ => exact inj (k 0 (by decide))
    | 1, _ => exact inj (k 1 (by decide))
    | 2, _ => exact inj (k 2 (by decide))
    | 3, _ => exact inj (k 3 (by decide))
    | 4, _ => exact inj (k 4 (by decide))
    | 5, _ => exact inj (k 5 (by decide))
    | 6, _ => exact inj (k 6 (by decide))
    | j + 7, hj => exact absurd hj (by omega)
  exact ⟨fun j hj => (ej j hj).trans (q2 j hj), (inj (k 37 (by decide))).trans q3⟩
theorem bNK_fr {W gg : Nat} {h h' : sHp} (hH' : bH h') (a : bFr W gg h h') (hc : ∀ b ∈ NKc, W.testBit b = false) (hm : ∀ b ∈ NKm, W.testBit b = false) (q : bNK h) : bNK h' := by
  obtain ⟨I, G, Ik, Gk, ik, tf, J, g, q1, q2, q3⟩ := q
  exact ⟨I, G, Ik, Gk, ik, tf, J, g, nkC_fr a hc q1, nkM_fr hH' a hm q2, q3⟩
/-- pairs that keep a relation -/
def pairR (R : sHp → Prop) (k1 k2 : Nat) (as : List Value) : Prop := ∀ h, bH h → R h → sDo 10 k1 (.ref 0 :: as) h (fun r1 h1 => bH h1 ∧ h1.length ≤ h.length + 1 ∧ sDo 10 k2 (.ref 60 :: as) h1 (fun r2 h2 => bH h2 ∧ h2.length ≤ h1.length + 1 ∧ R h2 ∧ ∃ x, r1 = some x ∧ r2 = some x))
theorem en_use {c : bCn} {vs : List Value} (hc : bHolds c) (hd : Nat.ble c.2.1 10 = true) (hg : Nat.ble c.2.2.2.2.2.1 1 = true) (ho : c.2.2.2.1 = []) {h : sHp} (hH : bH h) (ht : bTl h c.2.2.1 vs) : sDo 10 c.1 vs h (fun _ h' => bH h' ∧ h'.length ≤ h.length + 1 ∧ bFr c.2.2.2.2.1 c.2.2.2.2.2.1 h h') := by
  refine sDo_up (Nat.le_of_ble_eq_true hd) (sDo_mono (hc h vs hH ht (by rw [ho]; exact fun e he => by cases he)) (fun r h' hen => ⟨hen.1, ?_, hen.2.1⟩))
  have := hen.2.1.2.1
  have := Nat.le_of_ble_eq_true hg
  omega
theorem pr_mk {R : sHp → Prop} {c1 c2 : bCn} {as : List Value} (h1 : bHolds c1) (h2 : bHolds c2) (d1 : Nat.ble c1.2.1 10 = true) (d2 : Nat.ble c2.2.1 10 = true) (g1 : Nat.ble c1.2.2.2.2.2.1 1 = true) (g2 : Nat.ble c2.2.2.2.2.2.1 1 = true) (o1 : c1.2.2.2.1 = []) (o2 : c2.2.2.2.1 = []) (t1 : ∀ h, bH h → bTl h c1.2.2.1 (.ref 0 :: as)) (t2 : ∀ h, bH h → bTl h c2.2.2.1 (.ref 60 :: as)) (e : ∀ h, bH h → R h → sDo 10 c1.1 (.ref 0 :: as) h (fun r1 h1 => bH h1 → bFr c1.2.2.2.2.1 c1.2.2.2.2.2.1 h h1 → sDo 10 c2.1 (.ref 60 :: as) h1 (fun r2 h2 => bH h2 → bFr c2.2.2.2.2.1 c2.2.2.2.2.2.1 h1 h2 → R h2 ∧ ∃ x, r1 = some x ∧ r2 = some x))) : pairR R c1.1 c2.1 as := by
  intro h hH hR
  refine sDo_mono (sDo_and (e h hH hR) (en_use h1 d1 g1 o1 hH (t1 h hH))) (fun r1 h1' q => ⟨q.2.1, q.2.2.1, ?_⟩)
  exact sDo_mono (sDo_and (q.1 q.2.1 q.2.2.2) (en_use h2 d2 g2 o2 q.2.1 (t2 h1' q.2.1))) (fun r2 h2' z => ⟨z.2.1, z.2.2.1, z.1 z.2.1 z.2.2.2⟩)
theorem fr_useX {c : bCn} {vs : List Value} (hc : bHolds c) (hd : Nat.ble c.2.1 10 = true) (ho : c.2.2.2.1 = []) {h : sHp} (hH : bH h) (ht : bTl h c.2.2.1 vs) : sDo 10 c.1 vs h (fun _ h' => bFr c.2.2.2.2.1 c.2.2.2.2.2.1 h h') :=
  sDo_up (Nat.le_of_ble_eq_true hd) (sDo_mono (hc h vs hH ht (by rw [ho]; exact fun e he => by cases he)) (fun r h' hen => hen.2.1))
/-- one relation more, that both calls leave alone -/
theorem pr_and {R P : sHp → Prop} {c1 c2 : bCn} {as : List Value} (hp : pairR R c1.1 c2.1 as) (f1 : ∀ {g : Nat} {h h' : sHp}, bH h' → bFr c1.2.2.2.2.1 g h h' → P h → P h') (f2 : ∀ {g : Nat} {h h' : sHp}, bH h' → bFr c2.2.2.2.2.1 g h h' → P h → P h') (h1 : bHolds c1) (h2 : bHolds c2) (d1 : Nat.ble c1.2.1 10 = true) (d2 : Nat.ble c2.2.1 10 = true) (o1 : c1.2.2.2.1 = []) (o2 : c2.2.2.2.1 = []) (t1 : ∀ h, bH h → bTl h c1.2.2.1 (.ref 0 :: as)) (t2 : ∀ h, bH h → bTl h c2.2.2.1 (.ref 60 :: as)) : pairR (fun h => R h ∧ P h) c1.1 c2.1 as := by
  intro h hH hR
  refine sDo_mono (sDo_and (hp h hH hR.1) (fr_useX h1 d1 o1 hH (t1 h hH))) (fun r1 h1' q => ⟨q.1.1, q.1.2.1, ?_⟩)
  exact sDo_mono (sDo_and q.1.2.2 (fr_useX h2 d2 o2 q.1.1 (t2 h1' q.1.1))) (fun r2 h2' z => ⟨z.1.1, z.1.2.1, ⟨z.1.2.2.1, f2 z.1.1 z.2 (f1 q.1.1 q.2 hR.2)⟩, z.1.2.2.2⟩)
theorem nkC_43 {h : sHp} {I : Nat → Int32} {G : Nat → Int64} {Ik : Nat → Int32} {Gk : Nat → Int64} {ik tf : Int32} {c : va_E} (q : nkC h I G Ik Gk ik tf) : nkC (h.set 43 c) I G Ik Gk ik tf := by
  obtain ⟨q1, q2, q3, ⟨f5, a5, b5⟩, ⟨f6, a6, b6⟩, ⟨f7, a7, b7⟩⟩ := q
  exact ⟨by rw [s_set_ne (by decide)]; exact q1, by rw [s_set_ne (by decide)]; exact q2, by rw [s_set_ne (by decide)]; exact q3, ⟨f5, by rw [s_set_ne (by decide)]; exact a5, b5⟩, ⟨f6, by rw [s_set_ne (by decide)]; exact a6, b6⟩, ⟨f7, by rw [s_set_ne (by decide)]; exact a7, b7⟩⟩
/-- the class's part once now has become another -/
theorem nkC_5 {h h' : sHp} {I : Nat → Int32} {G : Nat → Int64} {Ik : Nat → Int32} {Gk : Nat → Int64} {ik tf : Int32} {c : CF} (q : nkC h I G Ik Gk ik tf) (F : FC h' 5 c) (E : fE 5 h h') : nkC h' c.1 c.2.1 Ik Gk ik tf := by
  obtain ⟨q1, q2, q3, q4, ⟨f6, a6, b6⟩, ⟨f7, a7, b7⟩⟩ := q
  exact ⟨F.1, (E.2 _ (by decide)).trans q2, (E.2 _ (by decide)).trans q3, F.2.2.2.1, ⟨f6, (E.2 _ (by decide)).trans a6, b6⟩, ⟨f7, (E.2 _ (by decide)).trans a7, b7⟩⟩
theorem nk_61 {h : sHp} {J g J0 : Nat → Int32} {c : va_E} (h60 : h[60]? = some (mO J)) (h75 : h[75]? = some (.inl (0, 180, .inl g))) (e : ∀ j, j < 7 → J j = J0 j) (e37 : J 37 = J0 37) : nkM (h.set 61 c) J0 g := ⟨⟨J, by rw [s_set_ne (by decide)]; exact h60, e, e37⟩, by rw [s_set_ne (by decide)]; exact h75⟩
theorem M75 {W gg : Nat} {h h' : sHp} {g : Nat → Int32} (a : bFr W gg h h') (q : h[75]? = some (.inl (0, 180, .inl g))) (hW : W.testBit 4800 = false) : h'[75]? = some (.inl (0, 180, .inl g)) := bFr_arr a q (by decide) rfl hW
theorem pn_size (x : Int32) (y : Int32) : pairR bNK 124 204 [.int x, .int y] := pr_mk (c1 := cn_X11_size_0) (c2 := cn_X12_size_0) ch_X11_size_0 ch_X12_size_0 (by decide +kernel) (by decide +kernel) (by decide +kernel) (by decide +kernel) rfl rfl (fun h hH => ⟨bt0 hH, vI0 x, vI0 y, trivial⟩) (fun h hH => ⟨bt60 hH, vI0 x, vI0 y, trivial⟩) (fun h hH hR => by
  obtain ⟨I, G, Ik, Gk, ik, tf, J, g, ⟨q5, q16, q0, x5, x16, x27⟩, qm, ej, rn, rk⟩ := hR
  obtain ⟨⟨so, sh, wo, fo, ow⟩, F, fb⟩ := FC_ext5 hH q5 x5
  obtain ⟨Rc, hRc⟩ := RA_of hH (p := 43) (Or.inl rfl)
  obtain ⟨s, sI, sJ, gF, gM⟩ := RN_sg rn
  refine sDo_mono (s_size11 (d := 10) (by omega) q0 hRc F) (fun r1 h1 q hH1 fr1 => ?_)
  obtain ⟨⟨J', M60, eJ, e37⟩, g75⟩ := nkM_fr hH1 fr1 (by decide +kernel) qm
  obtain ⟨⟨so', ow', sh', fo', va'⟩, M⟩ := MC_ext hH1 M60
  obtain ⟨Rm, hRm⟩ := RA_of hH1 (p := 61) (Or.inr rfl)
  have qC : nkC h I G Ik Gk ik tf := ⟨q5, q16, q0, x5, x16, x27⟩
  have sJ' : sgJ J' s := by obtain ⟨a, b, c, d⟩ := sJ; exact ⟨(eJ 0 (by decide)).trans a, (eJ 1 (by decide)).trans b, (eJ 6 (by decide)).trans c, d⟩
  have rnJ : RN (I, G, so, sh, wo, fo, ow) (J', so', ow', sh', fo', va') := RN_J (m := (J, so', ow', sh', fo', va')) rn eJ
  refine sDo_mono (s_size12 (x := x) (y := y) hH1 M) (fun r2 h2 p hH2 fr2 => ?_)
  have okE : okSz x y ↔ (2 ≤ x.toInt ∧ x.toInt ≤ 8 ∧ 2 ≤ y.toInt ∧ y.toInt ≤ 8) := Iff.rfl
  rcases q with ⟨k, rfl, F1, E1⟩ | ⟨k, rfl, rfl⟩
  · rcases p with ⟨-, rfl, M2⟩ | ⟨k2, -⟩
    · have nc := nkC_fr fr2 (by decide +kernel) (nkC_5 qC F1 E1)
      rw [okE] at k
      obtain ⟨X, hX⟩ : ∃ X : Nat, x.toInt = X := ⟨x.toInt.toNat, by omega⟩
      obtain ⟨Y, hY⟩ : ∃ Y : Nat, y.toInt = Y := ⟨y.toInt.toNat, by omega⟩
      have ex : x = Int32.ofNat X := Int32.toInt_inj.mp (by rw [hX, ofN_toInt (by omega)])
      have ey : y = Int32.ofNat Y := Int32.toInt_inj.mp (by rw [hY, ofN_toInt (by omega)])
      rw [ex, ey] at nc M2
      have h75 := (M75 fr2 g75 (by decide +kernel))
      have rn2 := RN_ok.2.1 _ _ s (0, X, Y, 0) rnJ sI sJ' ⟨by omega, by omega, by omega, by omega⟩
      exact ⟨⟨_, _, Ik, Gk, ik, tf, _, g, nc, ⟨⟨_, M2.1, fun _ _ => rfl, rfl⟩, h75⟩, e37.trans ej, rn2, rk⟩, _, rfl, rfl⟩
    · exact absurd k k2
  · rcases p with ⟨k2, -⟩ | ⟨-, rfl, M2⟩
    · exact absurd k2 k
    · have nc := nkC_fr fr2 (by decide +kernel) (nkC_43 (c := rFc (bump Rc 6)) qC)
      have h75 := (M75 fr2 g75 (by decide +kernel))
      exact ⟨⟨I, G, Ik, Gk, ik, tf, J, g, nc, ⟨⟨J', M2.1, eJ, e37⟩, h75⟩, ej, rn, rk⟩, _, rfl, rfl⟩)
theorem pn_place (x : Int32) (v : Int32) : pairR bNK 126 206 [.int x, .int v] := pr_mk (c1 := cn_X11_place_0) (c2 := cn_X12_place_0) ch_X11_place_0 ch_X12_place_0 (by decide +kernel) (by decide +kernel) (by decide +kernel) (by decide +kernel) rfl rfl (fun h hH => ⟨bt0 hH, vI0 x, vI0 v, trivial⟩) (fun h hH => ⟨bt60 hH, vI0 x, vI0 v, trivial⟩) (fun h hH hR => by
  obtain ⟨I, G, Ik, Gk, ik, tf, J, g, ⟨q5, q16, q0, x5, x16, x27⟩, qm, ej, rn, rk⟩ := hR
  obtain ⟨⟨so, sh, wo, fo, ow⟩, F, fb⟩ := FC_ext5 hH q5 x5
  obtain ⟨Rc, hRc⟩ := RA_of hH (p := 43) (Or.inl rfl)
  obtain ⟨s, sI, sJ, gF, gM⟩ := RN_sg rn
  have qC : nkC h I G Ik Gk ik tf := ⟨q5, q16, q0, x5, x16, x27⟩
  refine sDo_mono (s_place11 (d := 10) (x := x) (v := v) (by omega) q0 hRc F gF) (fun r1 h1 q hH1 fr1 => ?_)
  obtain ⟨⟨J', M60, eJ, e37⟩, g75⟩ := nkM_fr hH1 fr1 (by decide +kernel) qm
  obtain ⟨⟨so', ow', sh', fo', va'⟩, M⟩ := MC_ext hH1 M60
  obtain ⟨Rm, hRm⟩ := RA_of hH1 (p := 61) (Or.inr rfl)
  have sJ' : sgJ J' s := by obtain ⟨a, b, c, d⟩ := sJ; exact ⟨(eJ 0 (by decide)).trans a, (eJ 1 (by decide)).trans b, (eJ 6 (by decide)).trans c, d⟩
  have rnJ : RN (I, G, so, sh, wo, fo, ow) (J', so', ow', sh', fo', va') := RN_J (m := (J, so', ow', sh', fo', va')) rn eJ
  have gM' : gdM J' s.1 s.2.1 := ⟨sJ'.1, sJ'.2.1, sJ'.2.2.2.1, sJ'.2.2.2.2.1, sJ'.2.2.2.2.2.1, sJ'.2.2.2.2.2.2.1⟩
  refine sDo_mono (s_place12 (d := 10) (x := x) (v := v) (by omega) M hRm gM') (fun r2 h2 p hH2 fr2 => ?_)
  rcases q with ⟨K, hK, hx, k, rfl, rfl⟩ | ⟨k, rfl, rfl⟩
  · rcases p with ⟨K2, hK2, hx2, -, rfl, rfl⟩ | ⟨k2, -⟩
    · have eK : K2 = K := by omega
      subst eK
      have F1 := FC_0 (I := upd I (7 + K2) v) (G := G) F
      have nc := nkC_fr fr2 (by decide +kernel) (nkC_5 qC F1 (fE_set fE_rfl (by omega) (by omega)))
      have h75 := M75 fr2 g75 (by decide +kernel)
      rw [hx2] at k
      have rn2 := RN_ok.2.2.2.2.2 _ _ s K2 v rnJ sI hK k
      obtain ⟨W', H', N', -, -, -, -, -, -, mk⟩ := rnJ
      have ev : I (7 + K2) = J' (2 + K2) := mk K2 hK
      refine ⟨⟨_, _, Ik, Gk, ik, tf, upd J' (2 + K2) v, g, nc, ⟨⟨_, s_set_eq M60, fun _ _ => rfl, rfl⟩, h75⟩, (u_ne (by omega)).trans (e37.trans ej), rn2, rk⟩, _, rfl, ?_⟩
      exact congrArg (fun z => some (Value.int z)) ev.symm
    · exact absurd k k2
  · rcases p with ⟨-, -, -, k2, -⟩ | ⟨-, rfl, rfl⟩
    · exact absurd k2 k
    · have nc := nkC_fr fr2 (by decide +kernel) (nkC_43 (c := rFc (bump Rc 6)) qC)
      have h75 := M75 fr2 g75 (by decide +kernel)
      exact ⟨⟨I, G, Ik, Gk, ik, tf, J, g, nc, ⟨⟨J', by rw [s_set_ne (by decide)]; exact M60, eJ, e37⟩, h75⟩, ej, rn, rk⟩, _, rfl, rfl⟩)
theorem pn_heir (x : Int32) : pairR bNK 127 207 [.int x] := pr_mk (c1 := cn_X11_heir_0) (c2 := cn_X12_heir_0) ch_X11_heir_0 ch_X12_heir_0 (by decide +kernel) (by decide +kernel) (by decide +kernel) (by decide +kernel) rfl rfl (fun h hH => ⟨bt0 hH, vI0 x, trivial⟩) (fun h hH => ⟨bt60 hH, vI0 x, trivial⟩) (fun h hH hR => by
  obtain ⟨I, G, Ik, Gk, ik, tf, J, g, ⟨q5, q16, q0, x5, x16, x27⟩, qm, ej, rn, rk⟩ := hR
  obtain ⟨⟨so, sh, wo, fo, ow⟩, F, fb⟩ := FC_ext5 hH q5 x5
  obtain ⟨Rc, hRc⟩ := RA_of hH (p := 43) (Or.inl rfl)
  obtain ⟨s, sI, sJ, gF, gM⟩ := RN_sg rn
  have qC : nkC h I G Ik Gk ik tf := ⟨q5, q16, q0, x5, x16, x27⟩
  refine sDo_mono (s_heir11 (d := 10) (x := x) (N := s.2.2) (by omega) q0 hRc F sI.2.2.1 sI.2.2.2.2.2.2.2) (fun r1 h1 q hH1 fr1 => ?_)
  obtain ⟨⟨J', M60, eJ, e37⟩, g75⟩ := nkM_fr hH1 fr1 (by decide +kernel) qm
  obtain ⟨⟨so', ow', sh', fo', va'⟩, M⟩ := MC_ext hH1 M60
  obtain ⟨Rm, hRm⟩ := RA_of hH1 (p := 61) (Or.inr rfl)
  have sJ' : sgJ J' s := by obtain ⟨a, b, c, d⟩ := sJ; exact ⟨(eJ 0 (by decide)).trans a, (eJ 1 (by decide)).trans b, (eJ 6 (by decide)).trans c, d⟩
  have rnJ : RN (I, G, so, sh, wo, fo, ow) (J', so', ow', sh', fo', va') := RN_J (m := (J, so', ow', sh', fo', va')) rn eJ
  have gM' : gdM J' s.1 s.2.1 := ⟨sJ'.1, sJ'.2.1, sJ'.2.2.2.1, sJ'.2.2.2.2.1, sJ'.2.2.2.2.2.1, sJ'.2.2.2.2.2.2.1⟩
  refine sDo_mono (s_heir12 (d := 10) (x := x) (N := s.2.2) (by omega) M hRm sJ'.2.2.1 sJ'.2.2.2.2.2.2.2) (fun r2 h2 p hH2 fr2 => ?_)
  rcases q with ⟨k, k1, rfl, F1, E1⟩ | ⟨k, k1, rfl, rfl⟩ | ⟨k, rfl, rfl⟩
  · rcases p with ⟨-, -, rfl, M2, -⟩ | ⟨-, k2, -⟩ | ⟨k2, -⟩
    · have nc := nkC_fr fr2 (by decide +kernel) (nkC_5 qC F1 E1)
      have h75 := M75 fr2 g75 (by decide +kernel)
      obtain ⟨X, hX⟩ : ∃ X : Nat, x.toInt = X := ⟨x.toInt.toNat, by omega⟩
      have ex : x = Int32.ofNat X := Int32.toInt_inj.mp (by rw [hX, ofN_toInt (by omega)])
      have eN := ofN_toInt (n := s.2.2) (by omega)
      have rn2 := RN_ok.2.1 _ _ s (3, X, 0, 0) rnJ sI sJ' ⟨by omega, by omega, k1⟩
      have e1 : (I 11).toNatClampNeg = s.2.2 := by rw [show I 11 = Int32.ofNat s.2.2 from sI.2.2.1]; exact i_nat eN
      have e2 : (J' 6).toNatClampNeg = s.2.2 := by rw [show J' 6 = Int32.ofNat s.2.2 from sJ'.2.2.1]; exact i_nat eN
      have rn3 : RN (cfHeir s.2.2 x (I, G, so, sh, wo, fo, ow)) (mfHeir s.2.2 x (J', so', ow', sh', fo', va')) := by
        have rn2' : RN (cfHeir (I 11).toNatClampNeg (Int32.ofNat X) (I, G, so, sh, wo, fo, ow)) (mfHeir (J' 6).toNatClampNeg (Int32.ofNat X) (J', so', ow', sh', fo', va')) := rn2
        rw [e1, e2, ← ex] at rn2'
        exact rn2'
      exact ⟨⟨_, _, Ik, Gk, ik, tf, _, g, nc, ⟨⟨_, M2.1, fun _ _ => rfl, rfl⟩, h75⟩, e37.trans ej, rn3, rk⟩, _, rfl, rfl⟩
    · omega
    · exact absurd k k2
  · rcases p with ⟨-, k2, -⟩ | ⟨-, -, rfl, rfl⟩ | ⟨k2, -⟩
    · omega
    · have nc := nkC_fr fr2 (by decide +kernel) (nkC_43 (c := rFc (bump Rc 7)) qC)
      have h75 := M75 fr2 g75 (by decide +kernel)
      exact ⟨⟨I, G, Ik, Gk, ik, tf, J, g, nc, ⟨⟨J', by rw [s_set_ne (by decide)]; exact M60, eJ, e37⟩, h75⟩, ej, rn, rk⟩, _, rfl, rfl⟩
    · exact absurd k k2
  · rcases p with ⟨k2, -⟩ | ⟨k2, -⟩ | ⟨-, rfl, rfl⟩
    · exact absurd k2 k
    · exact absurd k2 k
    · have nc := nkC_fr fr2 (by decide +kernel) (nkC_43 (c := rFc (bump Rc 6)) qC)
      have h75 := M75 fr2 g75 (by decide +kernel)
      exact ⟨⟨I, G, Ik, Gk, ik, tf, J, g, nc, ⟨⟨J', by rw [s_set_ne (by decide)]; exact M60, eJ, e37⟩, h75⟩, ej, rn, rk⟩, _, rfl, rfl⟩)
theorem sv_at (m : MF) (g : Nat → Int32) : ∀ j, j < 7 → svF m g (168 + j) = m.1 j := fun j hj => by
  match j, hj with
  | 0, _ => rfl
  | 1, _ => rfl
  | 2, _ => rfl
  | 3, _ => rfl
  | 4, _ => rfl
  | 5, _ => rfl
  | 6, _ => rfl
  | j + 7, hj => exact absurd hj (by omega)
theorem pn_image : pairR bNK 154 254 [] := pr_mk (c1 := cn_X11_image_0) (c2 := cn_X12_image_0) ch_X11_image_0 ch_X12_image_0 (by decide +kernel) (by decide +kernel) (by decide +kernel) (by decide +kernel) rfl rfl (fun h hH => ⟨bt0 hH, trivial⟩) (fun h hH => ⟨bt60 hH, trivial⟩) (fun h hH hR => by
  obtain ⟨I, G, Ik, Gk, ik, tf, J, g, ⟨q5, q16, q0, x5, x16, x27⟩, qm, ej, rn, rk⟩ := hR
  obtain ⟨⟨so, sh, wo, fo, ow⟩, F, fb⟩ := FC_ext5 hH q5 x5
  obtain ⟨Rc, hRc⟩ := RA_of hH (p := 43) (Or.inl rfl)
  obtain ⟨s, sI, sJ, gF, gM⟩ := RN_sg rn
  have qC : nkC h I G Ik Gk ik tf := ⟨q5, q16, q0, x5, x16, x27⟩
  obtain ⟨⟨so2, sh2, wo2, fo2, ow2⟩, Fk, -⟩ := FC_ext16 hH q16 x16
  refine sDo_mono (s_image11 (d := 10) (by omega) q0 F Fk fb) (fun r1 h1 q hH1 fr1 => ?_)
  obtain ⟨rfl, F1, Fk1, z0, -, zq⟩ := q
  have M60 : ∃ J', h1[60]? = some (mO J') ∧ (∀ j, j < 7 → J' j = J j) ∧ J' 37 = J 37 := by
    obtain ⟨⟨J', a, b⟩, -⟩ := qm
    exact ⟨J', (zq 60 (by decide)).trans a, b⟩
  obtain ⟨J', M60, eJ, e37⟩ := M60
  have g75 := (zq 75 (by decide)).trans qm.2
  obtain ⟨⟨so', ow', sh', fo', va'⟩, M⟩ := MC_ext hH1 M60
  have rnJ : RN (I, G, so, sh, wo, fo, ow) (J', so', ow', sh', fo', va') := RN_J (m := (J, so', ow', sh', fo', va')) rn eJ
  refine sDo_mono (s_image12 M g75) (fun r2 h2 p hH2 fr2 => ?_)
  obtain ⟨rfl, M2, g2⟩ := p
  obtain ⟨f7, a7, b7⟩ := x27
  have nc : nkC h1 I G (cfBecome (I, G, so, sh, wo, fo, ow) (Ik, Gk, so2, sh2, wo2, fo2, ow2)).1 (cfBecome (I, G, so, sh, wo, fo, ow) (Ik, Gk, so2, sh2, wo2, fo2, ow2)).2.1 1 tf := ⟨F1.1, Fk1.1, z0, F1.2.2.2.1, Fk1.2.2.2.1, ⟨f7, (zq 30 (by decide)).trans a7, b7⟩⟩
  have nc2 := nkC_fr fr2 (by decide +kernel) nc
  have rk2 : RN (cfBecome (I, G, so, sh, wo, fo, ow) (Ik, Gk, so2, sh2, wo2, fo2, ow2)) (J', so', ow', sh', fo', va') := RN_ok.2.2.1 _ _ _ rnJ
  obtain ⟨W', H', N', -, -, c11, -, -, m6, -⟩ := id rnJ
  refine ⟨⟨I, G, _, _, 1, tf, upd J' 37 (Int32.ofInt 1), svF (J', so', ow', sh', fo', va') g, nc2, ⟨⟨_, M2.1, fun _ _ => rfl, rfl⟩, g2⟩, rfl, RN_J (m := (J', so', ow', sh', fo', va')) rnJ (fun j hj => u_ne (by omega)), fun _ => RN_J rk2 (fun j hj => sv_at _ _ j hj)⟩, _, rfl, ?_⟩
  exact congrArg (fun z => some (Value.int z)) (m6.trans c11.symm))
theorem pn_restore : pairR bNK 155 255 [] := pr_mk (c1 := cn_X11_restore_0) (c2 := cn_X12_restore_0) ch_X11_restore_0 ch_X12_restore_0 (by decide +kernel) (by decide +kernel) (by decide +kernel) (by decide +kernel) rfl rfl (fun h hH => ⟨bt0 hH, trivial⟩) (fun h hH => ⟨bt60 hH, trivial⟩) (fun h hH hR => by
  obtain ⟨I, G, Ik, Gk, ik, tf, J, g, ⟨q5, q16, q0, x5, x16, x27⟩, qm, ej, rn, rk⟩ := hR
  obtain ⟨⟨so, sh, wo, fo, ow⟩, F, fb⟩ := FC_ext5 hH q5 x5
  obtain ⟨Rc, hRc⟩ := RA_of hH (p := 43) (Or.inl rfl)
  obtain ⟨s, sI, sJ, gF, gM⟩ := RN_sg rn
  have qC : nkC h I G Ik Gk ik tf := ⟨q5, q16, q0, x5, x16, x27⟩
  obtain ⟨⟨so2, sh2, wo2, fo2, ow2⟩, Fk, fbk⟩ := FC_ext16 hH q16 x16
  refine sDo_mono (s_restore11 (d := 10) (by omega) q0 hRc F Fk fbk) (fun r1 h1 q hH1 fr1 => ?_)
  obtain ⟨⟨J', M60, eJ, e37⟩, g75⟩ := nkM_fr hH1 fr1 (by decide +kernel) qm
  obtain ⟨⟨so', ow', sh', fo', va'⟩, M⟩ := MC_ext hH1 M60
  obtain ⟨Rm, hRm⟩ := RA_of hH1 (p := 61) (Or.inr rfl)
  have sJ' : sgJ J' s := by obtain ⟨a, b, c, d⟩ := sJ; exact ⟨(eJ 0 (by decide)).trans a, (eJ 1 (by decide)).trans b, (eJ 6 (by decide)).trans c, d⟩
  have rnJ : RN (I, G, so, sh, wo, fo, ow) (J', so', ow', sh', fo', va') := RN_J (m := (J, so', ow', sh', fo', va')) rn eJ
  have gM' : gdM J' s.1 s.2.1 := ⟨sJ'.1, sJ'.2.1, sJ'.2.2.2.1, sJ'.2.2.2.2.1, sJ'.2.2.2.2.2.1, sJ'.2.2.2.2.2.2.1⟩
  have ei : J' 37 = ik := e37.trans ej
  refine sDo_mono (s_restore12 hH1 M g75) (fun r2 h2 p hH2 fr2 => ?_)
  rcases q with ⟨k, rfl, F1, E1⟩ | ⟨k, rfl, rfl⟩
  · rcases p with ⟨k2, -⟩ | ⟨-, rfl, M2, g2⟩
    · exact absurd (ei.symm.trans k2) k
    · have nc := nkC_fr fr2 (by decide +kernel) (nkC_5 qC F1 E1)
      have rk1 := rk k
      have rn2 : RN (cfBecome (Ik, Gk, so2, sh2, wo2, fo2, ow2) (I, G, so, sh, wo, fo, ow)) (mfBack (J', so', ow', sh', fo', va') g) := RN_J (RN_ok.2.2.1 (Ik, Gk, so2, sh2, wo2, fo2, ow2) (I, G, so, sh, wo, fo, ow) ((fun j => g (168 + j)), so', ow', sh', fo', va') rk1) (fun j hj => bk_at _ _ j hj)
      obtain ⟨W', H', N', -, -, c11, -, -, m6, -⟩ := id rk1
      refine ⟨⟨_, _, Ik, Gk, ik, tf, _, g, nc, ⟨⟨_, M2.1, fun _ _ => rfl, rfl⟩, g2⟩, ei, rn2, rk⟩, _, rfl, ?_⟩
      exact congrArg (fun z => some (Value.int z)) (show g 174 = Ik 11 from m6.trans c11.symm)
  · rcases p with ⟨-, rfl, M2, g2⟩ | ⟨k2, -⟩
    · have nc := nkC_fr fr2 (by decide +kernel) (nkC_43 (c := rFc (bump Rc 6)) qC)
      exact ⟨⟨I, G, Ik, Gk, ik, tf, J, g, nc, ⟨⟨J', M2.1, eJ, e37⟩, g2⟩, ej, rn, rk⟩, _, rfl, rfl⟩
    · exact absurd (ei.trans k) k2)
end
section
/-! ===== the pair of field ===== -/
theorem s_field11n {d : Nat} {h : sHp} {ik tf x b : Int32} {R : Nat → Int32} {B : Nat} (hd : 3 ≤ d) (h0 : h[0]? = some (cO ik tf)) (hR : h[43]? = some (rFc R)) (hb : b.toInt = -(B : Int)) (hB : 1 ≤ B ∧ B ≤ 7) (hno : sDo (d - 1) 161 [.ref 0, .int x] h (fun r h' => h' = h ∧ r = some (.int b))) : sDo d 122 [.ref 0, .int x] h (fun r h' => r = some (.int b) ∧ h' = h.set 43 (rFc (bump R B))) := by
  have hb0 : ¬ b = 0 := fun z => by rw [z] at hb; have e : (0 : Int32).toInt = 0 := rfl; omega
  refine sDo_of1 (nL := 5) (L := [some (.ref 0), some (.int x), none, none, none]) (by omega) rfl rfl ?_
  refine g_aload_n (i := 0) rfl rfl ?_
  refine g_iload_n (i := 1) rfl rfl ?_
  refine g_virt1 (Qc := fun r h' => h' = h ∧ r = some (.int b)) rfl (by decide) rfl h0 rfl (Nat.le_of_ble_eq_true rfl) (hno) (fun r h hq9 => ?_)
  obtain ⟨rfl, rfl⟩ := hq9
  refine g_istore_n (i := 2) (L1 := [some (.ref 0), some (.int x), some (.int b), none, none]) rfl (Nat.le_of_ble_eq_true rfl) rfl ?_
  refine g_iload_n (i := 2) rfl rfl ?_
  refine g_if_eq 16 rfl rfl (fun hc => absurd hc (by exact hb0)) (fun _ => ?_)
  refine g_aload_n (i := 0) rfl rfl ?_
  refine g_iload_n (i := 2) rfl rfl ?_
  refine g_virt1 (Qc := fun r h' => r = some (.int b) ∧ h' = h.set 43 (rFc (bump R B))) rfl (by decide) rfl h0 rfl (Nat.le_of_ble_eq_true rfl) (s_refuse2 (by omega) h0 hR hb hB) (fun r h9 hq9 => ?_)
  obtain ⟨rfl, rfl⟩ := hq9
  refine g_ireturn (ty := .int) rfl rfl rfl ?_
  exact ⟨rfl, rfl⟩
theorem s_field12n {d : Nat} {h : sHp} {J R hd : Nat → Int32} {x : Int32} {b : Int32} {B : Nat} (hd1 : 3 ≤ d) (hr : h[60]? = some (mO J)) (hR : h[61]? = some (rFc R)) (a4 : h[67]? = some (.inl (0, 8, .inl hd))) (hb : b.toInt = -(B : Int)) (hB : 1 ≤ B ∧ B ≤ 7) (hx : ((0 ≤ x.toInt ∧ x.toInt < 8) ∧ wtS hd x.toInt.toNat 1 = b) ∨ (¬ (0 ≤ x.toInt ∧ x.toInt < 8) ∧ b = -1)) : sDo d 202 [.ref 60, .int x] h (fun r h' => r = some (.int b) ∧ h' = h.set 61 (rFc (bump R B))) := by
  have hb0 : ¬ b = 0 := fun z => by rw [z] at hb; have e : (0 : Int32).toInt = 0 := rfl; omega
  refine sDo_of1 (nL := 5) (L := [some (.ref 60), some (.int x), none, none, none]) (by omega) rfl rfl ?_
  refine g_aload_n (i := 0) rfl rfl ?_
  refine g_iload_n (i := 1) rfl rfl ?_
  refine g_iconst (n := 1) rfl ?_
  refine g_virt2 (Qc := fun r h' => h' = h ∧ r = some (.int b)) rfl (by decide) rfl hr rfl (Nat.le_of_ble_eq_true rfl) (sDo_mono (s_wantsE (w := Int32.ofInt 1) (by omega) hr a4 (Or.inl rfl)) (fun r h9 q => ⟨q.1, ?_⟩)) (fun r h hq9 => ?_)
  · rcases q.2 with ⟨z, q2⟩ | ⟨z, q2⟩
    · rcases hx with ⟨-, y⟩ | ⟨y, -⟩
      · rw [q2, ← y]; rfl
      · exact absurd z y
    · rcases hx with ⟨y, -⟩ | ⟨-, y⟩
      · exact absurd y z
      · rw [q2, y]
  obtain ⟨rfl, rfl⟩ := hq9
  refine g_istore_n (i := 2) (L1 := [some (.ref 60), some (.int x), some (.int b), none, none]) rfl (Nat.le_of_ble_eq_true rfl) rfl ?_
  refine g_iload_n (i := 2) rfl rfl ?_
  refine g_if_eq 17 rfl rfl (fun hc => absurd hc (by exact hb0)) (fun _ => ?_)
  refine g_aload_n (i := 0) rfl rfl ?_
  refine g_iload_n (i := 2) rfl rfl ?_
  refine g_virt1 (Qc := fun r h' => r = some (.int b) ∧ h' = h.set 61 (rFc (bump R B))) rfl (by decide) rfl hr rfl (Nat.le_of_ble_eq_true rfl) (s_no2 (by omega) hr hR hb hB) (fun r h9 hq9 => ?_)
  obtain ⟨rfl, rfl⟩ := hq9
  refine g_ireturn (ty := .int) rfl rfl rfl ?_
  exact ⟨rfl, rfl⟩
theorem iso37 {W gg : Nat} {h h' : sHp} {J J' : Nat → Int32} (a : bFr W gg h h') (q : h[60]? = some (mO J)) (p : h'[60]? = some (mO J')) (hW : W.testBit 3877 = false) : J' 37 = J 37 := by
  obtain ⟨c', h1, h2⟩ := a.2.2 60 _ q
  rw [p] at h1
  cases h1
  obtain ⟨-, -, e3, -⟩ := h2
  have k : (some (Value.int (J' 37)) : Option Value) = some (Value.int (J 37)) := e3 37 hW
  have inj : ∀ {x y : Int32}, (some (Value.int x) : Option Value) = some (Value.int y) → x = y := fun h => by cases h; rfl
  exact inj k
theorem fdE_at {h h' : sHp} {lo q : Nat} {x : va_E} (E : fdE h h' lo) (hx : h[q]? = some x) (e1 : q < lo ∨ 15 < q) (e2 : q < 27 ∨ 37 < q) (e3 : q ≠ 0) (e4 : q ≠ 43) : h'[q]? = some x := (E.2 q e1 e2 e3 e4 (List.getElem?_eq_some_iff.mp hx).1).trans hx
theorem bR5_43 {h : sHp} {c : va_E} (q : bR5 h) : bR5 (h.set 43 c) := bR5_set q (by decide) (by decide) (by decide) (by decide) (by decide)
theorem nr_b {hd : Nat → Int32} {S : Nat} (h1 : hd S = 0 ∨ hd S = 2) : ∃ B : Nat, (1 ≤ B ∧ B ≤ 7) ∧ (nrOf hd S).toInt = -(B : Int) ∧ wtS hd S 1 = nrOf hd S := by
  unfold nrOf wtS
  rcases h1 with e | e
  · rw [e]; exact ⟨3, by decide, by decide, by decide⟩
  · rw [e]; exact ⟨2, by decide, by decide, by decide⟩
theorem pn_field (x : Int32) : pairR (fun h => bR5 h ∧ bNK h) 122 202 [.int x] := pr_mk (c1 := cn_X11_field_0) (c2 := cn_X12_field_0) ch_X11_field_0 ch_X12_field_0 (by decide +kernel) (by decide +kernel) (by decide +kernel) (by decide +kernel) rfl rfl (fun h hH => ⟨bt0 hH, vI0 x, trivial⟩) (fun h hH => ⟨bt60 hH, vI0 x, trivial⟩) (fun h hH hRR => by
  obtain ⟨hR5, hR⟩ := hRR
  obtain ⟨I, G, Ik, Gk, ik, tf, J, g, ⟨q5, q16, q0, x5, x16, x27⟩, qm, ej, rn, rk⟩ := hR
  have qC : nkC h I G Ik Gk ik tf := ⟨q5, q16, q0, x5, x16, x27⟩
  obtain ⟨⟨so, sh, wo, fo, ow⟩, F, fb⟩ := FC_ext5 hH q5 x5
  obtain ⟨cd, Fd, -⟩ := FC_at27 hH x27
  obtain ⟨Rc, hRc⟩ := RA_of hH (p := 43) (Or.inl rfl)
  obtain ⟨s, sI, sJ, gF, gM⟩ := RN_sg rn
  obtain ⟨hd, ro, sz, co, cl, f, gg, q4, bs⟩ := id hR5
  obtain ⟨⟨J', M60, eJ, e37⟩, g75⟩ := id qm
  have q4' := q4
  obtain ⟨a1, a2, a3, a4, a5, a6, a7, a8⟩ := q4'
  have sJ' : sgJ J' s := by obtain ⟨a, b, c, d⟩ := sJ; exact ⟨(eJ 0 (by decide)).trans a, (eJ 1 (by decide)).trans b, (eJ 6 (by decide)).trans c, d⟩
  have l79 := hH.1
  -- refused on both sides
  have refd : ∀ (b : Int32) (B : Nat), b.toInt = -(B : Int) → (1 ≤ B ∧ B ≤ 7) → sDo 9 161 [.ref 0, .int x] h (fun r h' => h' = h ∧ r = some (.int b)) → (((0 ≤ x.toInt ∧ x.toInt < 8) ∧ wtS hd x.toInt.toNat 1 = b) ∨ (¬ (0 ≤ x.toInt ∧ x.toInt < 8) ∧ b = -1)) → sDo 10 cn_X11_field_0.1 (.ref 0 :: [.int x]) h (fun r1 h1 => bH h1 → bFr cn_X11_field_0.2.2.2.2.1 cn_X11_field_0.2.2.2.2.2.1 h h1 → sDo 10 cn_X12_field_0.1 (.ref 60 :: [.int x]) h1 (fun r2 h2 => bH h2 → bFr cn_X12_field_0.2.2.2.2.1 cn_X12_field_0.2.2.2.2.2.1 h1 h2 → (bR5 h2 ∧ bNK h2) ∧ ∃ x, r1 = some x ∧ r2 = some x)) := by
    intro b B hb hB hno hx
    refine sDo_mono (s_field11n (d := 10) (by omega) q0 hRc hb hB hno) (fun r1 h1 q hH1 fr1 => ?_)
    obtain ⟨rfl, rfl⟩ := q
    obtain ⟨Rm, hRm⟩ := RA_of hH1 (p := 61) (Or.inr rfl)
    refine sDo_mono (s_field12n (d := 10) (by omega) (by rw [s_set_ne (by decide)]; exact M60) hRm (by rw [s_set_ne (by decide)]; exact a4) hb hB hx) (fun r2 h2 p hH2 fr2 => ?_)
    obtain ⟨rfl, rfl⟩ := p
    refine ⟨⟨bR5_fr fr2 (by decide +kernel) (bR5_43 hR5), I, G, Ik, Gk, ik, tf, J, g, nkC_fr fr2 (by decide +kernel) (nkC_43 qC), ⟨⟨J', by rw [s_set_ne (by decide), s_set_ne (by decide)]; exact M60, eJ, e37⟩, by rw [s_set_ne (by decide), s_set_ne (by decide)]; exact g75⟩, ej, rn, rk⟩, _, rfl, rfl⟩
  by_cases hS : 0 ≤ x.toInt ∧ x.toInt < 8
  · obtain ⟨S, hx⟩ : ∃ S : Nat, x.toInt = S := ⟨x.toInt.toNat, by omega⟩
    obtain ⟨ot, z, el, b1, b2, b3⟩ := bs S (by omega)
    have hno := s_noIn (d := 7) (el := el) hH q4 hx (by omega) b1 b3
    have row : hd S = 1 ∨ (hd S = 0 ∨ hd S = 2) := by
      rcases b3 with ⟨e, -⟩ | ⟨e, -⟩ | ⟨e, -⟩
      · exact Or.inr (Or.inl e)
      · exact Or.inl e
      · exact Or.inr (Or.inr e)
    rcases row with h1 | h1
    · -- a row
      rcases b3 with ⟨e, -⟩ | ⟨-, -, eo, o0, o3, ez, z0, z100, eel⟩ | ⟨e, -⟩
      · rw [h1] at e; exact absurd e (by decide)
      · obtain ⟨n, hn⟩ : ∃ n : Nat, z.toInt = n := ⟨z.toInt.toNat, by omega⟩
        have hz : z = Int32.ofNat n := Int32.toInt_inj.mp (by rw [hn, ofN_toInt (by omega)])
        have hno0 : sDo 9 161 [.ref 0, .int x] h (fun r h' => h' = h ∧ r = some (.int 0)) := sDo_mono hno (fun r h' q => ⟨q.1, by rw [q.2]; unfold nrOf; rw [if_pos h1]⟩)
        have sI2 : sgI (cfBecome (I, G, so, sh, wo, fo, ow) cd) s := ⟨(bc_I I cd.1 0 (by decide)).trans sI.1, (bc_I I cd.1 1 (by decide)).trans sI.2.1, (bc_I I cd.1 11 (by decide)).trans sI.2.2.1, sI.2.2.2⟩
        have RT1 : RT cl S n (tx el n) := ⟨by omega, by omega, fun i hi => by
            unfold tx
            rw [if_pos hi, eel i (by omega)], fun i hi => if_neg (by omega)⟩
        rw [hz] at b1
        refine sDo_mono (s_field11 (d := 10) (S := S) (n := n) (by omega) l79 q0 hRc F Fd fb (fun as => fb_dos (fb_bc (a := (I, G, so, sh, wo, fo, ow)) fb) as) (by omega) (by omega) hx a1 (a2 S (by omega)) b1 b2 sI2 hno0) (fun r1 h1' q hH1 fr1 => ?_)
        have hE : ∃ lo, (lo = 5 ∨ lo = 16) ∧ fdE h h1' lo := by
          unfold qF11 at q
          split at q
          · exact ⟨5, Or.inl rfl, q.2.2.2⟩
          · exact ⟨16, Or.inr rfl, q.2.2⟩
        obtain ⟨lo, hlo, E⟩ := hE
        have at_ : ∀ {p : Nat} {x : va_E}, h[p]? = some x → 43 < p → h1'[p]? = some x := fun hx hp => fdE_at E hx (by omega) (by omega) (by omega) (by omega)
        have M60' := at_ M60 (by decide)
        obtain ⟨⟨so', ow', sh', fo', va'⟩, M⟩ := MC_ext hH1 M60'
        obtain ⟨Rm, hRm⟩ := RA_of hH1 (p := 61) (Or.inr rfl)
        obtain ⟨gw, hgw, -, -⟩ := bA60 hH1 (p := 74) (by decide) rfl
        obtain ⟨wd, w0, WW⟩ := WD_of hH1
        have rnJ : RN (I, G, so, sh, wo, fo, ow) (J', so', ow', sh', fo', va') := RN_J (m := (J, so', ow', sh', fo', va')) rn eJ
        have x27' := fxR_fr fr1 (Or.inr (Or.inr rfl)) (by decide +kernel) x27
        have g75' := at_ g75 (by decide)
        refine sDo_mono (s_field12 (d := 10) (S := S) (n := n) (by omega) M hRm hgw w0 WW (at_ a4 (by decide)) (at_ a6 (by decide)) (at_ a8 (by decide)) (by omega) hx h1 (by rw [← ez, hz]) RT1 sJ') (fun r2 h2 p hH2 fr2 => ?_)
        have R2 := bR5_fr fr2 (by decide +kernel) (bR5_fr fr1 (by decide +kernel) hR5)
        cases hi : itsS (tx el n) n 101 s 0 with
        | none =>
          rw [hi] at q p
          obtain ⟨rfl, ⟨tf2, z0'⟩, E1⟩ := q
          obtain ⟨rfl, ⟨m0, g0, ⟨J2, R2'⟩, M2, mq⟩, E2⟩ := p
          obtain ⟨f6, a6', b6⟩ := x16
          obtain ⟨f5, a5', b5⟩ := x5
          have nc : nkC h1' I G Ik Gk ik tf2 := ⟨fdE_at E1 q5 (by decide) (by decide) (by decide) (by decide), fdE_at E1 q16 (by decide) (by decide) (by decide) (by decide), z0', ⟨f5, fdE_at E1 a5' (by decide) (by decide) (by decide) (by decide), b5⟩, ⟨f6, fdE_at E1 a6' (by decide) (by decide) (by decide) (by decide), b6⟩, x27'⟩
          have rn2 : RN (I, G, so, sh, wo, fo, ow) (J2, R2') := RN_ok.1 _ _ _ (RN_ok.2.2.2.1 _ _ m0 g0 rnJ) mq
          exact ⟨⟨R2, I, G, Ik, Gk, ik, tf2, J2, g, nkC_fr fr2 (by decide +kernel) nc, ⟨⟨J2, M2.1, fun _ _ => rfl, rfl⟩, (E2.2 75 (by decide) (by decide) (by decide)).trans g75'⟩, (iso37 fr2 M60' M2.1 (by decide +kernel)).trans (e37.trans ej), rn2, rk⟩, _, rfl, rfl⟩
        | some kb =>
          obtain ⟨k, as⟩ := kb
          rw [hi] at q p
          obtain ⟨rfl, F1, z0', E1⟩ := q
          obtain ⟨rfl, ⟨⟨J2, R2'⟩, M2, mq⟩, E2⟩ := p
          have ok := (its_ok hi sI2).1
          have rn1 : RN (cfBecome (I, G, so, sh, wo, fo, ow) cd) (J', so', ow', sh', fo', va') := RN_ok.2.2.1 _ _ _ rnJ
          have rn2 := RN_ok.2.2.1 _ (I, G, so, sh, wo, fo, ow) _ (rel_dos RN_ok rn1 sI2 sJ' ok)
          have rn3 := RN_ok.1 _ _ _ rn2 mq
          obtain ⟨f6, a6', b6⟩ := x16
          have nc : nkC h1' (cfBecome (as.foldl cfDo (cfBecome (I, G, so, sh, wo, fo, ow) cd)) (I, G, so, sh, wo, fo, ow)).1 (cfBecome (as.foldl cfDo (cfBecome (I, G, so, sh, wo, fo, ow) cd)) (I, G, so, sh, wo, fo, ow)).2.1 Ik Gk ik (-1) := ⟨F1.1, fdE_at E1 q16 (by decide) (by decide) (by decide) (by decide), z0', F1.2.2.2.1, ⟨f6, fdE_at E1 a6' (by decide) (by decide) (by decide) (by decide), b6⟩, x27'⟩
          exact ⟨⟨R2, _, _, Ik, Gk, ik, -1, J2, g, nkC_fr fr2 (by decide +kernel) nc, ⟨⟨J2, M2.1, fun _ _ => rfl, rfl⟩, (E2.2 75 (by decide) (by decide) (by decide)).trans g75'⟩, (iso37 fr2 M60' M2.1 (by decide +kernel)).trans (e37.trans ej), rn3, rk⟩, _, rfl, rfl⟩
      · rw [h1] at e; exact absurd e (by decide)
    · obtain ⟨B, hB, eB, ew⟩ := nr_b h1
      exact refd _ B eB hB hno (Or.inl ⟨hS, by rw [show x.toInt.toNat = S by omega]; exact ew⟩)
  · exact refd (-1) 1 (by decide) (by decide) (s_noOut (d := 7) hS) (Or.inr ⟨hS, rfl⟩))
end
section
/-! ===== shelves and the fields' ints together ===== -/
def bR7 (h : sHp) : Prop := bR5 h ∧ bNK h
def bR7M : List Nat := bRM ++ (NKc ++ NKm)
theorem bR7_fr {W gg : Nat} {h h' : sHp} (hH' : bH h') (a : bFr W gg h h') (hW : ∀ b ∈ bR7M, W.testBit b = false) (q : bR7 h) : bR7 h' := ⟨bR5_fr a (fun b hb => hW b (List.mem_append_left _ hb)) q.1, bNK_fr hH' a (fun b hb => hW b (List.mem_append_right _ (List.mem_append_left _ hb))) (fun b hb => hW b (List.mem_append_right _ (List.mem_append_right _ hb))) q.2⟩
theorem pr_swap {A B : sHp → Prop} {k1 k2 : Nat} {as : List Value} (p : pairR (fun h => A h ∧ B h) k1 k2 as) : pairR (fun h => B h ∧ A h) k1 k2 as := fun h hH hR => sDo_mono (p h hH ⟨hR.2, hR.1⟩) (fun r1 h1 q => ⟨q.1, q.2.1, sDo_mono q.2.2 (fun r2 h2 z => ⟨z.1, z.2.1, ⟨z.2.2.1.2, z.2.2.1.1⟩, z.2.2.2⟩)⟩)
theorem pr7_row (s : Int32) (a : Int32) (x : Int32) : pairR bR7 114 178 [.int s, .int a, .int x] := pr_and (R := bR5) (P := bNK) (c1 := cn_X11_row_0) (c2 := cn_X12_row_0) (pr_row s a x) (fun hH a q => bNK_fr hH a (by decide +kernel) (by decide +kernel) q) (fun hH a q => bNK_fr hH a (by decide +kernel) (by decide +kernel) q) ch_X11_row_0 ch_X12_row_0 (by decide +kernel) (by decide +kernel) rfl rfl (fun h hH => ⟨bt0 hH, vI0 s, vI0 a, vI0 x, trivial⟩) (fun h hH => ⟨bt60 hH, vI0 s, vI0 a, vI0 x, trivial⟩)
theorem pr7_set (s : Int32) (i : Int32) (v : Int64) : pairR bR7 115 179 [.int s, .int i, .long v] := pr_and (R := bR5) (P := bNK) (c1 := cn_X11_set_0) (c2 := cn_X12_set_0) (pr_set s i v) (fun hH a q => bNK_fr hH a (by decide +kernel) (by decide +kernel) q) (fun hH a q => bNK_fr hH a (by decide +kernel) (by decide +kernel) q) ch_X11_set_0 ch_X12_set_0 (by decide +kernel) (by decide +kernel) rfl rfl (fun h hH => ⟨bt0 hH, vI0 s, vI0 i, vL0 v, trivial⟩) (fun h hH => ⟨bt60 hH, vI0 s, vI0 i, vL0 v, trivial⟩)
theorem pr7_cut (s : Int32) (c : Int32) : pairR bR7 118 182 [.int s, .int c] := pr_and (R := bR5) (P := bNK) (c1 := cn_X11_cut_0) (c2 := cn_X12_cut_0) (pr_cut s c) (fun hH a q => bNK_fr hH a (by decide +kernel) (by decide +kernel) q) (fun hH a q => bNK_fr hH a (by decide +kernel) (by decide +kernel) q) ch_X11_cut_0 ch_X12_cut_0 (by decide +kernel) (by decide +kernel) rfl rfl (fun h hH => ⟨bt0 hH, vI0 s, vI0 c, trivial⟩) (fun h hH => ⟨bt60 hH, vI0 s, vI0 c, trivial⟩)
theorem pr7_copy (p : Int32) (q : Int32) (i : Int32) (j : Int32) (n : Int32) : pairR bR7 116 180 [.int p, .int q, .int i, .int j, .int n] := pr_and (R := bR5) (P := bNK) (c1 := cn_X11_copy_0) (c2 := cn_X12_copy_0) (pr_copy p q i j n) (fun hH a q => bNK_fr hH a (by decide +kernel) (by decide +kernel) q) (fun hH a q => bNK_fr hH a (by decide +kernel) (by decide +kernel) q) ch_X11_copy_0 ch_X12_copy_0 (by decide +kernel) (by decide +kernel) rfl rfl (fun h hH => ⟨bt0 hH, vI0 p, vI0 q, vI0 i, vI0 j, vI0 n, trivial⟩) (fun h hH => ⟨bt60 hH, vI0 p, vI0 q, vI0 i, vI0 j, vI0 n, trivial⟩)
theorem pr7_size (x : Int32) (y : Int32) : pairR bR7 124 204 [.int x, .int y] := pr_swap (A := bNK) (B := bR5) (pr_and (R := bNK) (P := bR5) (c1 := cn_X11_size_0) (c2 := cn_X12_size_0) (pn_size x y) (fun hH a q => bR5_fr a (by decide +kernel) q) (fun hH a q => bR5_fr a (by decide +kernel) q) ch_X11_size_0 ch_X12_size_0 (by decide +kernel) (by decide +kernel) rfl rfl (fun h hH => ⟨bt0 hH, vI0 x, vI0 y, trivial⟩) (fun h hH => ⟨bt60 hH, vI0 x, vI0 y, trivial⟩))
theorem pr7_place (x : Int32) (v : Int32) : pairR bR7 126 206 [.int x, .int v] := pr_swap (A := bNK) (B := bR5) (pr_and (R := bNK) (P := bR5) (c1 := cn_X11_place_0) (c2 := cn_X12_place_0) (pn_place x v) (fun hH a q => bR5_fr a (by decide +kernel) q) (fun hH a q => bR5_fr a (by decide +kernel) q) ch_X11_place_0 ch_X12_place_0 (by decide +kernel) (by decide +kernel) rfl rfl (fun h hH => ⟨bt0 hH, vI0 x, vI0 v, trivial⟩) (fun h hH => ⟨bt60 hH, vI0 x, vI0 v, trivial⟩))
theorem pr7_heir (x : Int32) : pairR bR7 127 207 [.int x] := pr_swap (A := bNK) (B := bR5) (pr_and (R := bNK) (P := bR5) (c1 := cn_X11_heir_0) (c2 := cn_X12_heir_0) (pn_heir x) (fun hH a q => bR5_fr a (by decide +kernel) q) (fun hH a q => bR5_fr a (by decide +kernel) q) ch_X11_heir_0 ch_X12_heir_0 (by decide +kernel) (by decide +kernel) rfl rfl (fun h hH => ⟨bt0 hH, vI0 x, trivial⟩) (fun h hH => ⟨bt60 hH, vI0 x, trivial⟩))
theorem pr7_image : pairR bR7 154 254 [] := pr_swap (A := bNK) (B := bR5) (pr_and (R := bNK) (P := bR5) (c1 := cn_X11_image_0) (c2 := cn_X12_image_0) (pn_image ) (fun hH a q => bR5_fr a (by decide +kernel) q) (fun hH a q => bR5_fr a (by decide +kernel) q) ch_X11_image_0 ch_X12_image_0 (by decide +kernel) (by decide +kernel) rfl rfl (fun h hH => ⟨bt0 hH, trivial⟩) (fun h hH => ⟨bt60 hH, trivial⟩))
theorem pr7_restore : pairR bR7 155 255 [] := pr_swap (A := bNK) (B := bR5) (pr_and (R := bNK) (P := bR5) (c1 := cn_X11_restore_0) (c2 := cn_X12_restore_0) (pn_restore ) (fun hH a q => bR5_fr a (by decide +kernel) q) (fun hH a q => bR5_fr a (by decide +kernel) q) ch_X11_restore_0 ch_X12_restore_0 (by decide +kernel) (by decide +kernel) rfl rfl (fun h hH => ⟨bt0 hH, trivial⟩) (fun h hH => ⟨bt60 hH, trivial⟩))
theorem pr7_field (x : Int32) : pairR bR7 122 202 [.int x] := pn_field x
end
section
/-! ===== two fields under a relation, now and kept ===== -/
def kC (h : sHp) (c ck : CF) (ik tf : Int32) : Prop := FC h 5 c ∧ FC h 16 ck ∧ h[0]? = some (cO ik tf) ∧ fxR h 27
def kM (h : sHp) (m : MF) (g : Nat → Int32) : Prop := MC h m ∧ h[75]? = some (.inl (0, 180, .inl g))
def bFL (Rel : CF → MF → Prop) (h : sHp) : Prop := ∃ (c ck : CF) (m : MF) (g : Nat → Int32) (ik tf : Int32), kC h c ck ik tf ∧ kM h m g ∧ m.1 37 = ik ∧ Rel c m ∧ (¬ ik = 0 → ∀ m', Rel ck (mfBack m' g))
theorem FC_tr {h h' : sHp} {p : Nat} {c : CF} (F : FC h p c) (e : ∀ q x, p ≤ q → q ≤ p + 10 → h[q]? = some x → h'[q]? = some x) : FC h' p c := by
  obtain ⟨a0, a1, a2, ⟨f, a3, a4⟩, a5, a6, a7⟩ := F
  exact ⟨e _ _ (by omega) (by omega) a0, e _ _ (by omega) (by omega) a1, e _ _ (by omega) (by omega) a2, ⟨f, e _ _ (by omega) (by omega) a3, a4⟩, fun k hk => e _ _ (by omega) (by omega) (a5 k hk), e _ _ (by omega) (by omega) a6, e _ _ (by omega) (by omega) a7⟩
theorem MC_tr {h h' : sHp} {m : MF} (M : MC h m) (e : ∀ q x, 60 ≤ q → q ≤ 66 → q ≠ 61 → h[q]? = some x → h'[q]? = some x) : MC h' m := by
  obtain ⟨a0, a1, a2, a3, a4, a5⟩ := M
  exact ⟨e _ _ (by decide) (by decide) (by decide) a0, e _ _ (by decide) (by decide) (by decide) a1, e _ _ (by decide) (by decide) (by decide) a2, e _ _ (by decide) (by decide) (by decide) a3, e _ _ (by decide) (by decide) (by decide) a4, e _ _ (by decide) (by decide) (by decide) a5⟩
theorem fx_tr {h h' : sHp} {p : Nat} (F : fxR h p) (e : ∀ q x, p ≤ q → q ≤ p + 10 → h[q]? = some x → h'[q]? = some x) : fxR h' p := by
  obtain ⟨f, a, b⟩ := F
  exact ⟨f, e _ _ (by omega) (by omega) a, b⟩
theorem kC_tr {h h' : sHp} {c ck : CF} {ik tf : Int32} (K : kC h c ck ik tf) (e : ∀ q x, q < 38 → h[q]? = some x → h'[q]? = some x) : kC h' c ck ik tf :=
  ⟨FC_tr K.1 (fun q x h1 h2 => e q x (by omega)), FC_tr K.2.1 (fun q x h1 h2 => e q x (by omega)), e _ _ (by decide) K.2.2.1, fx_tr K.2.2.2 (fun q x h1 h2 => e q x (by omega))⟩
theorem kM_tr {h h' : sHp} {m : MF} {g : Nat → Int32} (K : kM h m g) (e : ∀ q x, 60 ≤ q → q ≠ 61 → h[q]? = some x → h'[q]? = some x) : kM h' m g :=
  ⟨MC_tr K.1 (fun q x h1 h2 h3 => e q x h1 h3), e _ _ (by decide) (by decide) K.2⟩
theorem kM_43 {h : sHp} {m : MF} {g : Nat → Int32} {c : va_E} (K : kM h m g) : kM (h.set 43 c) m g := kM_tr K (fun q x h1 _ hx => by rw [s_set_ne (by omega)]; exact hx)
theorem kC_43 {h : sHp} {c ck : CF} {ik tf : Int32} {x : va_E} (K : kC h c ck ik tf) : kC (h.set 43 x) c ck ik tf := kC_tr K (fun q x h1 hx => by rw [s_set_ne (by omega)]; exact hx)
theorem kM_61 {h : sHp} {m : MF} {g : Nat → Int32} {c : va_E} (K : kM h m g) : kM (h.set 61 c) m g := kM_tr K (fun q x h1 h2 hx => by rw [s_set_ne (by omega)]; exact hx)
theorem kC_61 {h : sHp} {c ck : CF} {ik tf : Int32} {x : va_E} (K : kC h c ck ik tf) : kC (h.set 61 x) c ck ik tf := kC_tr K (fun q x h1 hx => by rw [s_set_ne (by omega)]; exact hx)
theorem kM_fE {h h' : sHp} {m : MF} {g : Nat → Int32} (K : kM h m g) (E : fE 5 h h') : kM h' m g := kM_tr K (fun q x h1 _ hx => (E.2 q (by omega)).trans hx)
theorem kC_5 {h h' : sHp} {c c1 ck : CF} {ik tf : Int32} (K : kC h c ck ik tf) (F : FC h' 5 c1) (E : fE 5 h h') : kC h' c1 ck ik tf :=
  ⟨F, FC_tr K.2.1 (fun q x h1 h2 hx => (E.2 q (by omega)).trans hx), (E.2 0 (by decide)).trans K.2.2.1, fx_tr K.2.2.2 (fun q x h1 h2 hx => (E.2 q (by omega)).trans hx)⟩
theorem kC_mE {h h' : sHp} {c ck : CF} {ik tf : Int32} (K : kC h c ck ik tf) (E : mE h h') : kC h' c ck ik tf := kC_tr K (fun q x h1 hx => (E.2 q (by omega) (by omega)).trans hx)
theorem fb_of {h : sHp} {p : Nat} {c : CF} (hH : bH h) (F : FC h p c) (hp : p = 5 ∨ p = 16) : fb01 c := by
  rcases hp with rfl | rfl
  · obtain ⟨f, a, b⟩ := bA60B hH (p := 14) (by decide) rfl
    have a' : h[14]? = some (.inl (2, 5, .inl c.2.2.2.2.2.1)) := F.2.2.2.2.2.1
    rw [a'] at a
    cases a
    exact fun k hk => i_01 (b k hk).1 (b k hk).2
  · obtain ⟨f, a, b⟩ := bA60B hH (p := 25) (by decide) rfl
    have a' : h[25]? = some (.inl (2, 5, .inl c.2.2.2.2.2.1)) := F.2.2.2.2.2.1
    rw [a'] at a
    cases a
    exact fun k hk => i_01 (b k hk).1 (b k hk).2
/-! ===== frames ===== -/
def KBc : List Nat := (List.range 11).map (fun j => 0 * 64 + j) ++ ((List.range 17).map (fun j => 5 * 64 + j) ++ ((List.range 17).map (fun j => 16 * 64 + j) ++ [6 * 64, 7 * 64, 8 * 64, 14 * 64, 17 * 64, 18 * 64, 19 * 64, 25 * 64, 26 * 64, 30 * 64, 82 * 64, 83 * 64]))
def KBm : List Nat := NKm ++ [62 * 64, 64 * 64, 65 * 64, 66 * 64]
theorem KBc_0 {j : Nat} (hj : j < 11) : 0 * 64 + j ∈ KBc := List.mem_append_left _ (List.mem_map.mpr ⟨j, List.mem_range.mpr hj, rfl⟩)
theorem KBc_5 {j : Nat} (hj : j < 17) : 5 * 64 + j ∈ KBc := List.mem_append_right _ (List.mem_append_left _ (List.mem_map.mpr ⟨j, List.mem_range.mpr hj, rfl⟩))
theorem KBc_16 {j : Nat} (hj : j < 17) : 16 * 64 + j ∈ KBc := List.mem_append_right _ (List.mem_append_right _ (List.mem_append_left _ (List.mem_map.mpr ⟨j, List.mem_range.mpr hj, rfl⟩)))
theorem FC_frO {W gg p K : Nat} {h h' : sHp} {I : Nat → Int32} {G : Nat → Int64} {so : Nat → Int64} {sh : Nat → Int32} {wo : Nat → Nat → Int32} {fo : Nat → Int32} {ow ow' : Nat → Int64} (hp : (p = 5 ∧ K = 82) ∨ (p = 16 ∧ K = 83)) (a : bFr W gg h h') (h0 : ∀ j, j < 17 → W.testBit (p * 64 + j) = false) (hj : ∀ j, j = 1 ∨ j = 2 ∨ j = 3 ∨ j = 9 → W.testBit ((p + j) * 64) = false) (hw : W.testBit (K * 64) = false) (h10 : h'[p + 10]? = some (.inl (1, 7, .inr (.inl ow')))) (F : FC h p (I, G, so, sh, wo, fo, ow)) : FC h' p (I, G, so, sh, wo, fo, ow') := by
  obtain ⟨a0, a1, a2, ⟨f, a3, a4⟩, a5, a6, a7⟩ := F
  rcases hp with ⟨rfl, rfl⟩ | ⟨rfl, rfl⟩
  · refine ⟨bFr_obj (K := 5) (n := 17) a a0 rfl rfl h0, bFr_arr a a1 (by decide) rfl (hj 1 (by decide)), bFr_arr a a2 (by decide) rfl (hj 2 (by decide)), ⟨f, bFr_arr a a3 (by decide) rfl (hj 3 (by decide)), a4⟩, fun k hk => ?_, bFr_arr a a6 (by decide) rfl (hj 9 (by decide)), h10⟩
    match k, hk with
    | 0, _ => exact bFr_arr (p := 9) (K := 82) a (a5 0 (by decide)) (by decide) rfl hw
    | 1, _ => exact bFr_arr (p := 10) (K := 82) a (a5 1 (by decide)) (by decide) rfl hw
    | 2, _ => exact bFr_arr (p := 11) (K := 82) a (a5 2 (by decide)) (by decide) rfl hw
    | 3, _ => exact bFr_arr (p := 12) (K := 82) a (a5 3 (by decide)) (by decide) rfl hw
    | 4, _ => exact bFr_arr (p := 13) (K := 82) a (a5 4 (by decide)) (by decide) rfl hw
    | k + 5, hk => exact absurd hk (by omega)
  · refine ⟨bFr_obj (K := 16) (n := 17) a a0 rfl rfl h0, bFr_arr a a1 (by decide) rfl (hj 1 (by decide)), bFr_arr a a2 (by decide) rfl (hj 2 (by decide)), ⟨f, bFr_arr a a3 (by decide) rfl (hj 3 (by decide)), a4⟩, fun k hk => ?_, bFr_arr a a6 (by decide) rfl (hj 9 (by decide)), h10⟩
    match k, hk with
    | 0, _ => exact bFr_arr (p := 20) (K := 83) a (a5 0 (by decide)) (by decide) rfl hw
    | 1, _ => exact bFr_arr (p := 21) (K := 83) a (a5 1 (by decide)) (by decide) rfl hw
    | 2, _ => exact bFr_arr (p := 22) (K := 83) a (a5 2 (by decide)) (by decide) rfl hw
    | 3, _ => exact bFr_arr (p := 23) (K := 83) a (a5 3 (by decide)) (by decide) rfl hw
    | 4, _ => exact bFr_arr (p := 24) (K := 83) a (a5 4 (by decide)) (by decide) rfl hw
    | k + 5, hk => exact absurd hk (by omega)
/-- the class's part but for the owners now -/
theorem kC_frO {W gg : Nat} {h h' : sHp} {c ck : CF} {ik tf : Int32} {ow' : Nat → Int64} (a : bFr W gg h h') (hW : ∀ b ∈ KBc, W.testBit b = false) (h15 : h'[15]? = some (.inl (1, 7, .inr (.inl ow')))) (q : kC h c ck ik tf) : kC h' (c.1, c.2.1, c.2.2.1, c.2.2.2.1, c.2.2.2.2.1, c.2.2.2.2.2.1, ow') ck ik tf := by
  obtain ⟨F, Fk, q0, ⟨f, f1, f2⟩⟩ := q
  obtain ⟨I, G, so, sh, wo, fo, ow⟩ := c
  obtain ⟨Ik, Gk, sok, shk, wok, fok, owk⟩ := ck
  refine ⟨FC_frO (Or.inl ⟨rfl, rfl⟩) a (fun j hj => hW _ (KBc_5 hj)) (fun j hj => ?_) (hW _ (by decide)) h15 F, FC_frO (Or.inr ⟨rfl, rfl⟩) a (fun j hj => hW _ (KBc_16 hj)) (fun j hj => ?_) (hW _ (by decide)) (bFr_arr a Fk.2.2.2.2.2.2 (by decide) rfl (hW _ (by decide))) Fk, bFr_obj (K := 0) (n := 11) a q0 rfl rfl (fun j hj => hW _ (KBc_0 hj)), ⟨f, bFr_arr a f1 (by decide) rfl (hW _ (by decide)), f2⟩⟩
  · rcases hj with rfl | rfl | rfl | rfl
    · exact hW (6 * 64) (by decide)
    · exact hW (7 * 64) (by decide)
    · exact hW (8 * 64) (by decide)
    · exact hW (14 * 64) (by decide)
  · rcases hj with rfl | rfl | rfl | rfl
    · exact hW (17 * 64) (by decide)
    · exact hW (18 * 64) (by decide)
    · exact hW (19 * 64) (by decide)
    · exact hW (25 * 64) (by decide)
theorem kC_fr {W gg : Nat} {h h' : sHp} {c ck : CF} {ik tf : Int32} (a : bFr W gg h h') (hW : ∀ b ∈ KBc, W.testBit b = false) (h15 : W.testBit (15 * 64) = false) (q : kC h c ck ik tf) : kC h' c ck ik tf :=
  kC_frO a hW (bFr_arr a q.1.2.2.2.2.2.2 (by decide) rfl h15) q
/-- the reference's part but for the owners -/
theorem kM_frO {W gg : Nat} {h h' : sHp} {m : MF} {g ow' : Nat → Int32} (hH' : bH h') (a : bFr W gg h h') (hW : ∀ b ∈ KBm, W.testBit b = false) (h63 : h'[63]? = some (.inl (0, 64, .inl ow'))) (q : kM h m g) : ∃ J', kM h' (J', m.2.1, ow', m.2.2.2) g ∧ (∀ j, j < 7 → J' j = m.1 j) ∧ J' 37 = m.1 37 := by
  obtain ⟨M, g75⟩ := q
  obtain ⟨⟨J', b1, b2, b3⟩, b4⟩ := nkM_fr (J := m.1) (g := g) hH' a (fun b hb => hW b (List.mem_append_left _ hb)) ⟨⟨m.1, M.1, fun _ _ => rfl, rfl⟩, g75⟩
  have mm : ∀ b ∈ [62 * 64, 64 * 64, 65 * 64, 66 * 64], W.testBit b = false := fun b hb => hW b (List.mem_append_right _ hb)
  exact ⟨J', ⟨⟨b1, bFr_arr a M.2.1 (by decide) rfl (mm _ (by decide)), h63, bFr_arr a M.2.2.2.1 (by decide) rfl (mm _ (by decide)), bFr_arr a M.2.2.2.2.1 (by decide) rfl (mm _ (by decide)), bFr_arr a M.2.2.2.2.2 (by decide) rfl (mm _ (by decide))⟩, b4⟩, b2, b3⟩
/-- a relation that says nothing of owners -/
def noOw (Rel : CF → MF → Prop) : Prop := ∀ (c : CF) (m : MF) (o1 : Nat → Int64) (o2 : Nat → Int32), Rel c m → Rel (c.1, c.2.1, c.2.2.1, c.2.2.2.1, c.2.2.2.2.1, c.2.2.2.2.2.1, o1) (m.1, m.2.1, o2, m.2.2.2)
theorem bFL_frO {Rel : CF → MF → Prop} (ok : relOk Rel) (no : noOw Rel) {W gg : Nat} {h h' : sHp} (hH' : bH h') (a : bFr W gg h h') (hc : ∀ b ∈ KBc, W.testBit b = false) (hm : ∀ b ∈ KBm, W.testBit b = false) (q : bFL Rel h) : bFL Rel h' := by
  obtain ⟨c, ck, m, g, ik, tf, kc, km, ej, rl, rk⟩ := q
  obtain ⟨ow, h15⟩ := bA60L hH' (p := 15) (by decide) rfl
  obtain ⟨ow', h63, -, -⟩ := bA60 hH' (p := 63) (by decide) rfl
  obtain ⟨J', km', eJ, e37⟩ := kM_frO hH' a hm h63 km
  exact ⟨_, ck, _, g, ik, tf, kC_frO a hc h15 kc, km', e37.trans ej, ok.1 _ _ _ (no c m ow ow' rl) ⟨eJ, rfl⟩, rk⟩
theorem bFL_fr {Rel : CF → MF → Prop} (ok : relOk Rel) {W gg : Nat} {h h' : sHp} (hH' : bH h') (a : bFr W gg h h') (hc : ∀ b ∈ KBc, W.testBit b = false) (h15 : W.testBit (15 * 64) = false) (hm : ∀ b ∈ KBm, W.testBit b = false) (h63 : W.testBit (63 * 64) = false) (q : bFL Rel h) : bFL Rel h' := by
  obtain ⟨c, ck, m, g, ik, tf, kc, km, ej, rl, rk⟩ := q
  obtain ⟨J', km', eJ, e37⟩ := kM_frO hH' a hm (bFr_arr a km.1.2.2.1 (by decide) rfl h63) km
  exact ⟨c, ck, _, g, ik, tf, kC_fr a hc h15 kc, km', e37.trans ej, ok.1 _ _ _ rl ⟨eJ, rfl⟩, rk⟩
theorem pk_size {Rel : CF → MF → Prop} (ok : relOk Rel) (x : Int32) (y : Int32) : pairR (bFL Rel) 124 204 [.int x, .int y] := pr_mk (c1 := cn_X11_size_0) (c2 := cn_X12_size_0) ch_X11_size_0 ch_X12_size_0 (by decide +kernel) (by decide +kernel) (by decide +kernel) (by decide +kernel) rfl rfl (fun h hH => ⟨bt0 hH, vI0 x, vI0 y, trivial⟩) (fun h hH => ⟨bt60 hH, vI0 x, vI0 y, trivial⟩) (fun h hH hR => by
  obtain ⟨c, ck, m, g, ik, tf, kc, km, ej, rl, rk⟩ := hR
  have F := kc.1
  have q0 := kc.2.2.1
  obtain ⟨Rc, hRc⟩ := RA_of hH (p := 43) (Or.inl rfl)
  obtain ⟨s, sI, sJ, gF, gM⟩ := RN_sg (ok.2.2.2.2.1 _ _ rl)
  refine sDo_mono (s_size11 (d := 10) (by omega) q0 hRc F) (fun r1 h1 q hH1 fr1 => ?_)
  have okE : okSz x y ↔ (2 ≤ x.toInt ∧ x.toInt ≤ 8 ∧ 2 ≤ y.toInt ∧ y.toInt ≤ 8) := Iff.rfl
  rcases q with ⟨k, rfl, F1, E1⟩ | ⟨k, rfl, rfl⟩
  · have km1 := kM_fE km E1
    refine sDo_mono (s_size12 (x := x) (y := y) hH1 km1.1) (fun r2 h2 p hH2 fr2 => ?_)
    rcases p with ⟨-, rfl, M2⟩ | ⟨k2, -⟩
    · have nc := kC_fr fr2 (by decide +kernel) (by decide +kernel) (kC_5 kc F1 E1)
      rw [okE] at k
      obtain ⟨X, hX⟩ : ∃ X : Nat, x.toInt = X := ⟨x.toInt.toNat, by omega⟩
      obtain ⟨Y, hY⟩ : ∃ Y : Nat, y.toInt = Y := ⟨y.toInt.toNat, by omega⟩
      have ex : x = Int32.ofNat X := Int32.toInt_inj.mp (by rw [hX, ofN_toInt (by omega)])
      have ey : y = Int32.ofNat Y := Int32.toInt_inj.mp (by rw [hY, ofN_toInt (by omega)])
      rw [ex, ey] at nc M2
      exact ⟨⟨_, ck, _, g, ik, tf, nc, ⟨M2, M75 fr2 km1.2 (by decide +kernel)⟩, ej, ok.2.1 _ _ s (0, X, Y, 0) rl sI sJ ⟨by omega, by omega, by omega, by omega⟩, rk⟩, _, rfl, rfl⟩
    · exact absurd k k2
  · have km1 := kM_43 (c := rFc (bump Rc 6)) km
    refine sDo_mono (s_size12 (x := x) (y := y) hH1 km1.1) (fun r2 h2 p hH2 fr2 => ?_)
    rcases p with ⟨k2, -⟩ | ⟨-, rfl, M2⟩
    · exact absurd k2 k
    · exact ⟨⟨c, ck, m, g, ik, tf, kC_fr fr2 (by decide +kernel) (by decide +kernel) (kC_43 kc), ⟨M2, M75 fr2 km1.2 (by decide +kernel)⟩, ej, rl, rk⟩, _, rfl, rfl⟩)
theorem pk_place {Rel : CF → MF → Prop} (ok : relOk Rel) (x : Int32) (v : Int32) : pairR (bFL Rel) 126 206 [.int x, .int v] := pr_mk (c1 := cn_X11_place_0) (c2 := cn_X12_place_0) ch_X11_place_0 ch_X12_place_0 (by decide +kernel) (by decide +kernel) (by decide +kernel) (by decide +kernel) rfl rfl (fun h hH => ⟨bt0 hH, vI0 x, vI0 v, trivial⟩) (fun h hH => ⟨bt60 hH, vI0 x, vI0 v, trivial⟩) (fun h hH hR => by
  obtain ⟨c, ck, m, g, ik, tf, kc, km, ej, rl, rk⟩ := hR
  have F := kc.1
  have q0 := kc.2.2.1
  obtain ⟨Rc, hRc⟩ := RA_of hH (p := 43) (Or.inl rfl)
  obtain ⟨s, sI, sJ, gF, gM⟩ := RN_sg (ok.2.2.2.2.1 _ _ rl)
  refine sDo_mono (s_place11 (d := 10) (x := x) (v := v) (by omega) q0 hRc F gF) (fun r1 h1 q hH1 fr1 => ?_)
  obtain ⟨Rm, hRm⟩ := RA_of hH1 (p := 61) (Or.inr rfl)
  rcases q with ⟨K, hK, hx, k, rfl, rfl⟩ | ⟨k, rfl, rfl⟩
  · have F1 := FC_0 (I := upd c.1 (7 + K) v) (G := c.2.1) F
    have E1 : fE 5 h (h.set 5 (fO 5 (upd c.1 (7 + K) v) c.2.1)) := fE_set fE_rfl (by omega) (by omega)
    have km1 := kM_fE km E1
    refine sDo_mono (s_place12 (d := 10) (x := x) (v := v) (by omega) km1.1 hRm gM) (fun r2 h2 p hH2 fr2 => ?_)
    rcases p with ⟨K2, hK2, hx2, -, rfl, rfl⟩ | ⟨k2, -⟩
    · have eK : K2 = K := by omega
      subst eK
      have nc := kC_mE (kC_5 kc F1 E1) (mE_set (q := 60) (x := mO (upd m.1 (2 + K2) v)) mE_rfl (by decide))
      have M2 := MC_0 (f := upd m.1 (2 + K2) v) km1.1
      have g2 : (List.set (List.set h 5 (fO 5 (upd c.1 (7 + K2) v) c.2.1)) 60 (mO (upd m.1 (2 + K2) v)))[75]? = some (.inl (0, 180, .inl g)) := by rw [s_set_ne (by decide)]; exact km1.2
      rw [hx2] at k
      have rl2 := ok.2.2.2.2.2 _ _ s K2 v rl sI hK k
      obtain ⟨W', H', N', -, -, -, -, -, -, mk⟩ := ok.2.2.2.2.1 _ _ rl
      have ev : c.1 (7 + K2) = m.1 (2 + K2) := mk K2 hK
      refine ⟨⟨_, ck, _, g, ik, tf, nc, ⟨M2, g2⟩, (u_ne (by omega)).trans ej, rl2, rk⟩, _, rfl, ?_⟩
      exact congrArg (fun z => some (Value.int z)) ev.symm
    · exact absurd k k2
  · refine sDo_mono (s_place12 (d := 10) (x := x) (v := v) (by omega) (kM_43 km).1 hRm gM) (fun r2 h2 p hH2 fr2 => ?_)
    rcases p with ⟨-, -, -, k2, -⟩ | ⟨-, rfl, rfl⟩
    · exact absurd k2 k
    · exact ⟨⟨c, ck, m, g, ik, tf, kC_61 (kC_43 kc), kM_61 (kM_43 km), ej, rl, rk⟩, _, rfl, rfl⟩)
theorem pk_heir {Rel : CF → MF → Prop} (ok : relOk Rel) (x : Int32) : pairR (bFL Rel) 127 207 [.int x] := pr_mk (c1 := cn_X11_heir_0) (c2 := cn_X12_heir_0) ch_X11_heir_0 ch_X12_heir_0 (by decide +kernel) (by decide +kernel) (by decide +kernel) (by decide +kernel) rfl rfl (fun h hH => ⟨bt0 hH, vI0 x, trivial⟩) (fun h hH => ⟨bt60 hH, vI0 x, trivial⟩) (fun h hH hR => by
  obtain ⟨c, ck, m, g, ik, tf, kc, km, ej, rl, rk⟩ := hR
  have F := kc.1
  have q0 := kc.2.2.1
  obtain ⟨Rc, hRc⟩ := RA_of hH (p := 43) (Or.inl rfl)
  obtain ⟨s, sI, sJ, gF, gM⟩ := RN_sg (ok.2.2.2.2.1 _ _ rl)
  refine sDo_mono (s_heir11 (d := 10) (x := x) (N := s.2.2) (by omega) q0 hRc F sI.2.2.1 sI.2.2.2.2.2.2.2) (fun r1 h1 q hH1 fr1 => ?_)
  obtain ⟨Rm, hRm⟩ := RA_of hH1 (p := 61) (Or.inr rfl)
  rcases q with ⟨k, k1, rfl, F1, E1⟩ | ⟨k, k1, rfl, rfl⟩ | ⟨k, rfl, rfl⟩
  · have km1 := kM_fE km E1
    refine sDo_mono (s_heir12 (d := 10) (x := x) (N := s.2.2) (by omega) km1.1 hRm sJ.2.2.1 sJ.2.2.2.2.2.2.2) (fun r2 h2 p hH2 fr2 => ?_)
    rcases p with ⟨-, -, rfl, M2, E2⟩ | ⟨-, k2, -⟩ | ⟨k2, -⟩
    · obtain ⟨X, hX⟩ : ∃ X : Nat, x.toInt = X := ⟨x.toInt.toNat, by omega⟩
      have ex : x = Int32.ofNat X := Int32.toInt_inj.mp (by rw [hX, ofN_toInt (by omega)])
      have eN := ofN_toInt (n := s.2.2) (by omega)
      have e1 : (c.1 11).toNatClampNeg = s.2.2 := by rw [sI.2.2.1]; exact i_nat eN
      have e2 : (m.1 6).toNatClampNeg = s.2.2 := by rw [sJ.2.2.1]; exact i_nat eN
      have rl2 : Rel (cfHeir (c.1 11).toNatClampNeg (Int32.ofNat X) c) (mfHeir (m.1 6).toNatClampNeg (Int32.ofNat X) m) := ok.2.1 _ _ s (3, X, 0, 0) rl sI sJ ⟨by omega, by omega, k1⟩
      rw [e1, e2, ← ex] at rl2
      exact ⟨⟨_, ck, _, g, ik, tf, kC_mE (kC_5 kc F1 E1) E2, ⟨M2, (E2.2 75 (by decide) (by decide)).trans km1.2⟩, ej, rl2, rk⟩, _, rfl, rfl⟩
    · omega
    · exact absurd k k2
  · refine sDo_mono (s_heir12 (d := 10) (x := x) (N := s.2.2) (by omega) (kM_43 km).1 hRm sJ.2.2.1 sJ.2.2.2.2.2.2.2) (fun r2 h2 p hH2 fr2 => ?_)
    rcases p with ⟨-, k2, -⟩ | ⟨-, -, rfl, rfl⟩ | ⟨k2, -⟩
    · omega
    · exact ⟨⟨c, ck, m, g, ik, tf, kC_61 (kC_43 kc), kM_61 (kM_43 km), ej, rl, rk⟩, _, rfl, rfl⟩
    · exact absurd k k2
  · refine sDo_mono (s_heir12 (d := 10) (x := x) (N := s.2.2) (by omega) (kM_43 km).1 hRm sJ.2.2.1 sJ.2.2.2.2.2.2.2) (fun r2 h2 p hH2 fr2 => ?_)
    rcases p with ⟨k2, -⟩ | ⟨k2, -⟩ | ⟨-, rfl, rfl⟩
    · exact absurd k2 k
    · exact absurd k2 k
    · exact ⟨⟨c, ck, m, g, ik, tf, kC_61 (kC_43 kc), kM_61 (kM_43 km), ej, rl, rk⟩, _, rfl, rfl⟩)
theorem pk_image {Rel : CF → MF → Prop} (ok : relOk Rel) : pairR (bFL Rel) 154 254 [] := pr_mk (c1 := cn_X11_image_0) (c2 := cn_X12_image_0) ch_X11_image_0 ch_X12_image_0 (by decide +kernel) (by decide +kernel) (by decide +kernel) (by decide +kernel) rfl rfl (fun h hH => ⟨bt0 hH, trivial⟩) (fun h hH => ⟨bt60 hH, trivial⟩) (fun h hH hR => by
  obtain ⟨c, ck, m, g, ik, tf, kc, km, ej, rl, rk⟩ := hR
  have F := kc.1
  have q0 := kc.2.2.1
  obtain ⟨Rc, hRc⟩ := RA_of hH (p := 43) (Or.inl rfl)
  obtain ⟨s, sI, sJ, gF, gM⟩ := RN_sg (ok.2.2.2.2.1 _ _ rl)
  refine sDo_mono (s_image11 (d := 10) (by omega) q0 F kc.2.1 (fb_of hH F (Or.inl rfl))) (fun r1 h1 q hH1 fr1 => ?_)
  obtain ⟨rfl, F1, Fk1, z0, -, zq⟩ := q
  have km1 := kM_tr km (fun q x h1 _ hx => (zq q (by omega)).trans hx)
  refine sDo_mono (s_image12 km1.1 km1.2) (fun r2 h2 p hH2 fr2 => ?_)
  obtain ⟨rfl, M2, g2⟩ := p
  have nc : kC h1 c (cfBecome c ck) 1 tf := ⟨F1, Fk1, z0, fx_tr kc.2.2.2 (fun q x h1 h2 hx => (zq q (by omega)).trans hx)⟩
  have nc2 := kC_fr fr2 (by decide +kernel) (by decide +kernel) nc
  obtain ⟨W', H', N', -, -, c11, -, -, m6, -⟩ := ok.2.2.2.2.1 _ _ rl
  refine ⟨⟨c, _, _, _, 1, tf, nc2, ⟨M2, g2⟩, rfl, ok.1 _ m (upd m.1 37 (Int32.ofInt 1), m.2) rl ⟨fun j hj => u_ne (by omega), rfl⟩, fun _ m' => ok.2.2.2.1 _ m m' g (ok.2.2.1 c ck m rl)⟩, _, rfl, ?_⟩
  exact congrArg (fun z => some (Value.int z)) (m6.trans c11.symm))
theorem pk_restore {Rel : CF → MF → Prop} (ok : relOk Rel) : pairR (bFL Rel) 155 255 [] := pr_mk (c1 := cn_X11_restore_0) (c2 := cn_X12_restore_0) ch_X11_restore_0 ch_X12_restore_0 (by decide +kernel) (by decide +kernel) (by decide +kernel) (by decide +kernel) rfl rfl (fun h hH => ⟨bt0 hH, trivial⟩) (fun h hH => ⟨bt60 hH, trivial⟩) (fun h hH hR => by
  obtain ⟨c, ck, m, g, ik, tf, kc, km, ej, rl, rk⟩ := hR
  have F := kc.1
  have q0 := kc.2.2.1
  obtain ⟨Rc, hRc⟩ := RA_of hH (p := 43) (Or.inl rfl)
  obtain ⟨s, sI, sJ, gF, gM⟩ := RN_sg (ok.2.2.2.2.1 _ _ rl)
  refine sDo_mono (s_restore11 (d := 10) (by omega) q0 hRc F kc.2.1 (fb_of hH kc.2.1 (Or.inr rfl))) (fun r1 h1 q hH1 fr1 => ?_)
  rcases q with ⟨k, rfl, F1, E1⟩ | ⟨k, rfl, rfl⟩
  · have km1 := kM_fE km E1
    refine sDo_mono (s_restore12 hH1 km1.1 km1.2) (fun r2 h2 p hH2 fr2 => ?_)
    rcases p with ⟨k2, -⟩ | ⟨-, rfl, M2, g2⟩
    · exact absurd (ej.symm.trans k2) k
    · have nc := kC_fr fr2 (by decide +kernel) (by decide +kernel) (kC_5 kc F1 E1)
      have rl2 := ok.2.2.1 ck c _ (rk k m)
      obtain ⟨W', H', N', -, -, c11, -, -, m6, -⟩ := ok.2.2.2.2.1 _ _ (rk k m)
      refine ⟨⟨_, ck, _, g, ik, tf, nc, ⟨M2, g2⟩, ej, rl2, rk⟩, _, rfl, ?_⟩
      exact congrArg (fun z => some (Value.int z)) (show g 174 = ck.1 11 from m6.trans c11.symm)
  · have km1 := kM_43 (c := rFc (bump Rc 6)) km
    refine sDo_mono (s_restore12 hH1 km1.1 km1.2) (fun r2 h2 p hH2 fr2 => ?_)
    rcases p with ⟨-, rfl, M2, g2⟩ | ⟨k2, -⟩
    · exact ⟨⟨c, ck, m, g, ik, tf, kC_fr fr2 (by decide +kernel) (by decide +kernel) (kC_43 kc), ⟨M2, g2⟩, ej, rl, rk⟩, _, rfl, rfl⟩
    · exact absurd (ej.trans k) k2)
end
section
theorem pk_field {Rel : CF → MF → Prop} (ok : relOk Rel) (x : Int32) : pairR (fun h => bR5 h ∧ bFL Rel h) 122 202 [.int x] := pr_mk (c1 := cn_X11_field_0) (c2 := cn_X12_field_0) ch_X11_field_0 ch_X12_field_0 (by decide +kernel) (by decide +kernel) (by decide +kernel) (by decide +kernel) rfl rfl (fun h hH => ⟨bt0 hH, vI0 x, trivial⟩) (fun h hH => ⟨bt60 hH, vI0 x, trivial⟩) (fun h hH hRR => by
  obtain ⟨hR5, hR⟩ := hRR
  obtain ⟨c, ck, m, g, ik, tf, kc, km, ej, rl, rk⟩ := hR
  have F := kc.1
  have q0 := kc.2.2.1
  obtain ⟨Rc, hRc⟩ := RA_of hH (p := 43) (Or.inl rfl)
  obtain ⟨s, sI, sJ, gF, gM⟩ := RN_sg (ok.2.2.2.2.1 _ _ rl)
  obtain ⟨cd, Fd, -⟩ := FC_at27 hH kc.2.2.2
  have fb := fb_of hH F (Or.inl rfl)
  obtain ⟨hd, ro, sz, co, cl, f, gg, q4, bs⟩ := id hR5
  have q4' := q4
  obtain ⟨a1, a2, a3, a4, a5, a6, a7, a8⟩ := q4'
  have l79 := hH.1
  -- refused on both sides
  have refd : ∀ (b : Int32) (B : Nat), b.toInt = -(B : Int) → (1 ≤ B ∧ B ≤ 7) → sDo 9 161 [.ref 0, .int x] h (fun r h' => h' = h ∧ r = some (.int b)) → (((0 ≤ x.toInt ∧ x.toInt < 8) ∧ wtS hd x.toInt.toNat 1 = b) ∨ (¬ (0 ≤ x.toInt ∧ x.toInt < 8) ∧ b = -1)) → sDo 10 cn_X11_field_0.1 (.ref 0 :: [.int x]) h (fun r1 h1 => bH h1 → bFr cn_X11_field_0.2.2.2.2.1 cn_X11_field_0.2.2.2.2.2.1 h h1 → sDo 10 cn_X12_field_0.1 (.ref 60 :: [.int x]) h1 (fun r2 h2 => bH h2 → bFr cn_X12_field_0.2.2.2.2.1 cn_X12_field_0.2.2.2.2.2.1 h1 h2 → (bR5 h2 ∧ bFL Rel h2) ∧ ∃ x, r1 = some x ∧ r2 = some x)) := by
    intro b B hb hB hno hx
    refine sDo_mono (s_field11n (d := 10) (by omega) q0 hRc hb hB hno) (fun r1 h1 q hH1 fr1 => ?_)
    obtain ⟨rfl, rfl⟩ := q
    obtain ⟨Rm, hRm⟩ := RA_of hH1 (p := 61) (Or.inr rfl)
    refine sDo_mono (s_field12n (d := 10) (by omega) (kM_43 km).1.1 hRm (by rw [s_set_ne (by decide)]; exact a4) hb hB hx) (fun r2 h2 p hH2 fr2 => ?_)
    obtain ⟨rfl, rfl⟩ := p
    exact ⟨⟨bR5_fr fr2 (by decide +kernel) (bR5_43 hR5), c, ck, m, g, ik, tf, kC_61 (kC_43 kc), kM_61 (kM_43 km), ej, rl, rk⟩, _, rfl, rfl⟩
  by_cases hS : 0 ≤ x.toInt ∧ x.toInt < 8
  · obtain ⟨S, hx⟩ : ∃ S : Nat, x.toInt = S := ⟨x.toInt.toNat, by omega⟩
    obtain ⟨ot, z, el, b1, b2, b3⟩ := bs S (by omega)
    have hno := s_noIn (d := 7) (el := el) hH q4 hx (by omega) b1 b3
    have row : hd S = 1 ∨ (hd S = 0 ∨ hd S = 2) := by
      rcases b3 with ⟨e, -⟩ | ⟨e, -⟩ | ⟨e, -⟩
      · exact Or.inr (Or.inl e)
      · exact Or.inl e
      · exact Or.inr (Or.inr e)
    rcases row with h1 | h1
    · -- a row
      rcases b3 with ⟨e, -⟩ | ⟨-, -, eo, o0, o3, ez, z0, z100, eel⟩ | ⟨e, -⟩
      · rw [h1] at e; exact absurd e (by decide)
      · obtain ⟨n, hn⟩ : ∃ n : Nat, z.toInt = n := ⟨z.toInt.toNat, by omega⟩
        have hz : z = Int32.ofNat n := Int32.toInt_inj.mp (by rw [hn, ofN_toInt (by omega)])
        have hno0 : sDo 9 161 [.ref 0, .int x] h (fun r h' => h' = h ∧ r = some (.int 0)) := sDo_mono hno (fun r h' q => ⟨q.1, by rw [q.2]; unfold nrOf; rw [if_pos h1]⟩)
        have sI2 : sgI (cfBecome c cd) s := ⟨(bc_I c.1 cd.1 0 (by decide)).trans sI.1, (bc_I c.1 cd.1 1 (by decide)).trans sI.2.1, (bc_I c.1 cd.1 11 (by decide)).trans sI.2.2.1, sI.2.2.2⟩
        have RT1 : RT cl S n (tx el n) := ⟨by omega, by omega, fun i hi => by
            unfold tx
            rw [if_pos hi, eel i (by omega)], fun i hi => if_neg (by omega)⟩
        rw [hz] at b1
        refine sDo_mono (s_field11 (d := 10) (S := S) (n := n) (by omega) l79 q0 hRc F Fd fb (fun as => fb_dos (fb_bc (a := c) fb) as) (by omega) (by omega) hx a1 (a2 S (by omega)) b1 b2 sI2 hno0) (fun r1 h1' q hH1 fr1 => ?_)
        have hE : ∃ lo, (lo = 5 ∨ lo = 16) ∧ fdE h h1' lo := by
          unfold qF11 at q
          split at q
          · exact ⟨5, Or.inl rfl, q.2.2.2⟩
          · exact ⟨16, Or.inr rfl, q.2.2⟩
        obtain ⟨lo, hlo, E⟩ := hE
        have at_ : ∀ {p : Nat} {x : va_E}, h[p]? = some x → 43 < p → h1'[p]? = some x := fun hx hp => fdE_at E hx (by omega) (by omega) (by omega) (by omega)
        have km1 : kM h1' m g := kM_tr km (fun q x h1 _ hx => at_ hx (by omega))
        have M := km1.1
        obtain ⟨Rm, hRm⟩ := RA_of hH1 (p := 61) (Or.inr rfl)
        obtain ⟨gw, hgw, -, -⟩ := bA60 hH1 (p := 74) (by decide) rfl
        obtain ⟨wd, w0, WW⟩ := WD_of hH1
        have x27' := fxR_fr fr1 (Or.inr (Or.inr rfl)) (by decide +kernel) kc.2.2.2
        refine sDo_mono (s_field12 (d := 10) (S := S) (n := n) (by omega) M hRm hgw w0 WW (at_ a4 (by decide)) (at_ a6 (by decide)) (at_ a8 (by decide)) (by omega) hx h1 (by rw [← ez, hz]) RT1 sJ) (fun r2 h2 p hH2 fr2 => ?_)
        have R2 := bR5_fr fr2 (by decide +kernel) (bR5_fr fr1 (by decide +kernel) hR5)
        cases hi : itsS (tx el n) n 101 s 0 with
        | none =>
          rw [hi] at q p
          obtain ⟨rfl, ⟨tf2, z0'⟩, E1⟩ := q
          obtain ⟨rfl, ⟨m0, g0, m2, M2, mq⟩, E2⟩ := p
          have nc : kC h1' c ck ik tf2 := ⟨FC_tr F (fun q x h1 h2 hx => fdE_at E1 hx (by omega) (by omega) (by omega) (by omega)), FC_tr kc.2.1 (fun q x h1 h2 hx => fdE_at E1 hx (by omega) (by omega) (by omega) (by omega)), z0', x27'⟩
          have rl2 : Rel c m2 := ok.1 _ _ _ (ok.2.2.2.1 _ _ m0 g0 rl) mq
          exact ⟨⟨R2, c, ck, m2, g, ik, tf2, kC_fr fr2 (by decide +kernel) (by decide +kernel) nc, ⟨M2, (E2.2 75 (by decide) (by decide) (by decide)).trans km1.2⟩, (iso37 fr2 M.1 M2.1 (by decide +kernel)).trans ej, rl2, rk⟩, _, rfl, rfl⟩
        | some kb =>
          obtain ⟨k, as⟩ := kb
          rw [hi] at q p
          obtain ⟨rfl, F1, z0', E1⟩ := q
          obtain ⟨rfl, ⟨m2, M2, mq⟩, E2⟩ := p
          have okA := (its_ok hi sI2).1
          have rl1 : Rel (cfBecome c cd) m := ok.2.2.1 _ _ _ rl
          have rl2 := ok.2.2.1 _ c _ (rel_dos ok rl1 sI2 sJ okA)
          have rl3 := ok.1 _ _ _ rl2 mq
          have nc : kC h1' (cfBecome (as.foldl cfDo (cfBecome c cd)) c) ck ik (-1) := ⟨F1, FC_tr kc.2.1 (fun q x h1 h2 hx => fdE_at E1 hx (by omega) (by omega) (by omega) (by omega)), z0', x27'⟩
          exact ⟨⟨R2, _, ck, m2, g, ik, -1, kC_fr fr2 (by decide +kernel) (by decide +kernel) nc, ⟨M2, (E2.2 75 (by decide) (by decide) (by decide)).trans km1.2⟩, (iso37 fr2 M.1 M2.1 (by decide +kernel)).trans ej, rl3, rk⟩, _, rfl, rfl⟩
      · rw [h1] at e; exact absurd e (by decide)
    · obtain ⟨B, hB, eB, ew⟩ := nr_b h1
      exact refd _ B eB hB hno (Or.inl ⟨hS, by rw [show x.toInt.toNat = S by omega]; exact ew⟩)
  · exact refd (-1) 1 (by decide) (by decide) (s_noOut (d := 7) hS) (Or.inr ⟨hS, rfl⟩))
end
section
/-! ===== soils, shares, worths, FOND alike ===== -/
def RSs (s : Sg) (c : CF) (m : MF) : Prop := (∀ v, v < 6 → c.2.2.1 v = stO (fun q => decide (m.2.1 q = Int32.ofNat v)) (s.1 * s.2.1)) ∧ (∀ q, q < s.1 * s.2.1 → ∃ v, v < 6 ∧ m.2.1 q = Int32.ofNat v) ∧ (∀ k, k < s.2.2 → c.2.2.2.1 k = m.2.2.2.1 k ∧ c.2.2.2.2.2.1 k = m.2.2.2.2.1 k) ∧ (∀ k, k < s.2.2 → ∀ v, v < 6 → c.2.2.2.2.1 k v = m.2.2.2.2.2 (6 * k + v)) ∧ ∀ k, k < s.2.2 → (∃ n, 1 ≤ n ∧ n ≤ 9 ∧ m.2.2.2.1 k = Int32.ofNat n) ∧ (m.2.2.2.2.1 k = 0 ∨ m.2.2.2.2.1 k = 1) ∧ ∀ v, v < 6 → ∃ n, n < 100 ∧ m.2.2.2.2.2 (6 * k + v) = Int32.ofNat n
/-- the places may stand -/
def RPs (s : Sg) (J : Nat → Int32) : Prop := ∀ k : Nat, k ≤ 3 → okPl (s.1 * s.2.1) (k : Int) (J (2 + k)).toInt
def RB (c : CF) (m : MF) : Prop := RN c m ∧ ∀ s : Sg, sgI c s → RSs s c m ∧ RPs s m.1
theorem ofN_inj {a b : Nat} (ha : a < 1000) (hb : b < 1000) (h : Int32.ofNat a = Int32.ofNat b) : a = b := by
  have h2 := congrArg Int32.toInt h
  rw [ofN_toInt (by omega), ofN_toInt (by omega)] at h2
  omega
theorem sgI_inj {c : CF} {s s' : Sg} (a : sgI c s) (b : sgI c s') : s = s' := by
  obtain ⟨x, y, z⟩ := s
  obtain ⟨x', y', z'⟩ := s'
  obtain ⟨a1, a2, a3, a4, a5, a6, a7, a8⟩ := a
  obtain ⟨b1, b2, b3, b4, b5, b6, b7, b8⟩ := b
  have a5 : x ≤ 8 := a5
  have a7 : y ≤ 8 := a7
  have a8 : z ≤ 5 := a8
  have b5 : x' ≤ 8 := b5
  have b7 : y' ≤ 8 := b7
  have b8 : z' ≤ 5 := b8
  have e1 : x = x' := ofN_inj (show x < 1000 by omega) (show x' < 1000 by omega) (a1.symm.trans b1)
  have e2 : y = y' := ofN_inj (show y < 1000 by omega) (show y' < 1000 by omega) (a2.symm.trans b2)
  have e3 : z = z' := ofN_inj (show z < 1000 by omega) (show z' < 1000 by omega) (a3.symm.trans b3)
  rw [e1, e2, e3]
theorem RB_s {c : CF} {m : MF} {s : Sg} (r : RB c m) (q : sgI c s) : RSs s c m := (r.2 s q).1
theorem RB_mk {c : CF} {m : MF} {s : Sg} (a : RN c m) (q : sgI c s) (b : RSs s c m) (b2 : RPs s m.1) : RB c m := ⟨a, fun s' q' => by rw [← sgI_inj q q']; exact ⟨b, b2⟩⟩
theorem RPs_J {s : Sg} {J J' : Nat → Int32} (r : RPs s J) (e : ∀ j, j < 7 → J' j = J j) : RPs s J' := fun k hk => by rw [e (2 + k) (by omega)]; exact r k hk
theorem okPl_n {n n' : Nat} {k : Nat} {v : Int} (h : okPl n k v) (hk : k = 0 ∨ k = 3) : okPl n' k v := by
  unfold okPl at h ⊢
  omega
theorem RSs_c {s : Sg} {c c' : CF} {m m' : MF} (r : RSs s c m) (e : c'.2.2 = c.2.2) (e' : m'.2 = m.2) : RSs s c' m' := by
  obtain ⟨I, G, R⟩ := c
  obtain ⟨I', G', R'⟩ := c'
  obtain ⟨J, T⟩ := m
  obtain ⟨J', T'⟩ := m'
  have e : R' = R := e
  have e' : T' = T := e'
  subst e e'
  exact r
theorem RN_sgI {c : CF} {m : MF} (r : RN c m) : ∃ s : Sg, sgI c s ∧ sgJ m.1 s := by
  obtain ⟨s, a, b, -⟩ := RN_sg r
  exact ⟨s, a, b⟩
theorem stO_ext {P Q : Nat → Bool} {n : Nat} (hn : n ≤ 64) (h : ∀ q, q < n → P q = Q q) : stO P n = stO Q n := bt_ext (fun i hi => by
  rw [bt_stO _ _ hn, bt_stO _ _ hn]
  by_cases z : i < n
  · rw [h i z]
  · rw [decide_eq_false z, Bool.false_and, Bool.false_and])
theorem stO_no {P : Nat → Bool} {n : Nat} (hn : n ≤ 64) (h : ∀ q, q < n → P q = false) : stO P n = Int64.ofNat 0 := bt_ext (fun i hi => by
  rw [bt_stO _ _ hn, bt_0]
  by_cases z : i < n
  · rw [h i z, Bool.and_false]
  · rw [decide_eq_false z, Bool.false_and])
theorem svF_so (m : MF) (g : Nat → Int32) {q : Nat} (hq : q < 64) : svF m g q = m.2.1 q := by
  unfold svF
  rw [gS7_ne (by omega), gS_A hq]
theorem svF_sh (m : MF) (g : Nat → Int32) {q : Nat} (hq : q < 5) : svF m g (128 + q) = m.2.2.2.1 q := by
  unfold svF
  rw [gS7_ne (by omega), gS_C hq]
theorem svF_fo (m : MF) (g : Nat → Int32) {q : Nat} (hq : q < 5) : svF m g (133 + q) = m.2.2.2.2.1 q := by
  unfold svF
  rw [gS7_ne (by omega)]
  unfold gS ks
  rw [if_neg (by omega), if_pos (by omega)]
  exact congrArg _ (by omega)
theorem svF_va (m : MF) (g : Nat → Int32) {q : Nat} (hq : q < 30) : svF m g (138 + q) = m.2.2.2.2.2 q := by
  unfold svF
  rw [gS7_ne (by omega)]
  unfold gS ks
  rw [if_pos (by omega)]
  exact congrArg _ (by omega)
theorem RSs_back {s : Sg} {c : CF} {m : MF} (h1 : s.1 * s.2.1 ≤ 64) (hN : s.2.2 ≤ 5) (r : RSs s c m) (m' : MF) (g : Nat → Int32) : RSs s c (mfBack m' (svF m g)) := by
  obtain ⟨r1, r2, r3, r4, r5⟩ := r
  have eH : ∀ k, k < 5 → (mfBack m' (svF m g)).2.2.2.1 k = m.2.2.2.1 k := fun k hk => by
    show kb m'.2.2.2.1 (svF m g) 128 5 k = _
    unfold kb
    rw [if_pos (by omega), svF_sh m g (by omega)]
  have eF : ∀ k, k < 5 → (mfBack m' (svF m g)).2.2.2.2.1 k = m.2.2.2.2.1 k := fun k hk => by
    show kb m'.2.2.2.2.1 (svF m g) 133 5 k = _
    unfold kb
    rw [if_pos (by omega), svF_fo m g (by omega)]
  have eV : ∀ j, j < 30 → (mfBack m' (svF m g)).2.2.2.2.2 j = m.2.2.2.2.2 j := fun j hj => by
    show kb m'.2.2.2.2.2 (svF m g) 138 30 j = _
    unfold kb
    rw [if_pos (by omega), svF_va m g (by omega)]
  have eS : ∀ q, q < 64 → (mfBack m' (svF m g)).2.1 q = m.2.1 q := fun q hq => by
    show kb m'.2.1 (svF m g) 0 64 q = _
    unfold kb
    rw [if_pos hq, Nat.zero_add, svF_so m g hq]
  refine ⟨fun v hv => (r1 v hv).trans (stO_ext h1 (fun q hq => by rw [eS q (by omega)])), fun q hq => by rw [eS q (by omega)]; exact r2 q hq, fun k hk => ?_, fun k hk v hv => ?_, fun k hk => ⟨?_, ?_, fun v hv => ?_⟩⟩
  · rw [eH k (by omega), eF k (by omega)]; exact r3 k hk
  · rw [eV (6 * k + v) (by omega)]; exact r4 k hk v hv
  · rw [eH k (by omega)]; exact (r5 k hk).1
  · rw [eF k (by omega)]; exact (r5 k hk).2.1
  · rw [eV (6 * k + v) (by omega)]; exact (r5 k hk).2.2 v hv
theorem RSs_bec {s : Sg} {a b : CF} {m : MF} (hN : s.2.2 ≤ 5) (r : RSs s a m) : RSs s (cfBecome a b) m := by
  obtain ⟨r1, r2, r3, r4, r5⟩ := r
  refine ⟨fun v hv => ?_, r2, fun k hk => ?_, fun k hk v hv => ?_, r5⟩
  · exact (show cpL a.2.2.1 b.2.2.1 6 v = a.2.2.1 v from if_pos hv).trans (r1 v hv)
  · exact ⟨(show cpI a.2.2.2.1 b.2.2.2.1 5 k = a.2.2.2.1 k from if_pos (by omega)).trans (r3 k hk).1, (show cpI a.2.2.2.2.2.1 b.2.2.2.2.2.1 5 k = a.2.2.2.2.2.1 k from if_pos (by omega)).trans (r3 k hk).2⟩
  · refine (show bcW a.2.2.2.2.1 b.2.2.2.2.1 5 k v = a.2.2.2.2.1 k v from ?_).trans (r4 k hk v hv)
    unfold bcW
    rw [if_pos (show k < 5 by omega)]
    exact if_pos hv
/-- a set goes over to one soil -/
theorem RSs_lay {s : Sg} {c : CF} {m : MF} {v : Nat} {set : Int64} {P : Nat → Bool} {so' : Nat → Int32} (h1 : s.1 * s.2.1 ≤ 64) (hv : v < 6) (hs : set = stO P (s.1 * s.2.1)) (e : ∀ q, q < s.1 * s.2.1 → so' q = if P q = true then Int32.ofNat v else m.2.1 q) (r : RSs s c m) : RSs s (c.1, c.2.1, giveS c.2.2.1 6 set v, c.2.2.2) (m.1, so', m.2.2) := by
  obtain ⟨r1, r2, r3, r4, r5⟩ := r
  refine ⟨fun u hu => ?_, fun q hq => ?_, r3, r4, r5⟩
  · show giveS c.2.2.1 6 set v u = stO (fun q => decide (so' q = Int32.ofNat u)) (s.1 * s.2.1)
    have gu : ∀ u, u < 6 → gvF c.2.2.1 set 6 u = c.2.2.1 u &&& (set ^^^ lM1) := fun u hu => if_pos hu
    refine bt_ext (fun i hi => ?_)
    rw [bt_stO _ _ h1]
    by_cases z : i < s.1 * s.2.1
    · rw [decide_eq_true z, Bool.true_and, e i z]
      have k1 : bt (c.2.2.1 u) i = decide (m.2.1 i = Int32.ofNat u) := by rw [r1 u hu, bt_stO _ _ h1, decide_eq_true z, Bool.true_and]
      have k2 : bt set i = P i := by rw [hs, bt_stO _ _ h1, decide_eq_true z, Bool.true_and]
      by_cases w : u = v
      · subst w
        rw [show giveS c.2.2.1 6 set u u = gvF c.2.2.1 set 6 u ||| set from if_pos rfl, gu u hu, bt_or, bt_and, bt_not, k1, k2, decide_eq_true hi, Bool.true_and]
        cases hp : P i
        · rw [if_neg (by decide), Bool.not_false, Bool.and_true, Bool.or_false]
        · rw [if_pos rfl, Bool.or_true, decide_eq_true rfl]
      · rw [show giveS c.2.2.1 6 set v u = gvF c.2.2.1 set 6 u from if_neg w, gu u hu, bt_and, bt_not, k1, k2, decide_eq_true hi, Bool.true_and]
        cases hp : P i
        · rw [if_neg (by decide), Bool.not_false, Bool.and_true]
        · rw [if_pos rfl, Bool.not_true, Bool.and_false]
          exact (decide_eq_false (fun y => w (ofN_inj (by omega) (by omega) y).symm)).symm
    · rw [decide_eq_false z, Bool.false_and]
      have k1 : bt (c.2.2.1 u) i = false := by rw [r1 u hu, bt_stO _ _ h1, decide_eq_false z, Bool.false_and]
      have k2 : bt set i = false := by rw [hs, bt_stO _ _ h1, decide_eq_false z, Bool.false_and]
      by_cases w : u = v
      · subst w
        rw [show giveS c.2.2.1 6 set u u = gvF c.2.2.1 set 6 u ||| set from if_pos rfl, gu u hu, bt_or, bt_and, k1, k2]
        rfl
      · rw [show giveS c.2.2.1 6 set v u = gvF c.2.2.1 set 6 u from if_neg w, gu u hu, bt_and, k1]
        rfl
  · show ∃ v, v < 6 ∧ so' q = Int32.ofNat v
    rw [e q hq]
    cases hp : P q
    · rw [if_neg (by decide)]; exact r2 q hq
    · rw [if_pos rfl]; exact ⟨v, hv, rfl⟩
theorem bt_low2 {n i : Nat} (hn : n < 1000) (hi : i < 64) : bt (lowS (Int32.ofNat n)) i = decide (i < n) := by
  rw [bt_low hi, ofN_toInt (by omega)]
  exact decide_eq_decide.mpr (by omega)
theorem RSs_do {s : Sg} {c : CF} {m : MF} {a : Act} (g : gdF c s.1 s.2.1) (q : sgI c s) (p : sgJ m.1 s) (k : actOk s a) (r : RSs s c m) : RSs (sgDo s a) (cfDo c a) (mfDo m a) := by
  have hn := gdF_n g
  obtain ⟨i, x, y, z⟩ := a
  match i, k with
  | 0, k =>
    obtain ⟨r1, r2, r3, r4, r5⟩ := r
    have k : 2 ≤ x ∧ x ≤ 8 ∧ 2 ≤ y ∧ y ≤ 8 := k
    have g2 := (gdF_size (c := c) k.1 k.2.1 k.2.2.1 k.2.2.2)
    have n2 := gdF_n g2
    have lw : lowS (Int32.ofNat x * Int32.ofNat y) = stO (fun _ => true) (x * y) := g2.2.2.2.2.2.2.1
    refine ⟨fun v hv => ?_, fun q hq => ⟨0, by decide, (show fillF (Int32.ofInt 0) m.2.1 64 q = _ from if_pos (by have hq : q < x * y := hq; omega))⟩, r3, r4, r5⟩
    show vp_updL (zrF c.2.2.1 6) 0 (lowS (Int32.ofNat x * Int32.ofNat y)) v = stO (fun q => decide (fillF (Int32.ofInt 0) m.2.1 64 q = Int32.ofNat v)) (x * y)
    have e0 : ∀ q, q < x * y → fillF (Int32.ofInt 0) m.2.1 64 q = Int32.ofNat 0 := fun q hq => if_pos (by omega)
    by_cases w : v = 0
    · subst w
      rw [show vp_updL (zrF c.2.2.1 6) 0 (lowS (Int32.ofNat x * Int32.ofNat y)) 0 = _ from if_pos rfl, lw]
      exact stO_ext n2.1 (fun q hq => by rw [e0 q hq, decide_eq_true rfl])
    · rw [show vp_updL (zrF c.2.2.1 6) 0 (lowS (Int32.ofNat x * Int32.ofNat y)) v = zrF c.2.2.1 6 v from if_neg w, show zrF c.2.2.1 6 v = Int64.ofNat 0 from if_pos hv]
      exact (stO_no n2.1 (fun q hq => by rw [e0 q hq]; exact decide_eq_false (fun z => w (ofN_inj (by omega) (by omega) z).symm))).symm
  | 1, k =>
    have k : x < 6 ∧ y ≤ z ∧ z < s.1 * s.2.1 := k
    have g2 : c.2.1 2 = stO (fun _ => true) (s.1 * s.2.1) := g.2.2.2.2.2.2.1
    show RSs s (c.1, c.2.1, giveS c.2.2.1 6 ((lowS (Int32.ofNat (z + 1)) &&& c.2.1 2) &&& ((lowS (Int32.ofNat y) &&& c.2.1 2) ^^^ Int64.ofNat 18446744073709551615)) x, c.2.2.2) (m.1, (fun i => if y ≤ i ∧ i ≤ z then Int32.ofNat x else m.2.1 i), m.2.2)
    refine RSs_lay (s := s) (P := fun q => decide (y ≤ q ∧ q ≤ z)) hn.1 k.1 (bt_ext (fun i hi => ?_)) (fun q hq => ?_) r
    · show bt ((lowS (Int32.ofNat (z + 1)) &&& c.2.1 2) &&& ((lowS (Int32.ofNat y) &&& c.2.1 2) ^^^ lM1)) i = _
      rw [bt_and, bt_and, bt_not, bt_and, g2, bt_stO _ _ hn.1, bt_stO _ _ hn.1, bt_low2 (by omega) hi, bt_low2 (by omega) hi, decide_eq_true hi, Bool.true_and, Bool.and_true]
      by_cases w : i < s.1 * s.2.1
      · rw [decide_eq_true w, Bool.true_and, Bool.and_true, Bool.and_true]
        by_cases w1 : i < z + 1
        · by_cases w2 : i < y
          · rw [decide_eq_true w1, decide_eq_true w2, decide_eq_false (show ¬ (y ≤ i ∧ i ≤ z) by omega)]; rfl
          · rw [decide_eq_true w1, decide_eq_false w2, decide_eq_true (show y ≤ i ∧ i ≤ z by omega)]; rfl
        · rw [decide_eq_false w1, decide_eq_false (show ¬ (y ≤ i ∧ i ≤ z) by omega)]; rfl
      · rw [decide_eq_false w, Bool.and_false, Bool.false_and, Bool.false_and]
    · show (if y ≤ q ∧ q ≤ z then Int32.ofNat x else m.2.1 q) = _
      by_cases w : y ≤ q ∧ q ≤ z
      · rw [if_pos w, if_pos (decide_eq_true w)]
      · rw [if_neg w, if_neg (by rw [decide_eq_false w]; decide)]
  | 2, k => exact r
  | 3, k =>
    have k3 : s.2.2 < 5 := k.2.2
    have eN := ofN_toInt (n := s.2.2) (by omega)
    have e1 : (c.1 11).toNatClampNeg = s.2.2 := by rw [q.2.2.1]; exact i_nat eN
    have e2 : (m.1 6).toNatClampNeg = s.2.2 := by rw [p.2.2.1]; exact i_nat eN
    show RSs (s.1, s.2.1, s.2.2 + 1) (cfHeir (c.1 11).toNatClampNeg (Int32.ofNat x) c) (mfHeir (m.1 6).toNatClampNeg (Int32.ofNat x) m)
    rw [e1, e2]
    obtain ⟨r1, r2, r3, r4, r5⟩ := r
    have kx : 1 ≤ x ∧ x ≤ 9 := ⟨k.1, k.2.1⟩
    refine ⟨r1, r2, fun k hk => ?_, fun k hk v hv => ?_, fun k hk => ⟨?_, ?_, fun v hv => ?_⟩⟩
    · have hk : k < s.2.2 + 1 := hk
      show upd c.2.2.2.1 s.2.2 (Int32.ofNat x) k = upd m.2.2.2.1 s.2.2 (Int32.ofNat x) k ∧ upd c.2.2.2.2.2.1 s.2.2 0 k = upd m.2.2.2.2.1 s.2.2 (Int32.ofInt 0) k
      by_cases w : k = s.2.2
      · rw [w, u_at, u_at, u_at, u_at]; exact ⟨rfl, rfl⟩
      · rw [u_ne w, u_ne w, u_ne w, u_ne w]; exact r3 k (by omega)
    · have hk : k < s.2.2 + 1 := hk
      show (if k = s.2.2 then tenF (c.2.2.2.2.1 s.2.2) 6 else c.2.2.2.2.1 k) v = tenV m.2.2.2.2.2 s.2.2 6 (6 * k + v)
      unfold tenV
      by_cases w : k = s.2.2
      · rw [if_pos w, if_pos (show 6 * s.2.2 ≤ 6 * k + v ∧ 6 * k + v < 6 * s.2.2 + 6 by omega)]
        exact if_pos hv
      · rw [if_neg w, if_neg (show ¬ (6 * s.2.2 ≤ 6 * k + v ∧ 6 * k + v < 6 * s.2.2 + 6) by omega)]
        exact r4 k (by omega) v hv
    · have hk : k < s.2.2 + 1 := hk
      show ∃ n, 1 ≤ n ∧ n ≤ 9 ∧ upd m.2.2.2.1 s.2.2 (Int32.ofNat x) k = Int32.ofNat n
      by_cases w : k = s.2.2
      · rw [w, u_at]; exact ⟨x, kx.1, kx.2, rfl⟩
      · rw [u_ne w]; exact (r5 k (by omega)).1
    · have hk : k < s.2.2 + 1 := hk
      show upd m.2.2.2.2.1 s.2.2 (Int32.ofInt 0) k = 0 ∨ upd m.2.2.2.2.1 s.2.2 (Int32.ofInt 0) k = 1
      by_cases w : k = s.2.2
      · rw [w, u_at]; exact Or.inl rfl
      · rw [u_ne w]; exact (r5 k (by omega)).2.1
    · have hk : k < s.2.2 + 1 := hk
      show ∃ n, n < 100 ∧ tenV m.2.2.2.2.2 s.2.2 6 (6 * k + v) = Int32.ofNat n
      unfold tenV
      by_cases w : k = s.2.2
      · rw [if_pos (show 6 * s.2.2 ≤ 6 * k + v ∧ 6 * k + v < 6 * s.2.2 + 6 by omega)]; exact ⟨10, by decide, rfl⟩
      · rw [if_neg (show ¬ (6 * s.2.2 ≤ 6 * k + v ∧ 6 * k + v < 6 * s.2.2 + 6) by omega)]; exact (r5 k (by omega)).2.2 v hv
  | i + 4, k =>
    have k : x < s.2.2 ∧ y < 6 ∧ z < 100 := k
    obtain ⟨r1, r2, r3, r4, r5⟩ := r
    refine ⟨r1, r2, r3, fun k' hk v hv => ?_, fun k' hk => ⟨(r5 k' hk).1, (r5 k' hk).2.1, fun v hv => ?_⟩⟩
    rotate_left
    · show ∃ n, n < 100 ∧ upd m.2.2.2.2.2 (6 * x + y) (Int32.ofNat z) (6 * k' + v) = Int32.ofNat n
      by_cases w : 6 * k' + v = 6 * x + y
      · rw [w, u_at]; exact ⟨z, k.2.2, rfl⟩
      · rw [u_ne w]; exact (r5 k' hk).2.2 v hv
    have hk : k' < s.2.2 := hk
    show (if k' = x then upd (c.2.2.2.2.1 x) y (Int32.ofNat z) else c.2.2.2.2.1 k') v = upd m.2.2.2.2.2 (6 * x + y) (Int32.ofNat z) (6 * k' + v)
    by_cases w : k' = x
    · subst w
      rw [if_pos rfl]
      by_cases w2 : v = y
      · rw [w2, u_at, u_at]
      · rw [u_ne w2, u_ne (by omega)]; exact r4 k' hk v hv
    · rw [if_neg w, u_ne (by omega)]; exact r4 k' hk v hv
theorem RPs_do {s : Sg} {m : MF} {a : Act} (k : actOk s a) (r : RPs s m.1) : RPs (sgDo s a) (mfDo m a).1 := by
  obtain ⟨i, x, y, z⟩ := a
  match i, k with
  | 0, k =>
    intro j hj
    show okPl (x * y) (j : Int) (szJ (Int32.ofNat x) (Int32.ofNat y) m.1 (2 + j)).toInt
    rcases (show j = 0 ∨ j = 1 ∨ j = 2 ∨ j = 3 by omega) with rfl | rfl | rfl | rfl
    · exact okPl_n (r 0 hj) (Or.inl rfl)
    · exact Or.inr (Or.inl ⟨Or.inl rfl, Or.inl rfl⟩)
    · exact Or.inr (Or.inl ⟨Or.inr rfl, Or.inl rfl⟩)
    · exact okPl_n (r 3 hj) (Or.inr rfl)
  | 1, k => exact r
  | 2, k =>
    have k1 : x < 4 ∧ y < 100 ∧ okPl (s.1 * s.2.1) x y := k
    intro j hj
    show okPl (s.1 * s.2.1) (j : Int) (upd m.1 (2 + x) (Int32.ofNat y) (2 + j)).toInt
    by_cases w : j = x
    · rw [w, u_at, ofN_toInt (by omega)]; exact k1.2.2
    · rw [u_ne (by omega)]; exact r j hj
  | 3, k =>
    intro j hj
    show okPl (s.1 * s.2.1) (j : Int) (upd m.1 6 (Int32.ofNat ((m.1 6).toNatClampNeg + 1)) (2 + j)).toInt
    rw [u_ne (by omega)]
    exact r j hj
  | i + 4, k => exact r
theorem RB_ok : relOk RB := by
  refine ⟨fun c m m' r q => ⟨RN_ok.1 c m m' r.1 q, fun s hs => ⟨RSs_c (r.2 s hs).1 rfl q.2, RPs_J (r.2 s hs).2 q.1⟩⟩, fun c m s a r q p k => ?_, fun a b m r => ?_, fun c m m' g r => ?_, fun c m r => r.1, fun c m s k v r q hk hv => ?_⟩
  · have z := sg_do q p k
    obtain ⟨s', sI, -, gF, -⟩ := RN_sg r.1
    have e : s' = s := sgI_inj sI q
    subst e
    exact RB_mk (RN_ok.2.1 c m s' a r.1 q p k) z.1 (RSs_do gF q p k (r.2 s' q).1) (RPs_do k (r.2 s' q).2)
  · obtain ⟨s, sI, -⟩ := RN_sgI r.1
    have sI2 : sgI (cfBecome a b) s := ⟨(bc_I a.1 b.1 0 (by decide)).trans sI.1, (bc_I a.1 b.1 1 (by decide)).trans sI.2.1, (bc_I a.1 b.1 11 (by decide)).trans sI.2.2.1, sI.2.2.2⟩
    exact RB_mk (RN_ok.2.2.1 a b m r.1) sI2 (RSs_bec sI.2.2.2.2.2.2.2 (r.2 s sI).1) (r.2 s sI).2
  · obtain ⟨s, sI, -, gF, -⟩ := RN_sg r.1
    exact RB_mk (RN_ok.2.2.2.1 c m m' g r.1) sI (RSs_back (gdF_n gF).1 sI.2.2.2.2.2.2.2 (r.2 s sI).1 m' g) (RPs_J (r.2 s sI).2 (fun j hj => bk_sv j hj))
  · have sI2 : sgI (upd c.1 (7 + k) v, c.2) s := ⟨(u_ne (show (0 : Nat) ≠ 7 + k by omega)).trans q.1, (u_ne (show (1 : Nat) ≠ 7 + k by omega)).trans q.2.1, (u_ne (show (11 : Nat) ≠ 7 + k by omega)).trans q.2.2.1, q.2.2.2⟩
    refine RB_mk (RN_ok.2.2.2.2.2 c m s k v r.1 q hk hv) sI2 (RSs_c (r.2 s q).1 rfl rfl) (fun j hj => ?_)
    show okPl (s.1 * s.2.1) (j : Int) (upd m.1 (2 + k) v (2 + j)).toInt
    by_cases w : j = k
    · rw [w, u_at]; exact hv
    · rw [u_ne (by omega)]; exact (r.2 s q).2 j hj
theorem RB_no : noOw RB := fun c m o1 o2 r => by
  refine ⟨RN_J (m' := (m.1, m.2.1, o2, m.2.2.2)) (RN_C (c' := (c.1, c.2.1, c.2.2.1, c.2.2.2.1, c.2.2.2.2.1, c.2.2.2.2.2.1, o1)) r.1 (fun _ _ => rfl) (fun _ _ _ => rfl)) (fun _ _ => rfl), fun s hs => ?_⟩
  exact r.2 s hs
end
