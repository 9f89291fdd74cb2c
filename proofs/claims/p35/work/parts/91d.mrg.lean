section
/-! ===== field of the reference ===== -/
/-- what bars a row (1), a cut (2) -/
def wtS (hd : Nat → Int32) (S : Nat) (w : Int) : Int32 := if (hd S).toInt = 3 - w then -2 else if (hd S).toInt = 0 then -3 else 0
theorem s_sh12z {d : Nat} {h : sHp} {s : Int32} (hd : 1 ≤ d) : sDo d 171 [.ref 60, .int s] h (fun r h' => h' = h ∧ ((0 ≤ s.toInt ∧ s.toInt < 8) ∧ r = some (.int 1) ∨ ¬ (0 ≤ s.toInt ∧ s.toInt < 8) ∧ r = some (.int 0))) := by
  obtain ⟨e, rfl⟩ : ∃ e, d = e + 1 := ⟨d - 1, by omega⟩
  refine sDo_mono (s_sh12 rfl) (fun r h' q => ⟨q.1, ?_⟩)
  by_cases z : 0 ≤ s.toInt ∧ s.toInt < 8
  · rw [if_pos z] at q; exact Or.inl ⟨z, q.2⟩
  · rw [if_neg z] at q; exact Or.inr ⟨z, q.2⟩
theorem s_wantsE {d : Nat} {h : sHp} {J hd : Nat → Int32} {s w : Int32} (hd1 : 2 ≤ d) (hr : h[60]? = some (mO J)) (a4 : h[67]? = some (.inl (0, 8, .inl hd))) (hw : w.toInt = 1 ∨ w.toInt = 2) : sDo d 184 [.ref 60, .int s, .int w] h (fun r h' => h' = h ∧ ((0 ≤ s.toInt ∧ s.toInt < 8) ∧ r = some (.int (wtS hd s.toInt.toNat w.toInt)) ∨ ¬ (0 ≤ s.toInt ∧ s.toInt < 8) ∧ r = some (.int (-1)))) := by
  unfold wtS
  refine sDo_of1 (nL := 3) (L := [some (.ref 60), some (.int s), some (.int w)]) (by omega) rfl rfl ?_
  refine g_aload_n (i := 0) rfl rfl ?_
  refine g_iload_n (i := 1) rfl rfl ?_
  refine g_virt1 (Qc := fun r h' => h' = h ∧ (((0 ≤ s.toInt ∧ s.toInt < 8) ∧ r = some (.int 1)) ∨ (¬ (0 ≤ s.toInt ∧ s.toInt < 8) ∧ r = some (.int 0)))) rfl (by decide) rfl hr rfl (Nat.le_of_ble_eq_true rfl) (s_sh12z (by omega)) (fun r h hq9 => ?_)
  obtain ⟨rfl, ⟨c_1, rfl⟩ | ⟨c_1, rfl⟩⟩ := hq9
  · skip
    obtain ⟨S, hS⟩ : ∃ S : Nat, s.toInt = S := ⟨s.toInt.toNat, by omega⟩
    rw [show s.toInt.toNat = S by omega]
    refine g_if_ne 12 rfl rfl (fun _ => ?_) (fun hc => absurd hc (by decide))
    refine g_aload_n (i := 0) rfl rfl ?_
    refine g_getfield (v := .ref 67) rfl hr (by decide) rfl ?_
    refine g_iload_n (i := 1) rfl rfl ?_
    refine g_iaload (n := 8) (f := hd) rfl a4 (i_in (by omega) (by omega)) ?_
    rw [i_nat hS]
    refine g_iconst (n := 3) rfl ?_
    refine g_iload_n (i := 2) rfl rfl ?_
    have k_2 : (Int32.ofInt 3).toInt = 3 := rfl
    refine g_isub rfl ?_
    have t_3 : ((Int32.ofInt 3) - w).toInt = 3 - w.toInt := by rw [i_sub (by rw [k_2]; omega) (by rw [k_2]; omega), k_2]
    refine g_icmp_ne 29 rfl rfl (fun c_4 => ?_) (fun c_4 => ?_)
    · skip
      rw [i_eq, t_3] at c_4
      refine g_aload_n (i := 0) rfl rfl ?_
      refine g_getfield (v := .ref 67) rfl hr (by decide) rfl ?_
      refine g_iload_n (i := 1) rfl rfl ?_
      refine g_iaload (n := 8) (f := hd) rfl a4 (i_in (by omega) (by omega)) ?_
      rw [i_nat hS]
      have k_6 : (0 : Int32).toInt = 0 := rfl
      refine g_if_ne 43 rfl rfl (fun c_5 => ?_) (fun c_5 => ?_)
      · skip
        rw [i_eq, k_6] at c_5
        refine g_iconst (n := 0) rfl ?_
        refine g_ireturn (ty := .int) rfl rfl rfl ?_
        exact ⟨rfl, Or.inl ⟨c_1, by rw [if_neg (by omega), if_neg (by omega)]; rfl⟩⟩
      · skip
        rw [i_eq, k_6] at c_5
        refine g_bipush (n := (-3)) rfl ?_
        refine g_goto 44 rfl rfl ?_
        refine g_ireturn (ty := .int) rfl rfl rfl ?_
        exact ⟨rfl, Or.inl ⟨c_1, by rw [if_neg (by omega), if_pos (by omega)]; rfl⟩⟩
    · skip
      rw [i_eq, t_3] at c_4
      refine g_bipush (n := (-2)) rfl ?_
      refine g_goto 44 rfl rfl ?_
      refine g_ireturn (ty := .int) rfl rfl rfl ?_
      exact ⟨rfl, Or.inl ⟨c_1, by rw [if_pos (by omega)]; rfl⟩⟩
  · skip
    refine g_if_ne 12 rfl rfl (fun hc => absurd hc (by decide)) (fun _ => ?_)
    refine g_iconst (n := (-1)) rfl ?_
    refine g_goto 44 rfl rfl ?_
    refine g_ireturn (ty := .int) rfl rfl rfl ?_
    exact ⟨rfl, Or.inr ⟨c_1, rfl⟩⟩
/-- alike in what a field is -/
def mQ (m m' : MF) : Prop := (∀ j, j < 7 → m'.1 j = m.1 j) ∧ m'.2 = m.2
theorem mQ_rfl (m : MF) : mQ m m := ⟨fun _ _ => rfl, rfl⟩
theorem mQ_tr {a b c : MF} (x : mQ a b) (y : mQ b c) : mQ a c := ⟨fun j hj => (y.1 j hj).trans (x.1 j hj), y.2.trans x.2⟩
theorem mQ_S {m m' : MF} (x : mS m m') : mQ m m' := ⟨fun j hj => x.1 j (by omega) (by omega) (by omega), x.2⟩
theorem upd7 {J J' : Nat → Int32} {k : Nat} {v : Int32} (a : ∀ j, j < 7 → J' j = J j) : ∀ j, j < 7 → upd J' k v j = upd J k v j := fun j hj => by
  by_cases e : j = k
  · rw [e, u_at, u_at]
  · rw [u_ne e, u_ne e, a j hj]
theorem mQ_do {m m' : MF} (q : mQ m m') (a : Act) : mQ (mfDo m a) (mfDo m' a) := by
  obtain ⟨J, R⟩ := m
  obtain ⟨J', R'⟩ := m'
  obtain ⟨q1, q2⟩ := q
  have q2 : R' = R := q2
  subst q2
  obtain ⟨k, x, y, z⟩ := a
  match k with
  | 0 => exact ⟨upd7 (upd7 (upd7 (upd7 q1))), rfl⟩
  | 1 => exact ⟨q1, rfl⟩
  | 2 => exact ⟨upd7 q1, rfl⟩
  | 3 =>
    have e : J' 6 = J 6 := q1 6 (by decide)
    show mQ (mfHeir (J 6).toNatClampNeg (Int32.ofNat x) (J, R')) (mfHeir (J' 6).toNatClampNeg (Int32.ofNat x) (J', R'))
    rw [e]
    exact ⟨upd7 q1, rfl⟩
  | k + 4 => exact ⟨q1, rfl⟩
theorem mQ_dos {m m' : MF} (q : mQ m m') : ∀ as : List Act, mQ (as.foldl mfDo m) (as.foldl mfDo m') := by
  intro as
  induction as generalizing m m' with
  | nil => exact q
  | cons a as ih => exact ih (mQ_do q a)
def fdM (h h' : sHp) : Prop := h'.length = h.length ∧ ∀ q, q ≠ 60 → q ≠ 74 → (q < 61 ∨ 66 < q) → h'[q]? = h[q]?
def qF12 (h : sHp) (m : MF) (q : Option (Nat × List Act)) (r : Option Value) (h' : sHp) : Prop := match q with
  | some (k, as) => r = some (.int (Int32.ofNat k)) ∧ (∃ m', MC h' m' ∧ mQ (as.foldl mfDo m) m') ∧ fdM h h'
  | none => r = some (.int (-6)) ∧ (∃ m0 g m', MC h' m' ∧ mQ (mfBack m0 (svF m g)) m') ∧ fdM h h'
theorem s_field12 {d : Nat} {h : sHp} {m : MF} {R hd sz : Nat → Int32} {gw wd : Nat → Int32} {cl : Nat → Int64} {S n : Nat} {x : Int32} {T : Nat → Int32} {s : Sg} (hd1 : 7 ≤ d) (M : MC h m) (hR : h[61]? = some (rFc R)) (hg : h[74]? = some (.inl (0, 180, .inl gw))) (w0 : h[73]? = some (.inl (0, 42, .inl wd))) (W : WD wd) (a4 : h[67]? = some (.inl (0, 8, .inl hd))) (a6 : h[69]? = some (.inl (0, 8, .inl sz))) (a8 : h[71]? = some (.inl (1, 800, .inr (.inl cl)))) (hS : S < 8) (hx : x.toInt = S) (h1 : hd S = 1) (hz : sz S = Int32.ofNat n) (RT1 : RT cl S n T) (hs : sgJ m.1 s) : sDo d 202 [.ref 60, .int x] h (qF12 h m (itsS T n 101 s 0)) := by
  have hwt : wtS hd x.toInt.toNat 1 = 0 := by
    unfold wtS
    rw [show x.toInt.toNat = S by omega, h1]
    rfl
  have e100 : (Int8.ofInt 100).toInt32 * x = Int32.ofNat (100 * S) := Int32.toInt_inj.mp (by rw [n_mul (X := 100) (Y := S) rfl hx (by omega), ofN_toInt (by omega)])
  refine sDo_of1 (nL := 5) (L := [some (.ref 60), some (.int x), none, none, none]) (by omega) rfl rfl ?_
  refine g_aload_n (i := 0) rfl rfl ?_
  refine g_iload_n (i := 1) rfl rfl ?_
  refine g_iconst (n := 1) rfl ?_
  refine g_virt2 rfl (by decide) rfl M.1 rfl (Nat.le_of_ble_eq_true rfl) (s_wantsE (by omega) M.1 a4 (Or.inl rfl)) (fun r h9 hq9 => ?_)
  obtain ⟨rfl, hq9 | hq9⟩ := hq9
  rotate_left
  · exact absurd (show 0 ≤ x.toInt ∧ x.toInt < 8 by omega) hq9.1
  obtain ⟨-, rfl⟩ := hq9
  rw [show wtS hd x.toInt.toNat (Int32.ofInt 1).toInt = 0 from hwt]
  refine g_istore_n (i := 2) (L1 := [some (.ref 60), some (.int x), some (.int 0), none, none]) rfl (Nat.le_of_ble_eq_true rfl) rfl ?_
  refine g_iload_n (i := 2) rfl rfl ?_
  refine g_if_eq 17 rfl rfl (fun _ => ?_) (fun hc => absurd hc (by decide))
  refine g_aload_n (i := 0) rfl rfl ?_
  refine g_aload_n (i := 0) rfl rfl ?_
  refine g_getfield (v := .ref 74) rfl M.1 (by decide) rfl ?_
  refine g_iconst (n := 0) rfl ?_
  refine g_virt2 (Qc := fun r h' => r = none ∧ h' = h9.set 74 (.inl (0, 180, .inl (svF m gw)))) rfl (by decide) rfl M.1 rfl (Nat.le_of_ble_eq_true rfl) (sDo_up (d := 2) (by omega) (s_saveE (d := 0) M hg (by decide))) (fun r h8 hq9 => ?_)
  obtain ⟨rfl, rfl⟩ := hq9
  have M2 : MC (h9.set 74 (.inl (0, 180, .inl (svF m gw)))) m := by
    obtain ⟨b0, b1, b2, b3, b4, b5⟩ := M
    exact ⟨by rw [s_set_ne (by decide)]; exact b0, by rw [s_set_ne (by decide)]; exact b1, by rw [s_set_ne (by decide)]; exact b2, by rw [s_set_ne (by decide)]; exact b3, by rw [s_set_ne (by decide)]; exact b4, by rw [s_set_ne (by decide)]; exact b5⟩
  have g2 : (h9.set 74 (.inl (0, 180, .inl (svF m gw))))[74]? = some (.inl (0, 180, .inl (svF m gw))) := s_set_eq hg
  have v0 : (h9.set 74 (.inl (0, 180, .inl (svF m gw))))[73]? = some (.inl (0, 42, .inl wd)) := by rw [s_set_ne (by decide)]; exact w0
  have v6 : (h9.set 74 (.inl (0, 180, .inl (svF m gw))))[69]? = some (.inl (0, 8, .inl sz)) := by rw [s_set_ne (by decide)]; exact a6
  have v8 : (h9.set 74 (.inl (0, 180, .inl (svF m gw))))[71]? = some (.inl (1, 800, .inr (.inl cl))) := by rw [s_set_ne (by decide)]; exact a8
  have vR : (h9.set 74 (.inl (0, 180, .inl (svF m gw))))[61]? = some (rFc R) := by rw [s_set_ne (by decide)]; exact hR
  have fd1 : fdM h9 (h9.set 74 (.inl (0, 180, .inl (svF m gw)))) := ⟨List.length_set, fun q e1 e2 e3 => s_set_ne (Ne.symm e2)⟩
  generalize h9.set 74 (.inl (0, 180, .inl (svF m gw))) = h2 at M2 g2 v0 v6 v8 vR fd1 ⊢
  refine g_aload_n (i := 0) rfl rfl ?_
  refine g_bipush (n := 100) rfl ?_
  refine g_iload_n (i := 1) rfl rfl ?_
  refine g_imul rfl ?_
  rw [e100]
  have M3 := MC_0 (f := (upd m.1 21 (Int32.ofNat (100 * S)))) M2
  refine g_putfield (h1 := List.set h2 60 (mO (upd m.1 21 (Int32.ofNat (100 * S))))) rfl M2.1 (by decide) (Nat.le_of_ble_eq_true rfl) rfl rfl ?_
  refine g_aload_n (i := 0) rfl rfl ?_
  refine g_iconst (n := 0) rfl ?_
  have M4 := MC_0 (f := (upd (upd m.1 21 (Int32.ofNat (100 * S))) 22 (Int32.ofInt 0))) M3
  refine g_putfield (h1 := List.set (List.set h2 60 (mO (upd m.1 21 (Int32.ofNat (100 * S))))) 60 (mO (upd (upd m.1 21 (Int32.ofNat (100 * S))) 22 (Int32.ofInt 0)))) rfl M3.1 (by decide) (Nat.le_of_ble_eq_true rfl) rfl rfl ?_
  refine g_aload_n (i := 0) rfl rfl ?_
  refine g_aload_n (i := 0) rfl rfl ?_
  refine g_getfield (v := .ref 69) rfl M4.1 (by decide) rfl ?_
  refine g_iload_n (i := 1) rfl rfl ?_
  refine g_iaload (n := 8) (f := sz) rfl (by (repeat rw [s_set_ne (by decide)]); exact v6) (i_in (by omega) (by omega)) ?_
  rw [i_nat hx, hz]
  have M5 := MC_0 (f := (upd (upd (upd m.1 21 (Int32.ofNat (100 * S))) 22 (Int32.ofInt 0)) 23 (Int32.ofNat n))) M4
  refine g_putfield (h1 := List.set (List.set (List.set h2 60 (mO (upd m.1 21 (Int32.ofNat (100 * S))))) 60 (mO (upd (upd m.1 21 (Int32.ofNat (100 * S))) 22 (Int32.ofInt 0)))) 60 (mO (upd (upd (upd m.1 21 (Int32.ofNat (100 * S))) 22 (Int32.ofInt 0)) 23 (Int32.ofNat n)))) rfl M4.1 (by decide) (Nat.le_of_ble_eq_true rfl) rfl rfl ?_
  refine g_aload_n (i := 0) rfl rfl ?_
  refine g_iconst (n := (-1)) rfl ?_
  have M6 := MC_0 (f := (upd (upd (upd (upd m.1 21 (Int32.ofNat (100 * S))) 22 (Int32.ofInt 0)) 23 (Int32.ofNat n)) 7 ((Int32.ofInt (-1))))) M5
  refine g_putfield (h1 := List.set (List.set (List.set (List.set h2 60 (mO (upd m.1 21 (Int32.ofNat (100 * S))))) 60 (mO (upd (upd m.1 21 (Int32.ofNat (100 * S))) 22 (Int32.ofInt 0)))) 60 (mO (upd (upd (upd m.1 21 (Int32.ofNat (100 * S))) 22 (Int32.ofInt 0)) 23 (Int32.ofNat n)))) 60 (mO (upd (upd (upd (upd m.1 21 (Int32.ofNat (100 * S))) 22 (Int32.ofInt 0)) 23 (Int32.ofNat n)) 7 ((Int32.ofInt (-1)))))) rfl M5.1 (by decide) (Nat.le_of_ble_eq_true rfl) rfl rfl ?_
  refine g_iconst (n := 1) rfl ?_
  refine g_istore_n (i := 3) (L1 := [some (.ref 60), some (.int x), some (.int 0), some (.int (Int32.ofInt 1)), none]) rfl (Nat.le_of_ble_eq_true rfl) rfl ?_
  have E2 : mE h2 (List.set (List.set (List.set (List.set h2 60 (mO (upd m.1 21 (Int32.ofNat (100 * S))))) 60 (mO (upd (upd m.1 21 (Int32.ofNat (100 * S))) 22 (Int32.ofInt 0)))) 60 (mO (upd (upd (upd m.1 21 (Int32.ofNat (100 * S))) 22 (Int32.ofInt 0)) 23 (Int32.ofNat n)))) 60 (mO (upd (upd (upd (upd m.1 21 (Int32.ofNat (100 * S))) 22 (Int32.ofInt 0)) 23 (Int32.ofNat n)) 7 ((Int32.ofInt (-1)))))) := mE_set (mE_set (mE_set (mE_set mE_rfl (by decide)) (by decide)) (by decide)) (by decide)
  have hs2 : sgJ (upd (upd (upd (upd m.1 21 (Int32.ofNat (100 * S))) 22 (Int32.ofInt 0)) 23 (Int32.ofNat n)) 7 ((Int32.ofInt (-1)))) s := hs
  refine s_fld_go (d := d - 1) (h0 := h2) W RT1 (by omega) v0 v8 101 0 1 _ ((upd (upd (upd (upd m.1 21 (Int32.ofNat (100 * S))) 22 (Int32.ofInt 0)) 23 (Int32.ofNat n)) 7 ((Int32.ofInt (-1)))), m.2) ((upd (upd (upd (upd m.1 21 (Int32.ofNat (100 * S))) 22 (Int32.ofInt 0)) 23 (Int32.ofNat n)) 7 ((Int32.ofInt (-1)))), m.2) s none 56 (Or.inl rfl) (by have := RT1.2.1; omega) (by omega) (by omega) M6 ⟨fun _ _ _ _ => rfl, rfl⟩ E2 ⟨rfl, rfl, rfl⟩ hs2 (fun h5 goes K' hK' hq => ?_)
  have hmQ : mQ m ((upd (upd (upd (upd m.1 21 (Int32.ofNat (100 * S))) 22 (Int32.ofInt 0)) 23 (Int32.ofNat n)) 7 ((Int32.ofInt (-1)))), m.2) := ⟨fun j hj => (u_ne (by omega)).trans ((u_ne (by omega)).trans ((u_ne (by omega)).trans (u_ne (by omega)))), rfl⟩
  obtain ⟨m', M', E', hq⟩ := hq
  have eK := ofN_toInt (n := K') (by omega)
  cases hi : itsS T n 101 s 0 with
  | none =>
    rw [hi] at hq
    have hq : goes = 0 := hq
    subst hq
    have g5 := (E'.2 74 (by decide) (by decide)).trans g2
    have r5 : h5[61]? = some (rFc R) := (E'.2 61 (by decide) (by decide)).trans vR
    refine g_iload (i := 4) rfl rfl ?_
    refine g_if_eq 140 rfl rfl (fun _ => ?_) (fun hc => absurd hc (by decide))
    refine g_aload_n (i := 0) rfl rfl ?_
    refine g_aload_n (i := 0) rfl rfl ?_
    refine g_getfield (v := .ref 74) rfl M'.1 (by decide) rfl ?_
    refine g_iconst (n := 1) rfl ?_
    refine g_virt2 (Qc := fun r h' => r = none ∧ MC h' (mfBack m' (svF m gw)) ∧ mE h5 h') rfl (by decide) rfl M'.1 rfl (Nat.le_of_ble_eq_true rfl) (sDo_up (d := 2) (by omega) (s_backE (d := 0) M' g5 (by decide))) (fun r h4 hq9 => ?_)
    obtain ⟨rfl, q1, q2⟩ := hq9
    refine g_aload_n (i := 0) rfl rfl ?_
    refine g_aload_n (i := 0) rfl rfl ?_
    refine g_getfield (v := .int ((mfBack m' (svF m gw)).1 25)) rfl q1.1 (by decide) rfl ?_
    have q3 := MC_0 (f := (upd (mfBack m' (svF m gw)).1 7 (((mfBack m' (svF m gw)).1 25)))) q1
    refine g_putfield (h1 := h4.set 60 (mO (upd (mfBack m' (svF m gw)).1 7 (((mfBack m' (svF m gw)).1 25))))) rfl q1.1 (by decide) (Nat.le_of_ble_eq_true rfl) rfl rfl ?_
    refine g_aload_n (i := 0) rfl rfl ?_
    refine g_bipush (n := (-6)) rfl ?_
    refine g_virt1 (Qc := fun r h' => r = some (.int (-6)) ∧ h' = List.set (h4.set 60 (mO (upd (mfBack m' (svF m gw)).1 7 (((mfBack m' (svF m gw)).1 25))))) 61 (rFc (bump R 6))) rfl (by decide) rfl q3.1 rfl (Nat.le_of_ble_eq_true rfl) (s_no2 (X := 6) (R := R) (by omega) q3.1 (by rw [s_set_ne (by decide), q2.2 61 (by decide) (by decide)]; exact r5) rfl (by decide)) (fun r h3 hq9 => ?_)
    obtain ⟨rfl, rfl⟩ := hq9
    refine g_ireturn (ty := .int) rfl rfl rfl ?_
    refine ⟨rfl, ⟨m', gw, _, MC_61 q3, ⟨fun j hj => u_ne (by omega), rfl⟩⟩, ?_, fun q e1 e2 e3 => ?_⟩
    · rw [List.length_set, List.length_set]; exact q2.1.trans (E'.1.trans fd1.1)
    · rw [s_set_ne (by omega), s_set_ne (Ne.symm e1), q2.2 q e1 (by omega), E'.2 q e1 (by omega)]
      exact fd1.2 q e1 e2 e3
  | some kb =>
    obtain ⟨k, as⟩ := kb
    rw [hi] at hq
    obtain ⟨rfl, e1, ms⟩ := hq
    have hk : K' = k := by omega
    subst hk
    refine g_iload (i := 4) rfl rfl ?_
    refine g_if_eq 140 rfl rfl (fun hc => absurd hc (by decide)) (fun _ => ?_)
    refine g_iload_n (i := 3) rfl rfl ?_
    refine g_ireturn (ty := .int) rfl rfl rfl ?_
    exact ⟨rfl, ⟨m', M', mQ_tr (mQ_dos hmQ as) (mQ_S ms)⟩, E'.1.trans fd1.1, fun q e1 e2 e3 => (E'.2 q e1 (by omega)).trans (fd1.2 q e1 e2 e3)⟩
end
section
/-! ===== what is alike of two fields ===== -/
def szC (W H : Nat) : Bool := decide (lowS (Int32.ofNat W * Int32.ofNat H) = stO (fun _ => true) (W * H)) && (decide (fcS (Int32.ofNat W) H = stO (fun i => decide (i % W = 0)) (W * H)) && (decide (fcS (Int32.ofNat W) H <<< ((Int32.ofNat W - Int32.ofInt 1).toInt64 &&& 63) = stO (fun i => decide (i % W = W - 1)) (W * H)) && (decide (lowS (Int32.ofNat W) = stO (fun i => decide (i < W)) (W * H)) && decide (lowS (Int32.ofNat W) <<< ((Int32.ofNat W * (Int32.ofNat H - Int32.ofInt 1)).toInt64 &&& 63) = stO (fun i => decide (W * (H - 1) ≤ i)) (W * H)))))
theorem sz_ck : ((List.range 9).all fun W => (List.range 9).all fun H => Nat.blt W 2 || (Nat.blt H 2 || szC W H)) = true := by decide +kernel
theorem blt_n {a b : Nat} (h : b ≤ a) : Nat.blt a b = false := by
  cases z : Nat.blt a b
  · rfl
  · have := Nat.le_of_ble_eq_true z; omega
theorem gdF_size {c : CF} {W H : Nat} (w2 : 2 ≤ W) (w8 : W ≤ 8) (h2 : 2 ≤ H) (h8 : H ≤ 8) : gdF (cfSize (Int32.ofNat W) (Int32.ofNat H) c) W H := by
  have h := rg_all (rg_all sz_ck W (by omega)) H (by omega)
  rw [blt_n w2, blt_n h2, Bool.false_or, Bool.false_or] at h
  unfold szC at h
  simp only [Bool.and_eq_true, decide_eq_true_eq] at h
  obtain ⟨a1, a2, a3, a4, a5⟩ := h
  have eH : (Int32.ofNat H).toInt.toNat = H := by rw [ofN_toInt (by omega)]; rfl
  have key : ∀ G : Nat → Int64, szG (Int32.ofNat W) (Int32.ofNat H) G 2 = lowS (Int32.ofNat W * Int32.ofNat H) ∧ szG (Int32.ofNat W) (Int32.ofNat H) G 3 = fcS (Int32.ofNat W) H ∧ szG (Int32.ofNat W) (Int32.ofNat H) G 4 = fcS (Int32.ofNat W) H <<< ((Int32.ofNat W - Int32.ofInt 1).toInt64 &&& 63) ∧ szG (Int32.ofNat W) (Int32.ofNat H) G 5 = lowS (Int32.ofNat W) ∧ szG (Int32.ofNat W) (Int32.ofNat H) G 6 = lowS (Int32.ofNat W) <<< ((Int32.ofNat W * (Int32.ofNat H - Int32.ofInt 1)).toInt64 &&& 63) := by
    intro G
    unfold szG
    rw [eH]
    exact ⟨rfl, rfl, rfl, rfl, rfl⟩
  obtain ⟨b1, b2, b3, b4, b5⟩ := key c.2.1
  exact ⟨rfl, rfl, w2, w8, h2, h8, b1.trans a1, b2.trans a2, b3.trans a3, b4.trans a4, b5.trans a5⟩
/-- ints and longs alike -/
def RN (c : CF) (m : MF) : Prop := ∃ W H N : Nat, gdF c W H ∧ N ≤ 5 ∧ c.1 11 = Int32.ofNat N ∧ m.1 0 = Int32.ofNat W ∧ m.1 1 = Int32.ofNat H ∧ m.1 6 = Int32.ofNat N ∧ ∀ k, k ≤ 3 → c.1 (7 + k) = m.1 (2 + k)
/-- what a relation of fields must bear -/
def relOk (Rel : CF → MF → Prop) : Prop := (∀ c m m', Rel c m → mQ m m' → Rel c m') ∧ (∀ c m s a, Rel c m → sgI c s → sgJ m.1 s → actOk s a → Rel (cfDo c a) (mfDo m a)) ∧ (∀ a b m, Rel a m → Rel (cfBecome a b) m) ∧ (∀ c m m' g, Rel c m → Rel c (mfBack m' (svF m g))) ∧ (∀ c m, Rel c m → RN c m) ∧ (∀ (c : CF) (m : MF) (s : Sg) (k : Nat) (v : Int32), Rel c m → sgI c s → k ≤ 3 → okPl (s.1 * s.2.1) (k : Int) v.toInt → Rel (upd c.1 (7 + k) v, c.2) (upd m.1 (2 + k) v, m.2))
theorem RN_sg {c : CF} {m : MF} (r : RN c m) : ∃ s : Sg, sgI c s ∧ sgJ m.1 s ∧ gdF c s.1 s.2.1 ∧ gdM m.1 s.1 s.2.1 := by
  obtain ⟨W, H, N, g, hN, c11, m0, m1, m6, -⟩ := r
  have g' := g
  obtain ⟨g0, g1, w2, w8, h2, h8, -⟩ := g'
  exact ⟨(W, H, N), ⟨g0, g1, c11, w2, w8, h2, h8, hN⟩, ⟨m0, m1, m6, w2, w8, h2, h8, hN⟩, g, ⟨m0, m1, w2, w8, h2, h8⟩⟩
theorem sg_do {c : CF} {m : MF} {s : Sg} {a : Act} (q : sgI c s) (p : sgJ m.1 s) (k : actOk s a) : sgI (cfDo c a) (sgDo s a) ∧ sgJ (mfDo m a).1 (sgDo s a) := by
  obtain ⟨q1, q2, q3, q4, q5, q6, q7, q8⟩ := q
  obtain ⟨p1, p2, p3, -⟩ := p
  obtain ⟨i, x, y, z⟩ := a
  match i, k with
  | 0, k => exact ⟨⟨rfl, rfl, q3, k.1, k.2.1, k.2.2.1, k.2.2.2, q8⟩, ⟨rfl, rfl, p3, k.1, k.2.1, k.2.2.1, k.2.2.2, q8⟩⟩
  | 1, k => exact ⟨⟨q1, q2, q3, q4, q5, q6, q7, q8⟩, ⟨p1, p2, p3, q4, q5, q6, q7, q8⟩⟩
  | 2, k =>
    have k1 : x < 4 := k.1
    exact ⟨⟨(u_ne (show (0 : Nat) ≠ 7 + x by omega)).trans q1, (u_ne (show (1 : Nat) ≠ 7 + x by omega)).trans q2, (u_ne (show (11 : Nat) ≠ 7 + x by omega)).trans q3, q4, q5, q6, q7, q8⟩, ⟨(u_ne (show (0 : Nat) ≠ 2 + x by omega)).trans p1, (u_ne (show (1 : Nat) ≠ 2 + x by omega)).trans p2, (u_ne (show (6 : Nat) ≠ 2 + x by omega)).trans p3, q4, q5, q6, q7, q8⟩⟩
  | 3, k =>
    have eN := ofN_toInt (n := s.2.2) (by omega)
    have e1 : (c.1 11).toNatClampNeg = s.2.2 := by rw [q3]; exact i_nat eN
    have e2 : (m.1 6).toNatClampNeg = s.2.2 := by rw [p3]; exact i_nat eN
    have k3 : s.2.2 < 5 := k.2.2
    refine ⟨?_, ?_⟩
    · show sgI (cfHeir (c.1 11).toNatClampNeg (Int32.ofNat x) c) (s.1, s.2.1, s.2.2 + 1)
      rw [e1]
      exact ⟨q1, q2, rfl, q4, q5, q6, q7, k3⟩
    · show sgJ (mfHeir (m.1 6).toNatClampNeg (Int32.ofNat x) m).1 (s.1, s.2.1, s.2.2 + 1)
      rw [e2]
      exact ⟨p1, p2, rfl, q4, q5, q6, q7, k3⟩
  | i + 4, k => exact ⟨⟨q1, q2, q3, q4, q5, q6, q7, q8⟩, ⟨p1, p2, p3, q4, q5, q6, q7, q8⟩⟩
theorem rel_dos {Rel : CF → MF → Prop} (ok : relOk Rel) : ∀ {as : List Act} {c : CF} {m : MF} {s : Sg}, Rel c m → sgI c s → sgJ m.1 s → actsOk s as → Rel (as.foldl cfDo c) (as.foldl mfDo m) := by
  intro as
  induction as with
  | nil => intro c m s r _ _ _; exact r
  | cons a as ih =>
    intro c m s r q p k
    have z := sg_do q p k.1
    exact ih (ok.2.1 c m s a r q p k.1) z.1 z.2 k.2
theorem gdF_I {c c' : CF} {W H : Nat} (g : gdF c W H) (e0 : c'.1 0 = c.1 0) (e1 : c'.1 1 = c.1 1) (e2 : ∀ j, 2 ≤ j → j ≤ 6 → c'.2.1 j = c.2.1 j) : gdF c' W H := by
  obtain ⟨g0, g1, w2, w8, h2, h8, a, b, c, d, e⟩ := g
  exact ⟨e0.trans g0, e1.trans g1, w2, w8, h2, h8, (e2 2 (by decide) (by decide)).trans a, (e2 3 (by decide) (by decide)).trans b, (e2 4 (by decide) (by decide)).trans c, (e2 5 (by decide) (by decide)).trans d, (e2 6 (by decide) (by decide)).trans e⟩
theorem bk_at (J g : Nat → Int32) : ∀ j, j < 7 → bkJ J g j = g (168 + j) := fun j hj => by
  match j, hj with
  | 0, _ => rfl
  | 1, _ => rfl
  | 2, _ => rfl
  | 3, _ => rfl
  | 4, _ => rfl
  | 5, _ => rfl
  | 6, _ => rfl
  | j + 7, hj => exact absurd hj (by omega)
theorem RN_J {c : CF} {m m' : MF} (r : RN c m) (e : ∀ j, j < 7 → m'.1 j = m.1 j) : RN c m' := by
  obtain ⟨W, H, N, g, hN, c11, m0, m1, m6, mk⟩ := r
  exact ⟨W, H, N, g, hN, c11, (e 0 (by decide)).trans m0, (e 1 (by decide)).trans m1, (e 6 (by decide)).trans m6, fun k hk => (mk k hk).trans (e (2 + k) (by omega)).symm⟩
theorem RN_C {c c' : CF} {m : MF} (r : RN c m) (e : ∀ j, j < 2 ∨ (7 ≤ j ∧ j ≤ 11) → c'.1 j = c.1 j) (e2 : ∀ j, 2 ≤ j → j ≤ 6 → c'.2.1 j = c.2.1 j) : RN c' m := by
  obtain ⟨W, H, N, g, hN, c11, m0, m1, m6, mk⟩ := r
  exact ⟨W, H, N, gdF_I g (e 0 (by decide)) (e 1 (by decide)) e2, hN, (e 11 (by decide)).trans c11, m0, m1, m6, fun k hk => (e (7 + k) (by omega)).trans (mk k hk)⟩
theorem bc_I (a b : Nat → Int32) : ∀ j, j < 2 ∨ (7 ≤ j ∧ j ≤ 11) → bcI a b j = a j := fun j hj => by
  rcases (show j = 0 ∨ j = 1 ∨ j = 7 ∨ j = 8 ∨ j = 9 ∨ j = 10 ∨ j = 11 by omega) with rfl | rfl | rfl | rfl | rfl | rfl | rfl <;> rfl
theorem bc_G (a b : Nat → Int64) : ∀ j, 2 ≤ j → j ≤ 6 → bcG a b j = a j := fun j h1 h2 => by
  rcases (show j = 2 ∨ j = 3 ∨ j = 4 ∨ j = 5 ∨ j = 6 by omega) with rfl | rfl | rfl | rfl | rfl <;> rfl
theorem RN_ok : relOk RN := by
  refine ⟨fun c m m' r q => RN_J r q.1, fun c m s a r q p k => ?_, fun a b m r => RN_C r (bc_I a.1 b.1) (bc_G a.2.1 b.2.1), fun c m m' g r => RN_J r (fun j hj => bk_sv j hj), fun c m r => r, fun c m s k v r q hk hv => ?_⟩
  · obtain ⟨W, H, N, g, hN, c11, m0, m1, m6, mk⟩ := r
    obtain ⟨i, x, y, z⟩ := a
    match i, k with
    | 0, k => exact ⟨x, y, N, gdF_size k.1 k.2.1 k.2.2.1 k.2.2.2, hN, c11, rfl, rfl, m6, fun j hj => by
        rcases (show j = 0 ∨ j = 1 ∨ j = 2 ∨ j = 3 by omega) with rfl | rfl | rfl | rfl
        · exact mk 0 (by decide)
        · rfl
        · rfl
        · exact mk 3 (by decide)⟩
    | 1, k => exact ⟨W, H, N, g, hN, c11, m0, m1, m6, mk⟩
    | 2, k =>
      have k1 : x < 4 := k.1
      refine ⟨W, H, N, gdF_I g (u_ne (by omega)) (u_ne (by omega)) (fun _ _ _ => rfl), hN, (u_ne (show (11 : Nat) ≠ 7 + x by omega)).trans c11, (u_ne (show (0 : Nat) ≠ 2 + x by omega)).trans m0, (u_ne (show (1 : Nat) ≠ 2 + x by omega)).trans m1, (u_ne (show (6 : Nat) ≠ 2 + x by omega)).trans m6, fun j hj => ?_⟩
      show upd c.1 (7 + x) (Int32.ofNat y) (7 + j) = upd m.1 (2 + x) (Int32.ofNat y) (2 + j)
      by_cases e : j = x
      · rw [e, u_at, u_at]
      · rw [u_ne (by omega), u_ne (by omega)]; exact mk j hj
    | 3, k =>
      have eN := ofN_toInt (n := N) (by omega)
      have e1 : (c.1 11).toNatClampNeg = N := by rw [c11]; exact i_nat eN
      have e2 : (m.1 6).toNatClampNeg = N := by rw [m6]; exact i_nat eN
      have k3 : s.2.2 < 5 := k.2.2
      have e3 : N = s.2.2 := by
        have := q.2.2.1
        rw [c11] at this
        have h2 := congrArg Int32.toInt this
        rw [ofN_toInt (by omega), ofN_toInt (by omega)] at h2
        omega
      show RN (cfHeir (c.1 11).toNatClampNeg (Int32.ofNat x) c) (mfHeir (m.1 6).toNatClampNeg (Int32.ofNat x) m)
      rw [e1, e2]
      refine ⟨W, H, N + 1, gdF_I g rfl rfl (fun _ _ _ => rfl), by omega, rfl, m0, m1, rfl, fun j hj => ?_⟩
      show upd c.1 11 (Int32.ofNat (N + 1)) (7 + j) = upd m.1 6 (Int32.ofNat (N + 1)) (2 + j)
      rw [u_ne (by omega), u_ne (by omega)]
      exact mk j hj
    | i + 4, k => exact ⟨W, H, N, g, hN, c11, m0, m1, m6, mk⟩
  · obtain ⟨W, H, N, g, hN, c11, m0, m1, m6, mk⟩ := r
    refine ⟨W, H, N, gdF_I g (u_ne (by omega)) (u_ne (by omega)) (fun _ _ _ => rfl), hN, (u_ne (show (11 : Nat) ≠ 7 + k by omega)).trans c11, (u_ne (show (0 : Nat) ≠ 2 + k by omega)).trans m0, (u_ne (show (1 : Nat) ≠ 2 + k by omega)).trans m1, (u_ne (show (6 : Nat) ≠ 2 + k by omega)).trans m6, fun j hj => ?_⟩
    show upd c.1 (7 + k) v (7 + j) = upd m.1 (2 + k) v (2 + j)
    by_cases e : j = k
    · rw [e, u_at, u_at]
    · rw [u_ne (by omega), u_ne (by omega)]; exact mk j hj
/-- FOND is 0 or 1 -/
def fb01 (c : CF) : Prop := ∀ k, k < 5 → c.2.2.2.2.2.1 k = 0 ∨ c.2.2.2.2.2.1 k = 1
theorem fb_do {c : CF} (h : fb01 c) (a : Act) : fb01 (cfDo c a) := by
  obtain ⟨i, x, y, z⟩ := a
  match i with
  | 0 => exact h
  | 1 => exact h
  | 2 => exact h
  | 3 =>
    intro k hk
    show upd c.2.2.2.2.2.1 (c.1 11).toNatClampNeg 0 k = 0 ∨ upd c.2.2.2.2.2.1 (c.1 11).toNatClampNeg 0 k = 1
    by_cases e : k = (c.1 11).toNatClampNeg
    · rw [e, u_at]; exact Or.inl rfl
    · rw [u_ne e]; exact h k hk
  | i + 4 => exact h
theorem fb_dos {c : CF} (h : fb01 c) : ∀ as : List Act, fb01 (as.foldl cfDo c) := by
  intro as
  induction as generalizing c with
  | nil => exact h
  | cons a as ih => exact ih (fb_do h a)
theorem fb_bc {a b : CF} (h : fb01 a) : fb01 (cfBecome a b) := fun k hk => by
  show cpI a.2.2.2.2.2.1 b.2.2.2.2.2.1 5 k = 0 ∨ cpI a.2.2.2.2.2.1 b.2.2.2.2.2.1 5 k = 1
  have e : cpI a.2.2.2.2.2.1 b.2.2.2.2.2.1 5 k = a.2.2.2.2.2.1 k := if_pos hk
  rw [e]; exact h k hk
end
section
/-! ===== the fields' ints, alike ===== -/
def nkC (h : sHp) (I : Nat → Int32) (G : Nat → Int64) (Ik : Nat → Int32) (Gk : Nat → Int64) (ik tf : Int32) : Prop := h[5]? = some (fO 5 I G) ∧ h[16]? = some (fO 16 Ik Gk) ∧ h[0]? = some (cO ik tf) ∧ fxR h 5 ∧ fxR h 16 ∧ fxR h 27
def nkM (h : sHp) (J g : Nat → Int32) : Prop := (∃ J', h[60]? = some (mO J') ∧ (∀ j, j < 7 → J' j = J j) ∧ J' 37 = J 37) ∧ h[75]? = some (.inl (0, 180, .inl g))
def RNi (I : Nat → Int32) (G : Nat → Int64) (J : Nat → Int32) : Prop := RN (I, G, (fun _ => 0), (fun _ => 0), (fun _ _ => 0), (fun _ => 0), (fun _ => 0)) (J, (fun _ => 0), (fun _ => 0), (fun _ => 0), (fun _ => 0), (fun _ => 0))
def bNK (h : sHp) : Prop := ∃ (I : Nat → Int32) (G : Nat → Int64) (Ik : Nat → Int32) (Gk : Nat → Int64) (ik tf : Int32) (J g : Nat → Int32), nkC h I G Ik Gk ik tf ∧ nkM h J g ∧ J 37 = ik ∧ RNi I G J ∧ (¬ ik = 0 → RNi Ik Gk (fun j => g (168 + j)))
def NKc : List Nat := (List.range 11).map (fun j => 0 * 64 + j) ++ ((List.range 17).map (fun j => 5 * 64 + j) ++ ((List.range 17).map (fun j => 16 * 64 + j) ++ [8 * 64, 19 * 64, 30 * 64]))
def NKm : List Nat := [3840, 3841, 3842, 3843, 3844, 3845, 3846, 3877, 4800]
theorem fxR_fr {W gg p : Nat} {h h' : sHp} (a : bFr W gg h h') (hp : p = 5 ∨ p = 16 ∨ p = 27) (hW : W.testBit ((p + 3) * 64) = false) (q : fxR h p) : fxR h' p := by
  obtain ⟨f, q1, q2⟩ := q
  rcases hp with rfl | rfl | rfl
  · exact ⟨f, bFr_arr a q1 (by decide) rfl hW, q2⟩
  · exact ⟨f, bFr_arr a q1 (by decide) rfl hW, q2⟩
  · exact ⟨f, bFr_arr a q1 (by decide) rfl hW, q2⟩
theorem nkC_fr {W gg : Nat} {h h' : sHp} {I : Nat → Int32} {G : Nat → Int64} {Ik : Nat → Int32} {Gk : Nat → Int64} {ik tf : Int32} (a : bFr W gg h h') (hW : ∀ b ∈ NKc, W.testBit b = false) (q : nkC h I G Ik Gk ik tf) : nkC h' I G Ik Gk ik tf := by
  obtain ⟨q1, q2, q3, q4, q5, q6⟩ := q
  refine ⟨bFr_obj (K := 5) (n := 17) a q1 rfl rfl (fun j hj => hW _ ?_), bFr_obj (K := 16) (n := 17) a q2 rfl rfl (fun j hj => hW _ ?_), bFr_obj (K := 0) (n := 11) a q3 rfl rfl (fun j hj => hW _ ?_), fxR_fr a (by decide) (hW _ (by decide)) q4, fxR_fr a (by decide) (hW _ (by decide)) q5, fxR_fr a (by decide) (hW _ (by decide)) q6⟩
  · exact List.mem_append_right _ (List.mem_append_left _ (List.mem_map.mpr ⟨j, List.mem_range.mpr hj, rfl⟩))
  · exact List.mem_append_right _ (List.mem_append_right _ (List.mem_append_left _ (List.mem_map.mpr ⟨j, List.mem_range.mpr hj, rfl⟩)))
  · exact List.mem_append_left _ (List.mem_map.mpr ⟨j, List.mem_range.mpr hj, rfl⟩)
theorem nkM_fr {W gg : Nat} {h h' : sHp} {J g : Nat → Int32} (hH' : bH h') (a : bFr W gg h h') (hW : ∀ b ∈ NKm, W.testBit b = false) (q : nkM h J g) : nkM h' J g := by
  obtain ⟨⟨J', q1, q2, q3⟩, q4⟩ := q
  obtain ⟨⟨J'', R⟩, M⟩ := MC_of hH'
  refine ⟨⟨J'', M.1, ?_⟩, bFr_arr a q4 (by decide) rfl (hW _ (by decide))⟩
  obtain ⟨c', h1, h2⟩ := a.2.2 60 _ q1
  have h3 := M.1
  rw [h1] at h3
  cases h3
  obtain ⟨-, -, e3, -⟩ := h2
  have k : ∀ j, (3840 + j) ∈ NKm → [Value.int (J'' 0), .int (J'' 1), .int (J'' 2), .int (J'' 3), .int (J'' 4), .int (J'' 5), .int (J'' 6), .int (J'' 7), .ref 61, .ref 62, .ref 63, .ref 64, .ref 65, .ref 66, .ref 67, .ref 68, .ref 69, .ref 70, .ref 71, .ref 72, .ref 73, .int (J'' 21), .int (J'' 22), .int (J'' 23), .int (J'' 24), .int (J'' 25), .ref 74, .ref 75, .int (J'' 28), .ref 76, .ref 77, .int (J'' 31), .int (J'' 32), .int (J'' 33), .int (J'' 34), .ref 78, .int (J'' 36), .int (J'' 37)][j]? = [Value.int (J' 0), .int (J' 1), .int (J' 2), .int (J' 3), .int (J' 4), .int (J' 5), .int (J' 6), .int (J' 7), .ref 61, .ref 62, .ref 63, .ref 64, .ref 65, .ref 66, .ref 67, .ref 68, .ref 69, .ref 70, .ref 71, .ref 72, .ref 73, .int (J' 21), .int (J' 22), .int (J' 23), .int (J' 24), .int (J' 25), .ref 74, .ref 75, .int (J' 28), .ref 76, .ref 77, .int (J' 31), .int (J' 32), .int (J' 33), .int (J' 34), .ref 78, .int (J' 36), .int (J' 37)][j]? := fun j hj => e3 j (hW _ hj)
  have inj : ∀ {x y : Int32}, (some (Value.int x) : Option Value) = some (Value.int y) → x = y := fun h => by cases h; rfl
  have ej : ∀ j, j < 7 → J'' j = J' j := fun j hj => by
    match j, hj with
    | 0, _ => exact inj (k 0 (by decide))
    | 1, _ => exact inj (k 1 (by decide))
    | 2, _ => exact inj (k 2 (by decide))
    | 3, _ => exact inj (k 3 (by decide))
    | 4, _ => exact inj (k 4 (by decide))
    | 5, _ => exact inj (k 5 (by decide))
    | 6, _ => exact inj (k 6 (by decide))
    | j + 7, hj => exact absurd hj (by omega)
  exact ⟨fun j hj => (ej j hj).trans (q2 j hj), (inj (k 37 (by decide))).trans q3⟩
theorem bNK_fr {W gg : Nat} {h h' : sHp} (hH' : bH h') (a : bFr W gg h h') (hc : ∀ b ∈ NKc, W.testBit b = false) (hm : ∀ b ∈ NKm, W.testBit b = false) (q : bNK h) : bNK h' := by
  obtain ⟨I, G, Ik, Gk, ik, tf, J, g, q1, q2, q3⟩ := q
  exact ⟨I, G, Ik, Gk, ik, tf, J, g, nkC_fr a hc q1, nkM_fr hH' a hm q2, q3⟩
/-- pairs that keep a relation -/
def pairR (R : sHp → Prop) (k1 k2 : Nat) (as : List Value) : Prop := ∀ h, bH h → R h → sDo 10 k1 (.ref 0 :: as) h (fun r1 h1 => bH h1 ∧ h1.length ≤ h.length + 1 ∧ sDo 10 k2 (.ref 60 :: as) h1 (fun r2 h2 => bH h2 ∧ h2.length ≤ h1.length + 1 ∧ R h2 ∧ ∃ x, r1 = some x ∧ r2 = some x))
theorem en_use {c : bCn} {vs : List Value} (hc : bHolds c) (hd : Nat.ble c.2.1 10 = true) (hg : Nat.ble c.2.2.2.2.2.1 1 = true) (ho : c.2.2.2.1 = []) {h : sHp} (hH : bH h) (ht : bTl h c.2.2.1 vs) : sDo 10 c.1 vs h (fun _ h' => bH h' ∧ h'.length ≤ h.length + 1 ∧ bFr c.2.2.2.2.1 c.2.2.2.2.2.1 h h') := by
  refine sDo_up (Nat.le_of_ble_eq_true hd) (sDo_mono (hc h vs hH ht (by rw [ho]; exact fun e he => by cases he)) (fun r h' hen => ⟨hen.1, ?_, hen.2.1⟩))
  have := hen.2.1.2.1
  have := Nat.le_of_ble_eq_true hg
  omega
theorem pr_mk {R : sHp → Prop} {c1 c2 : bCn} {as : List Value} (h1 : bHolds c1) (h2 : bHolds c2) (d1 : Nat.ble c1.2.1 10 = true) (d2 : Nat.ble c2.2.1 10 = true) (g1 : Nat.ble c1.2.2.2.2.2.1 1 = true) (g2 : Nat.ble c2.2.2.2.2.2.1 1 = true) (o1 : c1.2.2.2.1 = []) (o2 : c2.2.2.2.1 = []) (t1 : ∀ h, bH h → bTl h c1.2.2.1 (.ref 0 :: as)) (t2 : ∀ h, bH h → bTl h c2.2.2.1 (.ref 60 :: as)) (e : ∀ h, bH h → R h → sDo 10 c1.1 (.ref 0 :: as) h (fun r1 h1 => bH h1 → bFr c1.2.2.2.2.1 c1.2.2.2.2.2.1 h h1 → sDo 10 c2.1 (.ref 60 :: as) h1 (fun r2 h2 => bH h2 → bFr c2.2.2.2.2.1 c2.2.2.2.2.2.1 h1 h2 → R h2 ∧ ∃ x, r1 = some x ∧ r2 = some x))) : pairR R c1.1 c2.1 as := by
  intro h hH hR
  refine sDo_mono (sDo_and (e h hH hR) (en_use h1 d1 g1 o1 hH (t1 h hH))) (fun r1 h1' q => ⟨q.2.1, q.2.2.1, ?_⟩)
  exact sDo_mono (sDo_and (q.1 q.2.1 q.2.2.2) (en_use h2 d2 g2 o2 q.2.1 (t2 h1' q.2.1))) (fun r2 h2' z => ⟨z.2.1, z.2.2.1, z.1 z.2.1 z.2.2.2⟩)
theorem fr_useX {c : bCn} {vs : List Value} (hc : bHolds c) (hd : Nat.ble c.2.1 10 = true) (ho : c.2.2.2.1 = []) {h : sHp} (hH : bH h) (ht : bTl h c.2.2.1 vs) : sDo 10 c.1 vs h (fun _ h' => bFr c.2.2.2.2.1 c.2.2.2.2.2.1 h h') :=
  sDo_up (Nat.le_of_ble_eq_true hd) (sDo_mono (hc h vs hH ht (by rw [ho]; exact fun e he => by cases he)) (fun r h' hen => hen.2.1))
/-- one relation more, that both calls leave alone -/
theorem pr_and {R P : sHp → Prop} {c1 c2 : bCn} {as : List Value} (hp : pairR R c1.1 c2.1 as) (f1 : ∀ {g : Nat} {h h' : sHp}, bH h' → bFr c1.2.2.2.2.1 g h h' → P h → P h') (f2 : ∀ {g : Nat} {h h' : sHp}, bH h' → bFr c2.2.2.2.2.1 g h h' → P h → P h') (h1 : bHolds c1) (h2 : bHolds c2) (d1 : Nat.ble c1.2.1 10 = true) (d2 : Nat.ble c2.2.1 10 = true) (o1 : c1.2.2.2.1 = []) (o2 : c2.2.2.2.1 = []) (t1 : ∀ h, bH h → bTl h c1.2.2.1 (.ref 0 :: as)) (t2 : ∀ h, bH h → bTl h c2.2.2.1 (.ref 60 :: as)) : pairR (fun h => R h ∧ P h) c1.1 c2.1 as := by
  intro h hH hR
  refine sDo_mono (sDo_and (hp h hH hR.1) (fr_useX h1 d1 o1 hH (t1 h hH))) (fun r1 h1' q => ⟨q.1.1, q.1.2.1, ?_⟩)
  exact sDo_mono (sDo_and q.1.2.2 (fr_useX h2 d2 o2 q.1.1 (t2 h1' q.1.1))) (fun r2 h2' z => ⟨z.1.1, z.1.2.1, ⟨z.1.2.2.1, f2 z.1.1 z.2 (f1 q.1.1 q.2 hR.2)⟩, z.1.2.2.2⟩)
theorem nkC_43 {h : sHp} {I : Nat → Int32} {G : Nat → Int64} {Ik : Nat → Int32} {Gk : Nat → Int64} {ik tf : Int32} {c : va_E} (q : nkC h I G Ik Gk ik tf) : nkC (h.set 43 c) I G Ik Gk ik tf := by
  obtain ⟨q1, q2, q3, ⟨f5, a5, b5⟩, ⟨f6, a6, b6⟩, ⟨f7, a7, b7⟩⟩ := q
  exact ⟨by rw [s_set_ne (by decide)]; exact q1, by rw [s_set_ne (by decide)]; exact q2, by rw [s_set_ne (by decide)]; exact q3, ⟨f5, by rw [s_set_ne (by decide)]; exact a5, b5⟩, ⟨f6, by rw [s_set_ne (by decide)]; exact a6, b6⟩, ⟨f7, by rw [s_set_ne (by decide)]; exact a7, b7⟩⟩
/-- the class's part once now has become another -/
theorem nkC_5 {h h' : sHp} {I : Nat → Int32} {G : Nat → Int64} {Ik : Nat → Int32} {Gk : Nat → Int64} {ik tf : Int32} {c : CF} (q : nkC h I G Ik Gk ik tf) (F : FC h' 5 c) (E : fE 5 h h') : nkC h' c.1 c.2.1 Ik Gk ik tf := by
  obtain ⟨q1, q2, q3, q4, ⟨f6, a6, b6⟩, ⟨f7, a7, b7⟩⟩ := q
  exact ⟨F.1, (E.2 _ (by decide)).trans q2, (E.2 _ (by decide)).trans q3, F.2.2.2.1, ⟨f6, (E.2 _ (by decide)).trans a6, b6⟩, ⟨f7, (E.2 _ (by decide)).trans a7, b7⟩⟩
theorem nk_61 {h : sHp} {J g J0 : Nat → Int32} {c : va_E} (h60 : h[60]? = some (mO J)) (h75 : h[75]? = some (.inl (0, 180, .inl g))) (e : ∀ j, j < 7 → J j = J0 j) (e37 : J 37 = J0 37) : nkM (h.set 61 c) J0 g := ⟨⟨J, by rw [s_set_ne (by decide)]; exact h60, e, e37⟩, by rw [s_set_ne (by decide)]; exact h75⟩
theorem M75 {W gg : Nat} {h h' : sHp} {g : Nat → Int32} (a : bFr W gg h h') (q : h[75]? = some (.inl (0, 180, .inl g))) (hW : W.testBit 4800 = false) : h'[75]? = some (.inl (0, 180, .inl g)) := bFr_arr a q (by decide) rfl hW
theorem pn_size (x : Int32) (y : Int32) : pairR bNK 124 204 [.int x, .int y] := pr_mk (c1 := cn_X11_size_0) (c2 := cn_X12_size_0) ch_X11_size_0 ch_X12_size_0 (by decide +kernel) (by decide +kernel) (by decide +kernel) (by decide +kernel) rfl rfl (fun h hH => ⟨bt0 hH, vI0 x, vI0 y, trivial⟩) (fun h hH => ⟨bt60 hH, vI0 x, vI0 y, trivial⟩) (fun h hH hR => by
  obtain ⟨I, G, Ik, Gk, ik, tf, J, g, ⟨q5, q16, q0, x5, x16, x27⟩, qm, ej, rn, rk⟩ := hR
  obtain ⟨⟨so, sh, wo, fo, ow⟩, F, fb⟩ := FC_ext5 hH q5 x5
  obtain ⟨Rc, hRc⟩ := RA_of hH (p := 43) (Or.inl rfl)
  obtain ⟨s, sI, sJ, gF, gM⟩ := RN_sg rn
  refine sDo_mono (s_size11 (d := 10) (by omega) q0 hRc F) (fun r1 h1 q hH1 fr1 => ?_)
  obtain ⟨⟨J', M60, eJ, e37⟩, g75⟩ := nkM_fr hH1 fr1 (by decide +kernel) qm
  obtain ⟨⟨so', ow', sh', fo', va'⟩, M⟩ := MC_ext hH1 M60
  obtain ⟨Rm, hRm⟩ := RA_of hH1 (p := 61) (Or.inr rfl)
  have qC : nkC h I G Ik Gk ik tf := ⟨q5, q16, q0, x5, x16, x27⟩
  have sJ' : sgJ J' s := by obtain ⟨a, b, c, d⟩ := sJ; exact ⟨(eJ 0 (by decide)).trans a, (eJ 1 (by decide)).trans b, (eJ 6 (by decide)).trans c, d⟩
  have rnJ : RN (I, G, so, sh, wo, fo, ow) (J', so', ow', sh', fo', va') := RN_J (m := (J, so', ow', sh', fo', va')) rn eJ
  refine sDo_mono (s_size12 (x := x) (y := y) hH1 M) (fun r2 h2 p hH2 fr2 => ?_)
  have okE : okSz x y ↔ (2 ≤ x.toInt ∧ x.toInt ≤ 8 ∧ 2 ≤ y.toInt ∧ y.toInt ≤ 8) := Iff.rfl
  rcases q with ⟨k, rfl, F1, E1⟩ | ⟨k, rfl, rfl⟩
  · rcases p with ⟨-, rfl, M2⟩ | ⟨k2, -⟩
    · have nc := nkC_fr fr2 (by decide +kernel) (nkC_5 qC F1 E1)
      rw [okE] at k
      obtain ⟨X, hX⟩ : ∃ X : Nat, x.toInt = X := ⟨x.toInt.toNat, by omega⟩
      obtain ⟨Y, hY⟩ : ∃ Y : Nat, y.toInt = Y := ⟨y.toInt.toNat, by omega⟩
      have ex : x = Int32.ofNat X := Int32.toInt_inj.mp (by rw [hX, ofN_toInt (by omega)])
      have ey : y = Int32.ofNat Y := Int32.toInt_inj.mp (by rw [hY, ofN_toInt (by omega)])
      rw [ex, ey] at nc M2
      have h75 := (M75 fr2 g75 (by decide +kernel))
      have rn2 := RN_ok.2.1 _ _ s (0, X, Y, 0) rnJ sI sJ' ⟨by omega, by omega, by omega, by omega⟩
      exact ⟨⟨_, _, Ik, Gk, ik, tf, _, g, nc, ⟨⟨_, M2.1, fun _ _ => rfl, rfl⟩, h75⟩, e37.trans ej, rn2, rk⟩, _, rfl, rfl⟩
    · exact absurd k k2
  · rcases p with ⟨k2, -⟩ | ⟨-, rfl, M2⟩
    · exact absurd k2 k
    · have nc := nkC_fr fr2 (by decide +kernel) (nkC_43 (c := rFc (bump Rc 6)) qC)
      have h75 := (M75 fr2 g75 (by decide +kernel))
      exact ⟨⟨I, G, Ik, Gk, ik, tf, J, g, nc, ⟨⟨J', M2.1, eJ, e37⟩, h75⟩, ej, rn, rk⟩, _, rfl, rfl⟩)
theorem pn_place (x : Int32) (v : Int32) : pairR bNK 126 206 [.int x, .int v] := pr_mk (c1 := cn_X11_place_0) (c2 := cn_X12_place_0) ch_X11_place_0 ch_X12_place_0 (by decide +kernel) (by decide +kernel) (by decide +kernel) (by decide +kernel) rfl rfl (fun h hH => ⟨bt0 hH, vI0 x, vI0 v, trivial⟩) (fun h hH => ⟨bt60 hH, vI0 x, vI0 v, trivial⟩) (fun h hH hR => by
  obtain ⟨I, G, Ik, Gk, ik, tf, J, g, ⟨q5, q16, q0, x5, x16, x27⟩, qm, ej, rn, rk⟩ := hR
  obtain ⟨⟨so, sh, wo, fo, ow⟩, F, fb⟩ := FC_ext5 hH q5 x5
  obtain ⟨Rc, hRc⟩ := RA_of hH (p := 43) (Or.inl rfl)
  obtain ⟨s, sI, sJ, gF, gM⟩ := RN_sg rn
  have qC : nkC h I G Ik Gk ik tf := ⟨q5, q16, q0, x5, x16, x27⟩
  refine sDo_mono (s_place11 (d := 10) (x := x) (v := v) (by omega) q0 hRc F gF) (fun r1 h1 q hH1 fr1 => ?_)
  obtain ⟨⟨J', M60, eJ, e37⟩, g75⟩ := nkM_fr hH1 fr1 (by decide +kernel) qm
  obtain ⟨⟨so', ow', sh', fo', va'⟩, M⟩ := MC_ext hH1 M60
  obtain ⟨Rm, hRm⟩ := RA_of hH1 (p := 61) (Or.inr rfl)
  have sJ' : sgJ J' s := by obtain ⟨a, b, c, d⟩ := sJ; exact ⟨(eJ 0 (by decide)).trans a, (eJ 1 (by decide)).trans b, (eJ 6 (by decide)).trans c, d⟩
  have rnJ : RN (I, G, so, sh, wo, fo, ow) (J', so', ow', sh', fo', va') := RN_J (m := (J, so', ow', sh', fo', va')) rn eJ
  have gM' : gdM J' s.1 s.2.1 := ⟨sJ'.1, sJ'.2.1, sJ'.2.2.2.1, sJ'.2.2.2.2.1, sJ'.2.2.2.2.2.1, sJ'.2.2.2.2.2.2.1⟩
  refine sDo_mono (s_place12 (d := 10) (x := x) (v := v) (by omega) M hRm gM') (fun r2 h2 p hH2 fr2 => ?_)
  rcases q with ⟨K, hK, hx, k, rfl, rfl⟩ | ⟨k, rfl, rfl⟩
  · rcases p with ⟨K2, hK2, hx2, -, rfl, rfl⟩ | ⟨k2, -⟩
    · have eK : K2 = K := by omega
      subst eK
      have F1 := FC_0 (I := upd I (7 + K2) v) (G := G) F
      have nc := nkC_fr fr2 (by decide +kernel) (nkC_5 qC F1 (fE_set fE_rfl (by omega) (by omega)))
      have h75 := M75 fr2 g75 (by decide +kernel)
      rw [hx2] at k
      have rn2 := RN_ok.2.2.2.2.2 _ _ s K2 v rnJ sI hK k
      obtain ⟨W', H', N', -, -, -, -, -, -, mk⟩ := rnJ
      have ev : I (7 + K2) = J' (2 + K2) := mk K2 hK
      refine ⟨⟨_, _, Ik, Gk, ik, tf, upd J' (2 + K2) v, g, nc, ⟨⟨_, s_set_eq M60, fun _ _ => rfl, rfl⟩, h75⟩, (u_ne (by omega)).trans (e37.trans ej), rn2, rk⟩, _, rfl, ?_⟩
      exact congrArg (fun z => some (Value.int z)) ev.symm
    · exact absurd k k2
  · rcases p with ⟨-, -, -, k2, -⟩ | ⟨-, rfl, rfl⟩
    · exact absurd k2 k
    · have nc := nkC_fr fr2 (by decide +kernel) (nkC_43 (c := rFc (bump Rc 6)) qC)
      have h75 := M75 fr2 g75 (by decide +kernel)
      exact ⟨⟨I, G, Ik, Gk, ik, tf, J, g, nc, ⟨⟨J', by rw [s_set_ne (by decide)]; exact M60, eJ, e37⟩, h75⟩, ej, rn, rk⟩, _, rfl, rfl⟩)
theorem pn_heir (x : Int32) : pairR bNK 127 207 [.int x] := pr_mk (c1 := cn_X11_heir_0) (c2 := cn_X12_heir_0) ch_X11_heir_0 ch_X12_heir_0 (by decide +kernel) (by decide +kernel) (by decide +kernel) (by decide +kernel) rfl rfl (fun h hH => ⟨bt0 hH, vI0 x, trivial⟩) (fun h hH => ⟨bt60 hH, vI0 x, trivial⟩) (fun h hH hR => by
  obtain ⟨I, G, Ik, Gk, ik, tf, J, g, ⟨q5, q16, q0, x5, x16, x27⟩, qm, ej, rn, rk⟩ := hR
  obtain ⟨⟨so, sh, wo, fo, ow⟩, F, fb⟩ := FC_ext5 hH q5 x5
  obtain ⟨Rc, hRc⟩ := RA_of hH (p := 43) (Or.inl rfl)
  obtain ⟨s, sI, sJ, gF, gM⟩ := RN_sg rn
  have qC : nkC h I G Ik Gk ik tf := ⟨q5, q16, q0, x5, x16, x27⟩
  refine sDo_mono (s_heir11 (d := 10) (x := x) (N := s.2.2) (by omega) q0 hRc F sI.2.2.1 sI.2.2.2.2.2.2.2) (fun r1 h1 q hH1 fr1 => ?_)
  obtain ⟨⟨J', M60, eJ, e37⟩, g75⟩ := nkM_fr hH1 fr1 (by decide +kernel) qm
  obtain ⟨⟨so', ow', sh', fo', va'⟩, M⟩ := MC_ext hH1 M60
  obtain ⟨Rm, hRm⟩ := RA_of hH1 (p := 61) (Or.inr rfl)
  have sJ' : sgJ J' s := by obtain ⟨a, b, c, d⟩ := sJ; exact ⟨(eJ 0 (by decide)).trans a, (eJ 1 (by decide)).trans b, (eJ 6 (by decide)).trans c, d⟩
  have rnJ : RN (I, G, so, sh, wo, fo, ow) (J', so', ow', sh', fo', va') := RN_J (m := (J, so', ow', sh', fo', va')) rn eJ
  have gM' : gdM J' s.1 s.2.1 := ⟨sJ'.1, sJ'.2.1, sJ'.2.2.2.1, sJ'.2.2.2.2.1, sJ'.2.2.2.2.2.1, sJ'.2.2.2.2.2.2.1⟩
  refine sDo_mono (s_heir12 (d := 10) (x := x) (N := s.2.2) (by omega) M hRm sJ'.2.2.1 sJ'.2.2.2.2.2.2.2) (fun r2 h2 p hH2 fr2 => ?_)
  rcases q with ⟨k, k1, rfl, F1, E1⟩ | ⟨k, k1, rfl, rfl⟩ | ⟨k, rfl, rfl⟩
  · rcases p with ⟨-, -, rfl, M2, -⟩ | ⟨-, k2, -⟩ | ⟨k2, -⟩
    · have nc := nkC_fr fr2 (by decide +kernel) (nkC_5 qC F1 E1)
      have h75 := M75 fr2 g75 (by decide +kernel)
      obtain ⟨X, hX⟩ : ∃ X : Nat, x.toInt = X := ⟨x.toInt.toNat, by omega⟩
      have ex : x = Int32.ofNat X := Int32.toInt_inj.mp (by rw [hX, ofN_toInt (by omega)])
      have eN := ofN_toInt (n := s.2.2) (by omega)
      have rn2 := RN_ok.2.1 _ _ s (3, X, 0, 0) rnJ sI sJ' ⟨by omega, by omega, k1⟩
      have e1 : (I 11).toNatClampNeg = s.2.2 := by rw [show I 11 = Int32.ofNat s.2.2 from sI.2.2.1]; exact i_nat eN
      have e2 : (J' 6).toNatClampNeg = s.2.2 := by rw [show J' 6 = Int32.ofNat s.2.2 from sJ'.2.2.1]; exact i_nat eN
      have rn3 : RN (cfHeir s.2.2 x (I, G, so, sh, wo, fo, ow)) (mfHeir s.2.2 x (J', so', ow', sh', fo', va')) := by
        have rn2' : RN (cfHeir (I 11).toNatClampNeg (Int32.ofNat X) (I, G, so, sh, wo, fo, ow)) (mfHeir (J' 6).toNatClampNeg (Int32.ofNat X) (J', so', ow', sh', fo', va')) := rn2
        rw [e1, e2, ← ex] at rn2'
        exact rn2'
      exact ⟨⟨_, _, Ik, Gk, ik, tf, _, g, nc, ⟨⟨_, M2.1, fun _ _ => rfl, rfl⟩, h75⟩, e37.trans ej, rn3, rk⟩, _, rfl, rfl⟩
    · omega
    · exact absurd k k2
  · rcases p with ⟨-, k2, -⟩ | ⟨-, -, rfl, rfl⟩ | ⟨k2, -⟩
    · omega
    · have nc := nkC_fr fr2 (by decide +kernel) (nkC_43 (c := rFc (bump Rc 7)) qC)
      have h75 := M75 fr2 g75 (by decide +kernel)
      exact ⟨⟨I, G, Ik, Gk, ik, tf, J, g, nc, ⟨⟨J', by rw [s_set_ne (by decide)]; exact M60, eJ, e37⟩, h75⟩, ej, rn, rk⟩, _, rfl, rfl⟩
    · exact absurd k k2
  · rcases p with ⟨k2, -⟩ | ⟨k2, -⟩ | ⟨-, rfl, rfl⟩
    · exact absurd k2 k
    · exact absurd k2 k
    · have nc := nkC_fr fr2 (by decide +kernel) (nkC_43 (c := rFc (bump Rc 6)) qC)
      have h75 := M75 fr2 g75 (by decide +kernel)
      exact ⟨⟨I, G, Ik, Gk, ik, tf, J, g, nc, ⟨⟨J', by rw [s_set_ne (by decide)]; exact M60, eJ, e37⟩, h75⟩, ej, rn, rk⟩, _, rfl, rfl⟩)
theorem sv_at (m : MF) (g : Nat → Int32) : ∀ j, j < 7 → svF m g (168 + j) = m.1 j := fun j hj => by
  match j, hj with
  | 0, _ => rfl
  | 1, _ => rfl
  | 2, _ => rfl
  | 3, _ => rfl
  | 4, _ => rfl
  | 5, _ => rfl
  | 6, _ => rfl
  | j + 7, hj => exact absurd hj (by omega)
theorem pn_image : pairR bNK 154 254 [] := pr_mk (c1 := cn_X11_image_0) (c2 := cn_X12_image_0) ch_X11_image_0 ch_X12_image_0 (by decide +kernel) (by decide +kernel) (by decide +kernel) (by decide +kernel) rfl rfl (fun h hH => ⟨bt0 hH, trivial⟩) (fun h hH => ⟨bt60 hH, trivial⟩) (fun h hH hR => by
  obtain ⟨I, G, Ik, Gk, ik, tf, J, g, ⟨q5, q16, q0, x5, x16, x27⟩, qm, ej, rn, rk⟩ := hR
  obtain ⟨⟨so, sh, wo, fo, ow⟩, F, fb⟩ := FC_ext5 hH q5 x5
  obtain ⟨Rc, hRc⟩ := RA_of hH (p := 43) (Or.inl rfl)
  obtain ⟨s, sI, sJ, gF, gM⟩ := RN_sg rn
  have qC : nkC h I G Ik Gk ik tf := ⟨q5, q16, q0, x5, x16, x27⟩
  obtain ⟨⟨so2, sh2, wo2, fo2, ow2⟩, Fk, -⟩ := FC_ext16 hH q16 x16
  refine sDo_mono (s_image11 (d := 10) (by omega) q0 F Fk fb) (fun r1 h1 q hH1 fr1 => ?_)
  obtain ⟨rfl, F1, Fk1, z0, -, zq⟩ := q
  have M60 : ∃ J', h1[60]? = some (mO J') ∧ (∀ j, j < 7 → J' j = J j) ∧ J' 37 = J 37 := by
    obtain ⟨⟨J', a, b⟩, -⟩ := qm
    exact ⟨J', (zq 60 (by decide)).trans a, b⟩
  obtain ⟨J', M60, eJ, e37⟩ := M60
  have g75 := (zq 75 (by decide)).trans qm.2
  obtain ⟨⟨so', ow', sh', fo', va'⟩, M⟩ := MC_ext hH1 M60
  have rnJ : RN (I, G, so, sh, wo, fo, ow) (J', so', ow', sh', fo', va') := RN_J (m := (J, so', ow', sh', fo', va')) rn eJ
  refine sDo_mono (s_image12 M g75) (fun r2 h2 p hH2 fr2 => ?_)
  obtain ⟨rfl, M2, g2⟩ := p
  obtain ⟨f7, a7, b7⟩ := x27
  have nc : nkC h1 I G (cfBecome (I, G, so, sh, wo, fo, ow) (Ik, Gk, so2, sh2, wo2, fo2, ow2)).1 (cfBecome (I, G, so, sh, wo, fo, ow) (Ik, Gk, so2, sh2, wo2, fo2, ow2)).2.1 1 tf := ⟨F1.1, Fk1.1, z0, F1.2.2.2.1, Fk1.2.2.2.1, ⟨f7, (zq 30 (by decide)).trans a7, b7⟩⟩
  have nc2 := nkC_fr fr2 (by decide +kernel) nc
  have rk2 : RN (cfBecome (I, G, so, sh, wo, fo, ow) (Ik, Gk, so2, sh2, wo2, fo2, ow2)) (J', so', ow', sh', fo', va') := RN_ok.2.2.1 _ _ _ rnJ
  obtain ⟨W', H', N', -, -, c11, -, -, m6, -⟩ := id rnJ
  refine ⟨⟨I, G, _, _, 1, tf, upd J' 37 (Int32.ofInt 1), svF (J', so', ow', sh', fo', va') g, nc2, ⟨⟨_, M2.1, fun _ _ => rfl, rfl⟩, g2⟩, rfl, RN_J (m := (J', so', ow', sh', fo', va')) rnJ (fun j hj => u_ne (by omega)), fun _ => RN_J rk2 (fun j hj => sv_at _ _ j hj)⟩, _, rfl, ?_⟩
  exact congrArg (fun z => some (Value.int z)) (m6.trans c11.symm))
theorem pn_restore : pairR bNK 155 255 [] := pr_mk (c1 := cn_X11_restore_0) (c2 := cn_X12_restore_0) ch_X11_restore_0 ch_X12_restore_0 (by decide +kernel) (by decide +kernel) (by decide +kernel) (by decide +kernel) rfl rfl (fun h hH => ⟨bt0 hH, trivial⟩) (fun h hH => ⟨bt60 hH, trivial⟩) (fun h hH hR => by
  obtain ⟨I, G, Ik, Gk, ik, tf, J, g, ⟨q5, q16, q0, x5, x16, x27⟩, qm, ej, rn, rk⟩ := hR
  obtain ⟨⟨so, sh, wo, fo, ow⟩, F, fb⟩ := FC_ext5 hH q5 x5
  obtain ⟨Rc, hRc⟩ := RA_of hH (p := 43) (Or.inl rfl)
  obtain ⟨s, sI, sJ, gF, gM⟩ := RN_sg rn
  have qC : nkC h I G Ik Gk ik tf := ⟨q5, q16, q0, x5, x16, x27⟩
  obtain ⟨⟨so2, sh2, wo2, fo2, ow2⟩, Fk, fbk⟩ := FC_ext16 hH q16 x16
  refine sDo_mono (s_restore11 (d := 10) (by omega) q0 hRc F Fk fbk) (fun r1 h1 q hH1 fr1 => ?_)
  obtain ⟨⟨J', M60, eJ, e37⟩, g75⟩ := nkM_fr hH1 fr1 (by decide +kernel) qm
  obtain ⟨⟨so', ow', sh', fo', va'⟩, M⟩ := MC_ext hH1 M60
  obtain ⟨Rm, hRm⟩ := RA_of hH1 (p := 61) (Or.inr rfl)
  have sJ' : sgJ J' s := by obtain ⟨a, b, c, d⟩ := sJ; exact ⟨(eJ 0 (by decide)).trans a, (eJ 1 (by decide)).trans b, (eJ 6 (by decide)).trans c, d⟩
  have rnJ : RN (I, G, so, sh, wo, fo, ow) (J', so', ow', sh', fo', va') := RN_J (m := (J, so', ow', sh', fo', va')) rn eJ
  have gM' : gdM J' s.1 s.2.1 := ⟨sJ'.1, sJ'.2.1, sJ'.2.2.2.1, sJ'.2.2.2.2.1, sJ'.2.2.2.2.2.1, sJ'.2.2.2.2.2.2.1⟩
  have ei : J' 37 = ik := e37.trans ej
  refine sDo_mono (s_restore12 hH1 M g75) (fun r2 h2 p hH2 fr2 => ?_)
  rcases q with ⟨k, rfl, F1, E1⟩ | ⟨k, rfl, rfl⟩
  · rcases p with ⟨k2, -⟩ | ⟨-, rfl, M2, g2⟩
    · exact absurd (ei.symm.trans k2) k
    · have nc := nkC_fr fr2 (by decide +kernel) (nkC_5 qC F1 E1)
      have rk1 := rk k
      have rn2 : RN (cfBecome (Ik, Gk, so2, sh2, wo2, fo2, ow2) (I, G, so, sh, wo, fo, ow)) (mfBack (J', so', ow', sh', fo', va') g) := RN_J (RN_ok.2.2.1 (Ik, Gk, so2, sh2, wo2, fo2, ow2) (I, G, so, sh, wo, fo, ow) ((fun j => g (168 + j)), so', ow', sh', fo', va') rk1) (fun j hj => bk_at _ _ j hj)
      obtain ⟨W', H', N', -, -, c11, -, -, m6, -⟩ := id rk1
      refine ⟨⟨_, _, Ik, Gk, ik, tf, _, g, nc, ⟨⟨_, M2.1, fun _ _ => rfl, rfl⟩, g2⟩, ei, rn2, rk⟩, _, rfl, ?_⟩
      exact congrArg (fun z => some (Value.int z)) (show g 174 = Ik 11 from m6.trans c11.symm)
  · rcases p with ⟨-, rfl, M2, g2⟩ | ⟨k2, -⟩
    · have nc := nkC_fr fr2 (by decide +kernel) (nkC_43 (c := rFc (bump Rc 6)) qC)
      exact ⟨⟨I, G, Ik, Gk, ik, tf, J, g, nc, ⟨⟨J', M2.1, eJ, e37⟩, g2⟩, ej, rn, rk⟩, _, rfl, rfl⟩
    · exact absurd (ei.trans k) k2)
end
section
/-! ===== the pair of field ===== -/
theorem s_field11n {d : Nat} {h : sHp} {ik tf x b : Int32} {R : Nat → Int32} {B : Nat} (hd : 3 ≤ d) (h0 : h[0]? = some (cO ik tf)) (hR : h[43]? = some (rFc R)) (hb : b.toInt = -(B : Int)) (hB : 1 ≤ B ∧ B ≤ 7) (hno : sDo (d - 1) 161 [.ref 0, .int x] h (fun r h' => h' = h ∧ r = some (.int b))) : sDo d 122 [.ref 0, .int x] h (fun r h' => r = some (.int b) ∧ h' = h.set 43 (rFc (bump R B))) := by
  have hb0 : ¬ b = 0 := fun z => by rw [z] at hb; have e : (0 : Int32).toInt = 0 := rfl; omega
  refine sDo_of1 (nL := 5) (L := [some (.ref 0), some (.int x), none, none, none]) (by omega) rfl rfl ?_
  refine g_aload_n (i := 0) rfl rfl ?_
  refine g_iload_n (i := 1) rfl rfl ?_
  refine g_virt1 (Qc := fun r h' => h' = h ∧ r = some (.int b)) rfl (by decide) rfl h0 rfl (Nat.le_of_ble_eq_true rfl) (hno) (fun r h hq9 => ?_)
  obtain ⟨rfl, rfl⟩ := hq9
  refine g_istore_n (i := 2) (L1 := [some (.ref 0), some (.int x), some (.int b), none, none]) rfl (Nat.le_of_ble_eq_true rfl) rfl ?_
  refine g_iload_n (i := 2) rfl rfl ?_
  refine g_if_eq 16 rfl rfl (fun hc => absurd hc (by exact hb0)) (fun _ => ?_)
  refine g_aload_n (i := 0) rfl rfl ?_
  refine g_iload_n (i := 2) rfl rfl ?_
  refine g_virt1 (Qc := fun r h' => r = some (.int b) ∧ h' = h.set 43 (rFc (bump R B))) rfl (by decide) rfl h0 rfl (Nat.le_of_ble_eq_true rfl) (s_refuse2 (by omega) h0 hR hb hB) (fun r h9 hq9 => ?_)
  obtain ⟨rfl, rfl⟩ := hq9
  refine g_ireturn (ty := .int) rfl rfl rfl ?_
  exact ⟨rfl, rfl⟩
theorem s_field12n {d : Nat} {h : sHp} {J R hd : Nat → Int32} {x : Int32} {b : Int32} {B : Nat} (hd1 : 3 ≤ d) (hr : h[60]? = some (mO J)) (hR : h[61]? = some (rFc R)) (a4 : h[67]? = some (.inl (0, 8, .inl hd))) (hb : b.toInt = -(B : Int)) (hB : 1 ≤ B ∧ B ≤ 7) (hx : ((0 ≤ x.toInt ∧ x.toInt < 8) ∧ wtS hd x.toInt.toNat 1 = b) ∨ (¬ (0 ≤ x.toInt ∧ x.toInt < 8) ∧ b = -1)) : sDo d 202 [.ref 60, .int x] h (fun r h' => r = some (.int b) ∧ h' = h.set 61 (rFc (bump R B))) := by
  have hb0 : ¬ b = 0 := fun z => by rw [z] at hb; have e : (0 : Int32).toInt = 0 := rfl; omega
  refine sDo_of1 (nL := 5) (L := [some (.ref 60), some (.int x), none, none, none]) (by omega) rfl rfl ?_
  refine g_aload_n (i := 0) rfl rfl ?_
  refine g_iload_n (i := 1) rfl rfl ?_
  refine g_iconst (n := 1) rfl ?_
  refine g_virt2 (Qc := fun r h' => h' = h ∧ r = some (.int b)) rfl (by decide) rfl hr rfl (Nat.le_of_ble_eq_true rfl) (sDo_mono (s_wantsE (w := Int32.ofInt 1) (by omega) hr a4 (Or.inl rfl)) (fun r h9 q => ⟨q.1, ?_⟩)) (fun r h hq9 => ?_)
  · rcases q.2 with ⟨z, q2⟩ | ⟨z, q2⟩
    · rcases hx with ⟨-, y⟩ | ⟨y, -⟩
      · rw [q2, ← y]; rfl
      · exact absurd z y
    · rcases hx with ⟨y, -⟩ | ⟨-, y⟩
      · exact absurd y z
      · rw [q2, y]
  obtain ⟨rfl, rfl⟩ := hq9
  refine g_istore_n (i := 2) (L1 := [some (.ref 60), some (.int x), some (.int b), none, none]) rfl (Nat.le_of_ble_eq_true rfl) rfl ?_
  refine g_iload_n (i := 2) rfl rfl ?_
  refine g_if_eq 17 rfl rfl (fun hc => absurd hc (by exact hb0)) (fun _ => ?_)
  refine g_aload_n (i := 0) rfl rfl ?_
  refine g_iload_n (i := 2) rfl rfl ?_
  refine g_virt1 (Qc := fun r h' => r = some (.int b) ∧ h' = h.set 61 (rFc (bump R B))) rfl (by decide) rfl hr rfl (Nat.le_of_ble_eq_true rfl) (s_no2 (by omega) hr hR hb hB) (fun r h9 hq9 => ?_)
  obtain ⟨rfl, rfl⟩ := hq9
  refine g_ireturn (ty := .int) rfl rfl rfl ?_
  exact ⟨rfl, rfl⟩
theorem iso37 {W gg : Nat} {h h' : sHp} {J J' : Nat → Int32} (a : bFr W gg h h') (q : h[60]? = some (mO J)) (p : h'[60]? = some (mO J')) (hW : W.testBit 3877 = false) : J' 37 = J 37 := by
  obtain ⟨c', h1, h2⟩ := a.2.2 60 _ q
  rw [p] at h1
  cases h1
  obtain ⟨-, -, e3, -⟩ := h2
  have k : (some (Value.int (J' 37)) : Option Value) = some (Value.int (J 37)) := e3 37 hW
  have inj : ∀ {x y : Int32}, (some (Value.int x) : Option Value) = some (Value.int y) → x = y := fun h => by cases h; rfl
  exact inj k
theorem fdE_at {h h' : sHp} {lo q : Nat} {x : va_E} (E : fdE h h' lo) (hx : h[q]? = some x) (e1 : q < lo ∨ 15 < q) (e2 : q < 27 ∨ 37 < q) (e3 : q ≠ 0) (e4 : q ≠ 43) : h'[q]? = some x := (E.2 q e1 e2 e3 e4 (List.getElem?_eq_some_iff.mp hx).1).trans hx
theorem bR5_43 {h : sHp} {c : va_E} (q : bR5 h) : bR5 (h.set 43 c) := bR5_set q (by decide) (by decide) (by decide) (by decide) (by decide)
theorem nr_b {hd : Nat → Int32} {S : Nat} (h1 : hd S = 0 ∨ hd S = 2) : ∃ B : Nat, (1 ≤ B ∧ B ≤ 7) ∧ (nrOf hd S).toInt = -(B : Int) ∧ wtS hd S 1 = nrOf hd S := by
  unfold nrOf wtS
  rcases h1 with e | e
  · rw [e]; exact ⟨3, by decide, by decide, by decide⟩
  · rw [e]; exact ⟨2, by decide, by decide, by decide⟩
theorem pn_field (x : Int32) : pairR (fun h => bR5 h ∧ bNK h) 122 202 [.int x] := pr_mk (c1 := cn_X11_field_0) (c2 := cn_X12_field_0) ch_X11_field_0 ch_X12_field_0 (by decide +kernel) (by decide +kernel) (by decide +kernel) (by decide +kernel) rfl rfl (fun h hH => ⟨bt0 hH, vI0 x, trivial⟩) (fun h hH => ⟨bt60 hH, vI0 x, trivial⟩) (fun h hH hRR => by
  obtain ⟨hR5, hR⟩ := hRR
  obtain ⟨I, G, Ik, Gk, ik, tf, J, g, ⟨q5, q16, q0, x5, x16, x27⟩, qm, ej, rn, rk⟩ := hR
  have qC : nkC h I G Ik Gk ik tf := ⟨q5, q16, q0, x5, x16, x27⟩
  obtain ⟨⟨so, sh, wo, fo, ow⟩, F, fb⟩ := FC_ext5 hH q5 x5
  obtain ⟨cd, Fd, -⟩ := FC_at27 hH x27
  obtain ⟨Rc, hRc⟩ := RA_of hH (p := 43) (Or.inl rfl)
  obtain ⟨s, sI, sJ, gF, gM⟩ := RN_sg rn
  obtain ⟨hd, ro, sz, co, cl, f, gg, q4, bs⟩ := id hR5
  obtain ⟨⟨J', M60, eJ, e37⟩, g75⟩ := id qm
  have q4' := q4
  obtain ⟨a1, a2, a3, a4, a5, a6, a7, a8⟩ := q4'
  have sJ' : sgJ J' s := by obtain ⟨a, b, c, d⟩ := sJ; exact ⟨(eJ 0 (by decide)).trans a, (eJ 1 (by decide)).trans b, (eJ 6 (by decide)).trans c, d⟩
  have l79 := hH.1
  -- refused on both sides
  have refd : ∀ (b : Int32) (B : Nat), b.toInt = -(B : Int) → (1 ≤ B ∧ B ≤ 7) → sDo 9 161 [.ref 0, .int x] h (fun r h' => h' = h ∧ r = some (.int b)) → (((0 ≤ x.toInt ∧ x.toInt < 8) ∧ wtS hd x.toInt.toNat 1 = b) ∨ (¬ (0 ≤ x.toInt ∧ x.toInt < 8) ∧ b = -1)) → sDo 10 cn_X11_field_0.1 (.ref 0 :: [.int x]) h (fun r1 h1 => bH h1 → bFr cn_X11_field_0.2.2.2.2.1 cn_X11_field_0.2.2.2.2.2.1 h h1 → sDo 10 cn_X12_field_0.1 (.ref 60 :: [.int x]) h1 (fun r2 h2 => bH h2 → bFr cn_X12_field_0.2.2.2.2.1 cn_X12_field_0.2.2.2.2.2.1 h1 h2 → (bR5 h2 ∧ bNK h2) ∧ ∃ x, r1 = some x ∧ r2 = some x)) := by
    intro b B hb hB hno hx
    refine sDo_mono (s_field11n (d := 10) (by omega) q0 hRc hb hB hno) (fun r1 h1 q hH1 fr1 => ?_)
    obtain ⟨rfl, rfl⟩ := q
    obtain ⟨Rm, hRm⟩ := RA_of hH1 (p := 61) (Or.inr rfl)
    refine sDo_mono (s_field12n (d := 10) (by omega) (by rw [s_set_ne (by decide)]; exact M60) hRm (by rw [s_set_ne (by decide)]; exact a4) hb hB hx) (fun r2 h2 p hH2 fr2 => ?_)
    obtain ⟨rfl, rfl⟩ := p
    refine ⟨⟨bR5_fr fr2 (by decide +kernel) (bR5_43 hR5), I, G, Ik, Gk, ik, tf, J, g, nkC_fr fr2 (by decide +kernel) (nkC_43 qC), ⟨⟨J', by rw [s_set_ne (by decide), s_set_ne (by decide)]; exact M60, eJ, e37⟩, by rw [s_set_ne (by decide), s_set_ne (by decide)]; exact g75⟩, ej, rn, rk⟩, _, rfl, rfl⟩
  by_cases hS : 0 ≤ x.toInt ∧ x.toInt < 8
  · obtain ⟨S, hx⟩ : ∃ S : Nat, x.toInt = S := ⟨x.toInt.toNat, by omega⟩
    obtain ⟨ot, z, el, b1, b2, b3⟩ := bs S (by omega)
    have hno := s_noIn (d := 7) (el := el) hH q4 hx (by omega) b1 b3
    have row : hd S = 1 ∨ (hd S = 0 ∨ hd S = 2) := by
      rcases b3 with ⟨e, -⟩ | ⟨e, -⟩ | ⟨e, -⟩
      · exact Or.inr (Or.inl e)
      · exact Or.inl e
      · exact Or.inr (Or.inr e)
    rcases row with h1 | h1
    · -- a row
      rcases b3 with ⟨e, -⟩ | ⟨-, -, eo, o0, o3, ez, z0, z100, eel⟩ | ⟨e, -⟩
      · rw [h1] at e; exact absurd e (by decide)
      · obtain ⟨n, hn⟩ : ∃ n : Nat, z.toInt = n := ⟨z.toInt.toNat, by omega⟩
        have hz : z = Int32.ofNat n := Int32.toInt_inj.mp (by rw [hn, ofN_toInt (by omega)])
        have hno0 : sDo 9 161 [.ref 0, .int x] h (fun r h' => h' = h ∧ r = some (.int 0)) := sDo_mono hno (fun r h' q => ⟨q.1, by rw [q.2]; unfold nrOf; rw [if_pos h1]⟩)
        have sI2 : sgI (cfBecome (I, G, so, sh, wo, fo, ow) cd) s := ⟨(bc_I I cd.1 0 (by decide)).trans sI.1, (bc_I I cd.1 1 (by decide)).trans sI.2.1, (bc_I I cd.1 11 (by decide)).trans sI.2.2.1, sI.2.2.2⟩
        have RT1 : RT cl S n (tx el n) := ⟨by omega, by omega, fun i hi => by
            unfold tx
            rw [if_pos hi, eel i (by omega)], fun i hi => if_neg (by omega)⟩
        rw [hz] at b1
        refine sDo_mono (s_field11 (d := 10) (S := S) (n := n) (by omega) l79 q0 hRc F Fd fb (fun as => fb_dos (fb_bc (a := (I, G, so, sh, wo, fo, ow)) fb) as) (by omega) (by omega) hx a1 (a2 S (by omega)) b1 b2 sI2 hno0) (fun r1 h1' q hH1 fr1 => ?_)
        have hE : ∃ lo, (lo = 5 ∨ lo = 16) ∧ fdE h h1' lo := by
          unfold qF11 at q
          split at q
          · exact ⟨5, Or.inl rfl, q.2.2.2⟩
          · exact ⟨16, Or.inr rfl, q.2.2⟩
        obtain ⟨lo, hlo, E⟩ := hE
        have at_ : ∀ {p : Nat} {x : va_E}, h[p]? = some x → 43 < p → h1'[p]? = some x := fun hx hp => fdE_at E hx (by omega) (by omega) (by omega) (by omega)
        have M60' := at_ M60 (by decide)
        obtain ⟨⟨so', ow', sh', fo', va'⟩, M⟩ := MC_ext hH1 M60'
        obtain ⟨Rm, hRm⟩ := RA_of hH1 (p := 61) (Or.inr rfl)
        obtain ⟨gw, hgw, -, -⟩ := bA60 hH1 (p := 74) (by decide) rfl
        obtain ⟨wd, w0, WW⟩ := WD_of hH1
        have rnJ : RN (I, G, so, sh, wo, fo, ow) (J', so', ow', sh', fo', va') := RN_J (m := (J, so', ow', sh', fo', va')) rn eJ
        have x27' := fxR_fr fr1 (Or.inr (Or.inr rfl)) (by decide +kernel) x27
        have g75' := at_ g75 (by decide)
        refine sDo_mono (s_field12 (d := 10) (S := S) (n := n) (by omega) M hRm hgw w0 WW (at_ a4 (by decide)) (at_ a6 (by decide)) (at_ a8 (by decide)) (by omega) hx h1 (by rw [← ez, hz]) RT1 sJ') (fun r2 h2 p hH2 fr2 => ?_)
        have R2 := bR5_fr fr2 (by decide +kernel) (bR5_fr fr1 (by decide +kernel) hR5)
        cases hi : itsS (tx el n) n 101 s 0 with
        | none =>
          rw [hi] at q p
          obtain ⟨rfl, ⟨tf2, z0'⟩, E1⟩ := q
          obtain ⟨rfl, ⟨m0, g0, ⟨J2, R2'⟩, M2, mq⟩, E2⟩ := p
          obtain ⟨f6, a6', b6⟩ := x16
          obtain ⟨f5, a5', b5⟩ := x5
          have nc : nkC h1' I G Ik Gk ik tf2 := ⟨fdE_at E1 q5 (by decide) (by decide) (by decide) (by decide), fdE_at E1 q16 (by decide) (by decide) (by decide) (by decide), z0', ⟨f5, fdE_at E1 a5' (by decide) (by decide) (by decide) (by decide), b5⟩, ⟨f6, fdE_at E1 a6' (by decide) (by decide) (by decide) (by decide), b6⟩, x27'⟩
          have rn2 : RN (I, G, so, sh, wo, fo, ow) (J2, R2') := RN_ok.1 _ _ _ (RN_ok.2.2.2.1 _ _ m0 g0 rnJ) mq
          exact ⟨⟨R2, I, G, Ik, Gk, ik, tf2, J2, g, nkC_fr fr2 (by decide +kernel) nc, ⟨⟨J2, M2.1, fun _ _ => rfl, rfl⟩, (E2.2 75 (by decide) (by decide) (by decide)).trans g75'⟩, (iso37 fr2 M60' M2.1 (by decide +kernel)).trans (e37.trans ej), rn2, rk⟩, _, rfl, rfl⟩
        | some kb =>
          obtain ⟨k, as⟩ := kb
          rw [hi] at q p
          obtain ⟨rfl, F1, z0', E1⟩ := q
          obtain ⟨rfl, ⟨⟨J2, R2'⟩, M2, mq⟩, E2⟩ := p
          have ok := (its_ok hi sI2).1
          have rn1 : RN (cfBecome (I, G, so, sh, wo, fo, ow) cd) (J', so', ow', sh', fo', va') := RN_ok.2.2.1 _ _ _ rnJ
          have rn2 := RN_ok.2.2.1 _ (I, G, so, sh, wo, fo, ow) _ (rel_dos RN_ok rn1 sI2 sJ' ok)
          have rn3 := RN_ok.1 _ _ _ rn2 mq
          obtain ⟨f6, a6', b6⟩ := x16
          have nc : nkC h1' (cfBecome (as.foldl cfDo (cfBecome (I, G, so, sh, wo, fo, ow) cd)) (I, G, so, sh, wo, fo, ow)).1 (cfBecome (as.foldl cfDo (cfBecome (I, G, so, sh, wo, fo, ow) cd)) (I, G, so, sh, wo, fo, ow)).2.1 Ik Gk ik (-1) := ⟨F1.1, fdE_at E1 q16 (by decide) (by decide) (by decide) (by decide), z0', F1.2.2.2.1, ⟨f6, fdE_at E1 a6' (by decide) (by decide) (by decide) (by decide), b6⟩, x27'⟩
          exact ⟨⟨R2, _, _, Ik, Gk, ik, -1, J2, g, nkC_fr fr2 (by decide +kernel) nc, ⟨⟨J2, M2.1, fun _ _ => rfl, rfl⟩, (E2.2 75 (by decide) (by decide) (by decide)).trans g75'⟩, (iso37 fr2 M60' M2.1 (by decide +kernel)).trans (e37.trans ej), rn3, rk⟩, _, rfl, rfl⟩
      · rw [h1] at e; exact absurd e (by decide)
    · obtain ⟨B, hB, eB, ew⟩ := nr_b h1
      exact refd _ B eB hB hno (Or.inl ⟨hS, by rw [show x.toInt.toNat = S by omega]; exact ew⟩)
  · exact refd (-1) 1 (by decide) (by decide) (s_noOut (d := 7) hS) (Or.inr ⟨hS, rfl⟩))
end
section
/-! ===== shelves and the fields' ints together ===== -/
def bR7 (h : sHp) : Prop := bR5 h ∧ bNK h
def bR7M : List Nat := bRM ++ (NKc ++ NKm)
theorem bR7_fr {W gg : Nat} {h h' : sHp} (hH' : bH h') (a : bFr W gg h h') (hW : ∀ b ∈ bR7M, W.testBit b = false) (q : bR7 h) : bR7 h' := ⟨bR5_fr a (fun b hb => hW b (List.mem_append_left _ hb)) q.1, bNK_fr hH' a (fun b hb => hW b (List.mem_append_right _ (List.mem_append_left _ hb))) (fun b hb => hW b (List.mem_append_right _ (List.mem_append_right _ hb))) q.2⟩
theorem pr_swap {A B : sHp → Prop} {k1 k2 : Nat} {as : List Value} (p : pairR (fun h => A h ∧ B h) k1 k2 as) : pairR (fun h => B h ∧ A h) k1 k2 as := fun h hH hR => sDo_mono (p h hH ⟨hR.2, hR.1⟩) (fun r1 h1 q => ⟨q.1, q.2.1, sDo_mono q.2.2 (fun r2 h2 z => ⟨z.1, z.2.1, ⟨z.2.2.1.2, z.2.2.1.1⟩, z.2.2.2⟩)⟩)
theorem pr7_row (s : Int32) (a : Int32) (x : Int32) : pairR bR7 114 178 [.int s, .int a, .int x] := pr_and (R := bR5) (P := bNK) (c1 := cn_X11_row_0) (c2 := cn_X12_row_0) (pr_row s a x) (fun hH a q => bNK_fr hH a (by decide +kernel) (by decide +kernel) q) (fun hH a q => bNK_fr hH a (by decide +kernel) (by decide +kernel) q) ch_X11_row_0 ch_X12_row_0 (by decide +kernel) (by decide +kernel) rfl rfl (fun h hH => ⟨bt0 hH, vI0 s, vI0 a, vI0 x, trivial⟩) (fun h hH => ⟨bt60 hH, vI0 s, vI0 a, vI0 x, trivial⟩)
theorem pr7_set (s : Int32) (i : Int32) (v : Int64) : pairR bR7 115 179 [.int s, .int i, .long v] := pr_and (R := bR5) (P := bNK) (c1 := cn_X11_set_0) (c2 := cn_X12_set_0) (pr_set s i v) (fun hH a q => bNK_fr hH a (by decide +kernel) (by decide +kernel) q) (fun hH a q => bNK_fr hH a (by decide +kernel) (by decide +kernel) q) ch_X11_set_0 ch_X12_set_0 (by decide +kernel) (by decide +kernel) rfl rfl (fun h hH => ⟨bt0 hH, vI0 s, vI0 i, vL0 v, trivial⟩) (fun h hH => ⟨bt60 hH, vI0 s, vI0 i, vL0 v, trivial⟩)
theorem pr7_cut (s : Int32) (c : Int32) : pairR bR7 118 182 [.int s, .int c] := pr_and (R := bR5) (P := bNK) (c1 := cn_X11_cut_0) (c2 := cn_X12_cut_0) (pr_cut s c) (fun hH a q => bNK_fr hH a (by decide +kernel) (by decide +kernel) q) (fun hH a q => bNK_fr hH a (by decide +kernel) (by decide +kernel) q) ch_X11_cut_0 ch_X12_cut_0 (by decide +kernel) (by decide +kernel) rfl rfl (fun h hH => ⟨bt0 hH, vI0 s, vI0 c, trivial⟩) (fun h hH => ⟨bt60 hH, vI0 s, vI0 c, trivial⟩)
theorem pr7_copy (p : Int32) (q : Int32) (i : Int32) (j : Int32) (n : Int32) : pairR bR7 116 180 [.int p, .int q, .int i, .int j, .int n] := pr_and (R := bR5) (P := bNK) (c1 := cn_X11_copy_0) (c2 := cn_X12_copy_0) (pr_copy p q i j n) (fun hH a q => bNK_fr hH a (by decide +kernel) (by decide +kernel) q) (fun hH a q => bNK_fr hH a (by decide +kernel) (by decide +kernel) q) ch_X11_copy_0 ch_X12_copy_0 (by decide +kernel) (by decide +kernel) rfl rfl (fun h hH => ⟨bt0 hH, vI0 p, vI0 q, vI0 i, vI0 j, vI0 n, trivial⟩) (fun h hH => ⟨bt60 hH, vI0 p, vI0 q, vI0 i, vI0 j, vI0 n, trivial⟩)
theorem pr7_size (x : Int32) (y : Int32) : pairR bR7 124 204 [.int x, .int y] := pr_swap (A := bNK) (B := bR5) (pr_and (R := bNK) (P := bR5) (c1 := cn_X11_size_0) (c2 := cn_X12_size_0) (pn_size x y) (fun hH a q => bR5_fr a (by decide +kernel) q) (fun hH a q => bR5_fr a (by decide +kernel) q) ch_X11_size_0 ch_X12_size_0 (by decide +kernel) (by decide +kernel) rfl rfl (fun h hH => ⟨bt0 hH, vI0 x, vI0 y, trivial⟩) (fun h hH => ⟨bt60 hH, vI0 x, vI0 y, trivial⟩))
theorem pr7_place (x : Int32) (v : Int32) : pairR bR7 126 206 [.int x, .int v] := pr_swap (A := bNK) (B := bR5) (pr_and (R := bNK) (P := bR5) (c1 := cn_X11_place_0) (c2 := cn_X12_place_0) (pn_place x v) (fun hH a q => bR5_fr a (by decide +kernel) q) (fun hH a q => bR5_fr a (by decide +kernel) q) ch_X11_place_0 ch_X12_place_0 (by decide +kernel) (by decide +kernel) rfl rfl (fun h hH => ⟨bt0 hH, vI0 x, vI0 v, trivial⟩) (fun h hH => ⟨bt60 hH, vI0 x, vI0 v, trivial⟩))
theorem pr7_heir (x : Int32) : pairR bR7 127 207 [.int x] := pr_swap (A := bNK) (B := bR5) (pr_and (R := bNK) (P := bR5) (c1 := cn_X11_heir_0) (c2 := cn_X12_heir_0) (pn_heir x) (fun hH a q => bR5_fr a (by decide +kernel) q) (fun hH a q => bR5_fr a (by decide +kernel) q) ch_X11_heir_0 ch_X12_heir_0 (by decide +kernel) (by decide +kernel) rfl rfl (fun h hH => ⟨bt0 hH, vI0 x, trivial⟩) (fun h hH => ⟨bt60 hH, vI0 x, trivial⟩))
theorem pr7_image : pairR bR7 154 254 [] := pr_swap (A := bNK) (B := bR5) (pr_and (R := bNK) (P := bR5) (c1 := cn_X11_image_0) (c2 := cn_X12_image_0) (pn_image ) (fun hH a q => bR5_fr a (by decide +kernel) q) (fun hH a q => bR5_fr a (by decide +kernel) q) ch_X11_image_0 ch_X12_image_0 (by decide +kernel) (by decide +kernel) rfl rfl (fun h hH => ⟨bt0 hH, trivial⟩) (fun h hH => ⟨bt60 hH, trivial⟩))
theorem pr7_restore : pairR bR7 155 255 [] := pr_swap (A := bNK) (B := bR5) (pr_and (R := bNK) (P := bR5) (c1 := cn_X11_restore_0) (c2 := cn_X12_restore_0) (pn_restore ) (fun hH a q => bR5_fr a (by decide +kernel) q) (fun hH a q => bR5_fr a (by decide +kernel) q) ch_X11_restore_0 ch_X12_restore_0 (by decide +kernel) (by decide +kernel) rfl rfl (fun h hH => ⟨bt0 hH, trivial⟩) (fun h hH => ⟨bt60 hH, trivial⟩))
theorem pr7_field (x : Int32) : pairR bR7 122 202 [.int x] := pn_field x
end
section
/-! ===== how many bits ===== -/
def vl : List Nat → Nat
  | [] => 0
  | b :: l => b + 256 * vl l
theorem and_lane {a m Z M : Nat} (ha : a < 256) (hm : m < 256) : (a + 256 * Z) &&& (m + 256 * M) = (a &&& m) + 256 * (Z &&& M) := by
  have h1 : a &&& m < 2 ^ 8 := Nat.and_lt_two_pow _ hm
  apply Nat.eq_of_testBit_eq
  intro i
  have e1 : a + 256 * Z = 2 ^ 8 * Z + a := Nat.add_comm _ _
  have e2 : m + 256 * M = 2 ^ 8 * M + m := Nat.add_comm _ _
  have e3 : (a &&& m) + 256 * (Z &&& M) = 2 ^ 8 * (Z &&& M) + (a &&& m) := Nat.add_comm _ _
  rw [Nat.testBit_and, e1, e2, e3, Nat.testBit_two_pow_mul_add _ ha, Nat.testBit_two_pow_mul_add _ hm, Nat.testBit_two_pow_mul_add _ h1]
  by_cases h : i < 8
  · rw [if_pos h, if_pos h, if_pos h, Nat.testBit_and]
  · rw [if_neg h, if_neg h, if_neg h, Nat.testBit_and]
def by8 (l : List Nat) : Prop := ∀ b ∈ l, b < 256
theorem by8_t {b : Nat} {l : List Nat} (h : by8 (b :: l)) : b < 256 ∧ by8 l := ⟨h b (List.mem_cons_self ..), fun c hc => h c (List.mem_cons_of_mem _ hc)⟩
theorem vl_and {m : Nat} (hm : m < 256) : ∀ l, by8 l → vl l &&& vl (l.map fun _ => m) = vl (l.map (fun b => b &&& m)) := by
  intro l
  induction l with
  | nil => intro _; exact Nat.zero_and 0
  | cons b l ih =>
    intro h
    have h2 := by8_t h
    show (b + 256 * vl l) &&& (m + 256 * vl (l.map fun _ => m)) = (b &&& m) + 256 * vl (l.map (fun b => b &&& m))
    rw [and_lane h2.1 hm, ih h2.2]
theorem lane2 : ((List.range 256).all fun b => (List.range 2).all fun z => Nat.beq ((b / 2 + 128 * z) &&& 85) ((b / 2) &&& 85)) = true := by decide +kernel
theorem lane4 : ((List.range 256).all fun b => (List.range 4).all fun z => Nat.beq ((b / 4 + 64 * z) &&& 51) ((b / 4) &&& 51)) = true := by decide +kernel
theorem vl_sh2 : ∀ l, by8 l → (vl l / 2) &&& vl (l.map fun _ => 85) = vl (l.map (fun b => (b / 2) &&& 85)) := by
  intro l
  induction l with
  | nil => intro _; rfl
  | cons b l ih =>
    intro h
    have h2 := by8_t h
    have hz : vl l % 2 < 2 := Nat.mod_lt _ (by decide)
    have key := Nat.eq_of_beq_eq_true (rg_all (rg_all lane2 b h2.1) (vl l % 2) hz)
    show ((b + 256 * vl l) / 2) &&& (85 + 256 * vl (l.map fun _ => 85)) = ((b / 2) &&& 85) + 256 * vl (l.map (fun b => (b / 2) &&& 85))
    rw [show (b + 256 * vl l) / 2 = (b / 2 + 128 * (vl l % 2)) + 256 * (vl l / 2) by omega, and_lane (by omega) (by decide), ih h2.2, key]
theorem vl_sh4 : ∀ l, by8 l → (vl l / 4) &&& vl (l.map fun _ => 51) = vl (l.map (fun b => (b / 4) &&& 51)) := by
  intro l
  induction l with
  | nil => intro _; rfl
  | cons b l ih =>
    intro h
    have h2 := by8_t h
    have hz : vl l % 4 < 4 := Nat.mod_lt _ (by decide)
    have key := Nat.eq_of_beq_eq_true (rg_all (rg_all lane4 b h2.1) (vl l % 4) hz)
    show ((b + 256 * vl l) / 4) &&& (51 + 256 * vl (l.map fun _ => 51)) = ((b / 4) &&& 51) + 256 * vl (l.map (fun b => (b / 4) &&& 51))
    rw [show (b + 256 * vl l) / 4 = (b / 4 + 64 * (vl l % 4)) + 256 * (vl l / 4) by omega, and_lane (by omega) (by decide), ih h2.2, key]
def pc1 (b : Nat) : Nat := b - ((b / 2) &&& 85)
def pc2 (a : Nat) : Nat := (a &&& 51) + ((a / 4) &&& 51)
def pc8 (b : Nat) : Nat := (if b.testBit 0 then 1 else 0) + (if b.testBit 1 then 1 else 0) + (if b.testBit 2 then 1 else 0) + (if b.testBit 3 then 1 else 0) + (if b.testBit 4 then 1 else 0) + (if b.testBit 5 then 1 else 0) + (if b.testBit 6 then 1 else 0) + (if b.testBit 7 then 1 else 0)
def pcC (b : Nat) : Bool := Nat.ble ((b / 2) &&& 85) b && (Nat.blt (pc1 b) 256 && (Nat.ble (pc2 (pc1 b) % 16) 4 && (Nat.ble (pc2 (pc1 b) / 16) 4 && (Nat.beq ((pc2 (pc1 b) + pc2 (pc1 b) / 16) % 16) (pc8 b) && Nat.ble (pc8 b) 8))))
theorem pc_ck : (List.range 256).all pcC = true := by decide +kernel
theorem pc_b {b : Nat} (h : b < 256) : (b / 2) &&& 85 ≤ b ∧ pc1 b < 256 ∧ pc2 (pc1 b) % 16 ≤ 4 ∧ pc2 (pc1 b) / 16 ≤ 4 ∧ (pc2 (pc1 b) + pc2 (pc1 b) / 16) % 16 = pc8 b ∧ pc8 b ≤ 8 := by
  have k := rg_all pc_ck b h
  unfold pcC at k
  simp only [Bool.and_eq_true] at k
  obtain ⟨k1, k2, k3, k4, k5, k6⟩ := k
  exact ⟨Nat.le_of_ble_eq_true k1, Nat.le_of_ble_eq_true k2, Nat.le_of_ble_eq_true k3, Nat.le_of_ble_eq_true k4, Nat.eq_of_beq_eq_true k5, Nat.le_of_ble_eq_true k6⟩
theorem vl_sub : ∀ l, by8 l → vl l - vl (l.map (fun b => (b / 2) &&& 85)) = vl (l.map pc1) ∧ vl (l.map (fun b => (b / 2) &&& 85)) ≤ vl l := by
  intro l
  induction l with
  | nil => intro _; exact ⟨rfl, Nat.le_refl 0⟩
  | cons b l ih =>
    intro h
    have h2 := by8_t h
    have k := ih h2.2
    have p := (pc_b h2.1).1
    show (b + 256 * vl l) - (((b / 2) &&& 85) + 256 * vl (l.map (fun b => (b / 2) &&& 85))) = pc1 b + 256 * vl (l.map pc1) ∧ ((b / 2) &&& 85) + 256 * vl (l.map (fun b => (b / 2) &&& 85)) ≤ b + 256 * vl l
    have hp : pc1 b = b - ((b / 2) &&& 85) := rfl
    omega
theorem vl_add2 : ∀ l : List Nat, vl (l.map (fun b => b &&& 51)) + vl (l.map (fun b => (b / 4) &&& 51)) = vl (l.map pc2) := by
  intro l
  induction l with
  | nil => rfl
  | cons b l ih =>
    show ((b &&& 51) + 256 * vl (l.map (fun b => b &&& 51))) + (((b / 4) &&& 51) + 256 * vl (l.map (fun b => (b / 4) &&& 51))) = pc2 b + 256 * vl (l.map pc2)
    have hp : pc2 b = (b &&& 51) + ((b / 4) &&& 51) := rfl
    omega
/-- lanes that hold two nibbles of at most 4 -/
def nb4 (l : List Nat) : Prop := ∀ b ∈ l, b % 16 ≤ 4 ∧ b / 16 ≤ 4
theorem vl_16 : ∀ l, nb4 l → vl l % 16 ≤ 4 := by
  intro l h
  match l, h with
  | [], _ => decide
  | b :: l, h =>
    have := (h b (List.mem_cons_self ..)).1
    show (b + 256 * vl l) % 16 ≤ 4
    omega
theorem and15 {a z : Nat} : (a + 16 * z) &&& 15 = a % 16 := by
  rw [show (15 : Nat) = 2 ^ 4 - 1 from rfl, Nat.and_two_pow_sub_one_eq_mod]
  omega
theorem vl_4 : ∀ l, nb4 l → (vl l + vl l / 16) &&& vl (l.map fun _ => 15) = vl (l.map (fun b => (b + b / 16) % 16)) := by
  intro l
  induction l with
  | nil => intro _; rfl
  | cons b l ih =>
    intro h
    have hb := h b (List.mem_cons_self ..)
    have hl : nb4 l := fun c hc => h c (List.mem_cons_of_mem _ hc)
    have h16 := vl_16 l hl
    show ((b + 256 * vl l) + (b + 256 * vl l) / 16) &&& (15 + 256 * vl (l.map fun _ => 15)) = ((b + b / 16) % 16) + 256 * vl (l.map (fun b => (b + b / 16) % 16))
    rw [show (b + 256 * vl l) + (b + 256 * vl l) / 16 = (b + b / 16 + 16 * (vl l % 16)) + 256 * (vl l + vl l / 16) by omega, and_lane (by omega) (by decide), ih hl, and15]
def tn (x : Int64) : Nat := x.toBitVec.toNat
theorem tn_lt (x : Int64) : tn x < 18446744073709551616 := x.toBitVec.isLt
theorem tn_and (x y : Int64) : tn (x &&& y) = tn x &&& tn y := BitVec.toNat_and _ _
theorem tn_add {x y : Int64} (h : tn x + tn y < 18446744073709551616) : tn (x + y) = tn x + tn y := by
  show (x.toBitVec + y.toBitVec).toNat = _
  rw [BitVec.toNat_add]
  exact Nat.mod_eq_of_lt h
theorem tn_sub {x y : Int64} (h : tn y ≤ tn x) : tn (x - y) = tn x - tn y := by
  have h1 := tn_lt x
  have h2 := tn_lt y
  show (x.toBitVec - y.toBitVec).toNat = _
  rw [BitVec.toNat_sub]
  show (2 ^ 64 - tn y + tn x) % 2 ^ 64 = tn x - tn y
  rw [show 2 ^ 64 - tn y + tn x = (tn x - tn y) + 2 ^ 64 by omega, Nat.add_mod_right, Nat.mod_eq_of_lt (by omega)]
theorem tn_ushr {k : Nat} (hk : k < 64) (x : Int64) : tn ((x.toUInt64 >>> ((Int32.ofNat k).toInt64.toUInt64 &&& Int64.toUInt64 63)).toInt64) = tn x / 2 ^ k := by
  show (x.toBitVec >>> (((Int32.ofNat k).toInt64.toUInt64 &&& Int64.toUInt64 63).toBitVec % 64)).toNat = _
  rw [ush_eq k hk, BitVec.ushiftRight_eq', BitVec.toNat_ofNat, Nat.mod_eq_of_lt (by omega), BitVec.toNat_ushiftRight, Nat.shiftRight_eq_div_pow]
  rfl
def byts (X : Nat) : List Nat := [X % 256, X / 256 % 256, X / 65536 % 256, X / 16777216 % 256, X / 4294967296 % 256, X / 1099511627776 % 256, X / 281474976710656 % 256, X / 72057594037927936 % 256]
theorem vl_byts {X : Nat} (h : X < 18446744073709551616) : X = vl (byts X) := by
  unfold byts vl vl vl vl vl vl vl vl vl
  omega
theorem by8_byts (X : Nat) : by8 (byts X) := fun b hb => by
  unfold byts at hb
  simp only [List.mem_cons, List.not_mem_nil, or_false] at hb
  omega
def swar (x : Int64) : Int64 :=
  let x1 := x - ((x.toUInt64 >>> ((Int32.ofNat 1).toInt64.toUInt64 &&& Int64.toUInt64 63)).toInt64 &&& Int64.ofNat 6148914691236517205)
  let x2 := (x1 &&& Int64.ofNat 3689348814741910323) + ((x1.toUInt64 >>> ((Int32.ofNat 2).toInt64.toUInt64 &&& Int64.toUInt64 63)).toInt64 &&& Int64.ofNat 3689348814741910323)
  let x3 := (x2 + (x2.toUInt64 >>> ((Int32.ofNat 4).toInt64.toUInt64 &&& Int64.toUInt64 63)).toInt64) &&& Int64.ofNat 1085102592571150095
  let x4 := x3 + (x3.toUInt64 >>> ((Int32.ofNat 8).toInt64.toUInt64 &&& Int64.toUInt64 63)).toInt64
  let x5 := x4 + (x4.toUInt64 >>> ((Int32.ofNat 16).toInt64.toUInt64 &&& Int64.toUInt64 63)).toInt64
  x5 + (x5.toUInt64 >>> ((Int32.ofNat 32).toInt64.toUInt64 &&& Int64.toUInt64 63)).toInt64
theorem vl8_lt {a b c d e f g h : Nat} (q : by8 [a, b, c, d, e, f, g, h]) : vl [a, b, c, d, e, f, g, h] < 18446744073709551616 := by
  have k : ∀ x ∈ [a, b, c, d, e, f, g, h], x < 256 := q
  simp only [List.mem_cons, List.not_mem_nil, or_false, forall_eq_or_imp, forall_eq] at k
  unfold vl vl vl vl vl vl vl vl vl
  omega
theorem swar_ok (x : Int64) : tn (swar x) % 128 = ((byts (tn x)).map pc8).sum := by
  have hX := tn_lt x
  have hv := vl_byts hX
  have hb := by8_byts (tn x)
  obtain ⟨b0, b1, b2, b3, b4, b5, b6, b7, hl⟩ : ∃ b0 b1 b2 b3 b4 b5 b6 b7, byts (tn x) = [b0, b1, b2, b3, b4, b5, b6, b7] := ⟨_, _, _, _, _, _, _, _, rfl⟩
  rw [hl] at hv hb ⊢
  have kb : ∀ y ∈ [b0, b1, b2, b3, b4, b5, b6, b7], y < 256 := hb
  have m55 : tn (Int64.ofNat 6148914691236517205) = vl ([b0, b1, b2, b3, b4, b5, b6, b7].map fun _ => 85) := by show _ = vl [85, 85, 85, 85, 85, 85, 85, 85]; decide
  have m33 : ∀ l : List Nat, l.length = 8 → tn (Int64.ofNat 3689348814741910323) = vl (l.map fun _ => 51) := fun l h => by rw [List.map_const', h]; decide
  have m0f : ∀ l : List Nat, l.length = 8 → tn (Int64.ofNat 1085102592571150095) = vl (l.map fun _ => 15) := fun l h => by rw [List.map_const', h]; decide
  unfold swar
  dsimp only
  -- first
  have y1 : tn ((x.toUInt64 >>> ((Int32.ofNat 1).toInt64.toUInt64 &&& Int64.toUInt64 63)).toInt64 &&& Int64.ofNat 6148914691236517205) = vl ([b0, b1, b2, b3, b4, b5, b6, b7].map (fun b => (b / 2) &&& 85)) := by
    rw [tn_and, tn_ushr (by decide), m55, hv]
    exact vl_sh2 _ hb
  have s1 := vl_sub _ hb
  have x1 : tn (x - ((x.toUInt64 >>> ((Int32.ofNat 1).toInt64.toUInt64 &&& Int64.toUInt64 63)).toInt64 &&& Int64.ofNat 6148914691236517205)) = vl ([b0, b1, b2, b3, b4, b5, b6, b7].map pc1) := by
    rw [tn_sub (by rw [y1, hv]; exact s1.2), y1, hv]
    exact s1.1
  generalize x - ((x.toUInt64 >>> ((Int32.ofNat 1).toInt64.toUInt64 &&& Int64.toUInt64 63)).toInt64 &&& Int64.ofNat 6148914691236517205) = z1 at x1 ⊢
  have hb1 : by8 ([b0, b1, b2, b3, b4, b5, b6, b7].map pc1) := fun c hc => by
    obtain ⟨b, hb', rfl⟩ := List.mem_map.mp hc
    exact (pc_b (kb b hb')).2.1
  -- second
  have l1 : ([b0, b1, b2, b3, b4, b5, b6, b7].map pc1).length = 8 := rfl
  have y2 : tn (z1 &&& Int64.ofNat 3689348814741910323) = vl (([b0, b1, b2, b3, b4, b5, b6, b7].map pc1).map (fun b => b &&& 51)) := by
    rw [tn_and, m33 _ l1, x1]
    exact vl_and (by decide) _ hb1
  have y3 : tn ((z1.toUInt64 >>> ((Int32.ofNat 2).toInt64.toUInt64 &&& Int64.toUInt64 63)).toInt64 &&& Int64.ofNat 3689348814741910323) = vl (([b0, b1, b2, b3, b4, b5, b6, b7].map pc1).map (fun b => (b / 4) &&& 51)) := by
    rw [tn_and, tn_ushr (by decide), m33 _ l1, x1]
    exact vl_sh4 _ hb1
  have n2 : nb4 (([b0, b1, b2, b3, b4, b5, b6, b7].map pc1).map pc2) := fun c hc => by
    obtain ⟨a, ha, rfl⟩ := List.mem_map.mp hc
    obtain ⟨b, hb', rfl⟩ := List.mem_map.mp ha
    have := pc_b (kb b hb')
    exact ⟨this.2.2.1, this.2.2.2.1⟩
  have s2 := vl_add2 ([b0, b1, b2, b3, b4, b5, b6, b7].map pc1)
  have q0 := n2 (pc2 (pc1 b0)) (by simp)
  have q1 := n2 (pc2 (pc1 b1)) (by simp)
  have q2 := n2 (pc2 (pc1 b2)) (by simp)
  have q3 := n2 (pc2 (pc1 b3)) (by simp)
  have q4 := n2 (pc2 (pc1 b4)) (by simp)
  have q5 := n2 (pc2 (pc1 b5)) (by simp)
  have q6 := n2 (pc2 (pc1 b6)) (by simp)
  have q7 := n2 (pc2 (pc1 b7)) (by simp)
  have e0 := (pc_b (kb b0 (by simp))).2.2.2.2
  have e1 := (pc_b (kb b1 (by simp))).2.2.2.2
  have e2 := (pc_b (kb b2 (by simp))).2.2.2.2
  have e3 := (pc_b (kb b3 (by simp))).2.2.2.2
  have e4 := (pc_b (kb b4 (by simp))).2.2.2.2
  have e5 := (pc_b (kb b5 (by simp))).2.2.2.2
  have e6 := (pc_b (kb b6 (by simp))).2.2.2.2
  have e7 := (pc_b (kb b7 (by simp))).2.2.2.2
  have v2 : vl (([b0, b1, b2, b3, b4, b5, b6, b7].map pc1).map pc2) = vl [pc2 (pc1 b0), pc2 (pc1 b1), pc2 (pc1 b2), pc2 (pc1 b3), pc2 (pc1 b4), pc2 (pc1 b5), pc2 (pc1 b6), pc2 (pc1 b7)] := rfl
  have vw : ∀ a b c d e f g h : Nat, vl [a, b, c, d, e, f, g, h] = a + 256 * (b + 256 * (c + 256 * (d + 256 * (e + 256 * (f + 256 * (g + 256 * (h + 256 * 0))))))) := fun _ _ _ _ _ _ _ _ => rfl
  have x2 : tn ((z1 &&& Int64.ofNat 3689348814741910323) + ((z1.toUInt64 >>> ((Int32.ofNat 2).toInt64.toUInt64 &&& Int64.toUInt64 63)).toInt64 &&& Int64.ofNat 3689348814741910323)) = vl (([b0, b1, b2, b3, b4, b5, b6, b7].map pc1).map pc2) := by
    rw [tn_add (by rw [y2, y3, s2, v2, vw]; omega), y2, y3, s2]
  generalize (z1 &&& Int64.ofNat 3689348814741910323) + ((z1.toUInt64 >>> ((Int32.ofNat 2).toInt64.toUInt64 &&& Int64.toUInt64 63)).toInt64 &&& Int64.ofNat 3689348814741910323) = z2 at x2 ⊢
  -- third
  have y4 : tn ((z2.toUInt64 >>> ((Int32.ofNat 4).toInt64.toUInt64 &&& Int64.toUInt64 63)).toInt64) = tn z2 / 16 := tn_ushr (by decide) _
  have x3 : tn ((z2 + (z2.toUInt64 >>> ((Int32.ofNat 4).toInt64.toUInt64 &&& Int64.toUInt64 63)).toInt64) &&& Int64.ofNat 1085102592571150095) = vl [pc8 b0, pc8 b1, pc8 b2, pc8 b3, pc8 b4, pc8 b5, pc8 b6, pc8 b7] := by
    rw [tn_and, tn_add (by rw [y4, x2, v2, vw]; omega), y4, m0f (([b0, b1, b2, b3, b4, b5, b6, b7].map pc1).map pc2) rfl, x2, vl_4 _ n2]
    show vl [(pc2 (pc1 b0) + pc2 (pc1 b0) / 16) % 16, (pc2 (pc1 b1) + pc2 (pc1 b1) / 16) % 16, (pc2 (pc1 b2) + pc2 (pc1 b2) / 16) % 16, (pc2 (pc1 b3) + pc2 (pc1 b3) / 16) % 16, (pc2 (pc1 b4) + pc2 (pc1 b4) / 16) % 16, (pc2 (pc1 b5) + pc2 (pc1 b5) / 16) % 16, (pc2 (pc1 b6) + pc2 (pc1 b6) / 16) % 16, (pc2 (pc1 b7) + pc2 (pc1 b7) / 16) % 16] = _
    rw [e0.1, e1.1, e2.1, e3.1, e4.1, e5.1, e6.1, e7.1]
  generalize (z2 + (z2.toUInt64 >>> ((Int32.ofNat 4).toInt64.toUInt64 &&& Int64.toUInt64 63)).toInt64) &&& Int64.ofNat 1085102592571150095 = z3 at x3 ⊢
  show _ = (pc8 b0 + (pc8 b1 + (pc8 b2 + (pc8 b3 + (pc8 b4 + (pc8 b5 + (pc8 b6 + (pc8 b7 + 0))))))))
  have f0 := e0.2
  have f1 := e1.2
  have f2 := e2.2
  have f3 := e3.2
  have f4 := e4.2
  have f5 := e5.2
  have f6 := e6.2
  have f7 := e7.2
  rw [vw] at x3
  clear e0 e1 e2 e3 e4 e5 e6 e7 q0 q1 q2 q3 q4 q5 q6 q7 s2 n2 v2 x2 y4 hb1 m55 m33 m0f hv hb kb hl x1 y1 y2 y3 s1 l1
  generalize pc8 b0 = c0 at *
  generalize pc8 b1 = c1 at *
  generalize pc8 b2 = c2 at *
  generalize pc8 b3 = c3 at *
  generalize pc8 b4 = c4 at *
  generalize pc8 b5 = c5 at *
  generalize pc8 b6 = c6 at *
  generalize pc8 b7 = c7 at *
  -- the sums
  have y5 : tn ((z3.toUInt64 >>> ((Int32.ofNat 8).toInt64.toUInt64 &&& Int64.toUInt64 63)).toInt64) = tn z3 / 256 := tn_ushr (by decide) _
  have x4 : tn (z3 + (z3.toUInt64 >>> ((Int32.ofNat 8).toInt64.toUInt64 &&& Int64.toUInt64 63)).toInt64) = (c0 + c1) + 256 * ((c1 + c2) + 256 * ((c2 + c3) + 256 * ((c3 + c4) + 256 * ((c4 + c5) + 256 * ((c5 + c6) + 256 * ((c6 + c7) + 256 * c7)))))) := by
    rw [tn_add (by rw [y5, x3]; omega), y5, x3]; omega
  generalize z3 + (z3.toUInt64 >>> ((Int32.ofNat 8).toInt64.toUInt64 &&& Int64.toUInt64 63)).toInt64 = z4 at x4 ⊢
  have y6 : tn ((z4.toUInt64 >>> ((Int32.ofNat 16).toInt64.toUInt64 &&& Int64.toUInt64 63)).toInt64) = tn z4 / 65536 := tn_ushr (by decide) _
  have x5 : tn (z4 + (z4.toUInt64 >>> ((Int32.ofNat 16).toInt64.toUInt64 &&& Int64.toUInt64 63)).toInt64) = (c0 + c1 + c2 + c3) + 256 * ((c1 + c2 + c3 + c4) + 256 * ((c2 + c3 + c4 + c5) + 256 * ((c3 + c4 + c5 + c6) + 256 * ((c4 + c5 + c6 + c7) + 256 * ((c5 + c6 + c7) + 256 * ((c6 + c7) + 256 * c7)))))) := by
    rw [tn_add (by rw [y6, x4]; omega), y6, x4]; omega
  generalize z4 + (z4.toUInt64 >>> ((Int32.ofNat 16).toInt64.toUInt64 &&& Int64.toUInt64 63)).toInt64 = z5 at x5 ⊢
  have y7 : tn ((z5.toUInt64 >>> ((Int32.ofNat 32).toInt64.toUInt64 &&& Int64.toUInt64 63)).toInt64) = tn z5 / 4294967296 := tn_ushr (by decide) _
  have hA : (c0 + c1 + c2 + c3) + 256 * ((c1 + c2 + c3 + c4) + 256 * ((c2 + c3 + c4 + c5) + 256 * (c3 + c4 + c5 + c6))) < 4294967296 := by omega
  have hB : (c4 + c5 + c6 + c7) + 256 * ((c5 + c6 + c7) + 256 * ((c6 + c7) + 256 * c7)) < 4294967296 := by omega
  have x6 : tn z5 = ((c0 + c1 + c2 + c3) + 256 * ((c1 + c2 + c3 + c4) + 256 * ((c2 + c3 + c4 + c5) + 256 * (c3 + c4 + c5 + c6)))) + 4294967296 * ((c4 + c5 + c6 + c7) + 256 * ((c5 + c6 + c7) + 256 * ((c6 + c7) + 256 * c7))) := by rw [x5]; omega
  have e6 : ∀ A B : Nat, A < 4294967296 → (A + 4294967296 * B) / 4294967296 = B := fun A B h => by omega
  have y8 : tn z5 / 4294967296 = (c4 + c5 + c6 + c7) + 256 * ((c5 + c6 + c7) + 256 * ((c6 + c7) + 256 * c7)) := by rw [x6, e6 _ _ hA]
  have lt6 : tn z5 + ((c4 + c5 + c6 + c7) + 256 * ((c5 + c6 + c7) + 256 * ((c6 + c7) + 256 * c7))) < 18446744073709551616 := by rw [x5]; omega
  rw [tn_add (by rw [y7, y8]; exact lt6), y7, y8, x6]
  clear x5 x6 x4 x3 y5 y6 y7 y8 hA hB e6 lt6
  omega
theorem cnt_bytes (x : Int64) : ((byts (tn x)).map pc8).sum = cnt x := by
  have hb : ∀ (j t : Nat), t < 8 → (tn x / 2 ^ (8 * j) % 256).testBit t = bt x (8 * j + t) := fun j t ht => by
    rw [show (256 : Nat) = 2 ^ 8 from rfl, Nat.testBit_mod_two_pow, decide_eq_true ht, Bool.true_and, Nat.testBit_div_two_pow, Nat.add_comm]
    rfl
  have h0 : ∀ j, pc8 (tn x / 2 ^ (8 * j) % 256) = (if bt x (8 * j + 0) = true then 1 else 0) + (if bt x (8 * j + 1) = true then 1 else 0) + (if bt x (8 * j + 2) = true then 1 else 0) + (if bt x (8 * j + 3) = true then 1 else 0) + (if bt x (8 * j + 4) = true then 1 else 0) + (if bt x (8 * j + 5) = true then 1 else 0) + (if bt x (8 * j + 6) = true then 1 else 0) + (if bt x (8 * j + 7) = true then 1 else 0) := fun j => by
    unfold pc8
    rw [hb j 0 (by decide), hb j 1 (by decide), hb j 2 (by decide), hb j 3 (by decide), hb j 4 (by decide), hb j 5 (by decide), hb j 6 (by decide), hb j 7 (by decide)]
  have e : byts (tn x) = [tn x / 2 ^ (8 * 0) % 256, tn x / 2 ^ (8 * 1) % 256, tn x / 2 ^ (8 * 2) % 256, tn x / 2 ^ (8 * 3) % 256, tn x / 2 ^ (8 * 4) % 256, tn x / 2 ^ (8 * 5) % 256, tn x / 2 ^ (8 * 6) % 256, tn x / 2 ^ (8 * 7) % 256] := by
    unfold byts
    rw [Nat.mul_zero, Nat.pow_zero, Nat.div_one]
  rw [e]
  show pc8 _ + (pc8 _ + (pc8 _ + (pc8 _ + (pc8 _ + (pc8 _ + (pc8 _ + (pc8 _ + 0))))))) = cnt x
  rw [h0 0, h0 1, h0 2, h0 3, h0 4, h0 5, h0 6, h0 7]
  have st : ∀ k, cntB x (8 * k + 8) = cntB x (8 * k) + ((if bt x (8 * k + 0) = true then 1 else 0) + (if bt x (8 * k + 1) = true then 1 else 0) + (if bt x (8 * k + 2) = true then 1 else 0) + (if bt x (8 * k + 3) = true then 1 else 0) + (if bt x (8 * k + 4) = true then 1 else 0) + (if bt x (8 * k + 5) = true then 1 else 0) + (if bt x (8 * k + 6) = true then 1 else 0) + (if bt x (8 * k + 7) = true then 1 else 0)) := fun k => by
    show cntB x (8 * k) + _ + _ + _ + _ + _ + _ + _ + _ = _
    simp only [Nat.add_assoc, Nat.add_zero]
  have s0 : cntB x 8 = cntB x 0 + _ := st 0
  have s1 : cntB x 16 = cntB x 8 + _ := st 1
  have s2 : cntB x 24 = cntB x 16 + _ := st 2
  have s3 : cntB x 32 = cntB x 24 + _ := st 3
  have s4 : cntB x 40 = cntB x 32 + _ := st 4
  have s5 : cntB x 48 = cntB x 40 + _ := st 5
  have s6 : cntB x 56 = cntB x 48 + _ := st 6
  have s7 : cntB x 64 = cntB x 56 + _ := st 7
  have z : cntB x 0 = 0 := rfl
  show _ = cntB x 64
  omega
theorem s_bitCount {d : Nat} {h : sHp} {x : Int64} (hd : 1 ≤ d) : sDo d 257 [.long x] h (fun r h' => h' = h ∧ r = some (.int (Int32.ofNat (cnt x)))) := by
  have hc := cnt_le x
  have key : (swar x).toInt32 &&& (Int8.ofInt 127).toInt32 = Int32.ofNat (cnt x) := by
    apply Int32.toBitVec_inj.mp
    apply BitVec.eq_of_toNat_eq
    show ((swar x).toBitVec.signExtend 32 &&& 127#32).toNat = (BitVec.ofNat 32 (cnt x)).toNat
    rw [BitVec.signExtend_eq_setWidth_of_le _ (by decide), BitVec.toNat_and, BitVec.toNat_setWidth, BitVec.toNat_ofNat, BitVec.toNat_ofNat, show 127 % 2 ^ 32 = 2 ^ 7 - 1 from rfl, Nat.and_two_pow_sub_one_eq_mod, Nat.mod_eq_of_lt (show cnt x < 2 ^ 32 by omega), ← cnt_bytes, ← swar_ok]
    show tn (swar x) % 2 ^ 32 % 2 ^ 7 = tn (swar x) % 128
    omega
  refine sDo_of1 (nL := 2) (L := [some (.long x), none]) hd rfl rfl ?_
  refine g_lload_n (i := 0) rfl rfl ?_
  refine g_lload_n (i := 0) rfl rfl ?_
  refine g_iconst (n := 1) rfl ?_
  refine g_lushr rfl ?_
  refine g_ldc2_w (j := 6148914691236517205) rfl ?_
  refine g_land rfl ?_
  refine g_lsub rfl ?_
  refine g_lstore_n (i := 0) (L1 := [some (.long (x - (((x.toUInt64 >>> ((Int32.ofInt 1).toInt64.toUInt64 &&& Int64.toUInt64 63)).toInt64) &&& (Int64.ofNat 6148914691236517205)))), none]) rfl (Nat.le_of_ble_eq_true rfl) rfl ?_
  refine g_lload_n (i := 0) rfl rfl ?_
  refine g_ldc2_w (j := 3689348814741910323) rfl ?_
  refine g_land rfl ?_
  refine g_lload_n (i := 0) rfl rfl ?_
  refine g_iconst (n := 2) rfl ?_
  refine g_lushr rfl ?_
  refine g_ldc2_w (j := 3689348814741910323) rfl ?_
  refine g_land rfl ?_
  refine g_ladd rfl ?_
  refine g_lstore_n (i := 0) (L1 := [some (.long (((x - (((x.toUInt64 >>> ((Int32.ofInt 1).toInt64.toUInt64 &&& Int64.toUInt64 63)).toInt64) &&& (Int64.ofNat 6148914691236517205))) &&& (Int64.ofNat 3689348814741910323)) + ((((x - (((x.toUInt64 >>> ((Int32.ofInt 1).toInt64.toUInt64 &&& Int64.toUInt64 63)).toInt64) &&& (Int64.ofNat 6148914691236517205))).toUInt64 >>> ((Int32.ofInt 2).toInt64.toUInt64 &&& Int64.toUInt64 63)).toInt64) &&& (Int64.ofNat 3689348814741910323)))), none]) rfl (Nat.le_of_ble_eq_true rfl) rfl ?_
  refine g_lload_n (i := 0) rfl rfl ?_
  refine g_lload_n (i := 0) rfl rfl ?_
  refine g_iconst (n := 4) rfl ?_
  refine g_lushr rfl ?_
  refine g_ladd rfl ?_
  refine g_ldc2_w (j := 1085102592571150095) rfl ?_
  refine g_land rfl ?_
  refine g_lstore_n (i := 0) (L1 := [some (.long (((((x - (((x.toUInt64 >>> ((Int32.ofInt 1).toInt64.toUInt64 &&& Int64.toUInt64 63)).toInt64) &&& (Int64.ofNat 6148914691236517205))) &&& (Int64.ofNat 3689348814741910323)) + ((((x - (((x.toUInt64 >>> ((Int32.ofInt 1).toInt64.toUInt64 &&& Int64.toUInt64 63)).toInt64) &&& (Int64.ofNat 6148914691236517205))).toUInt64 >>> ((Int32.ofInt 2).toInt64.toUInt64 &&& Int64.toUInt64 63)).toInt64) &&& (Int64.ofNat 3689348814741910323))) + (((((x - (((x.toUInt64 >>> ((Int32.ofInt 1).toInt64.toUInt64 &&& Int64.toUInt64 63)).toInt64) &&& (Int64.ofNat 6148914691236517205))) &&& (Int64.ofNat 3689348814741910323)) + ((((x - (((x.toUInt64 >>> ((Int32.ofInt 1).toInt64.toUInt64 &&& Int64.toUInt64 63)).toInt64) &&& (Int64.ofNat 6148914691236517205))).toUInt64 >>> ((Int32.ofInt 2).toInt64.toUInt64 &&& Int64.toUInt64 63)).toInt64) &&& (Int64.ofNat 3689348814741910323))).toUInt64 >>> ((Int32.ofInt 4).toInt64.toUInt64 &&& Int64.toUInt64 63)).toInt64)) &&& (Int64.ofNat 1085102592571150095))), none]) rfl (Nat.le_of_ble_eq_true rfl) rfl ?_
  refine g_lload_n (i := 0) rfl rfl ?_
  refine g_lload_n (i := 0) rfl rfl ?_
  refine g_bipush (n := 8) rfl ?_
  refine g_lushr rfl ?_
  refine g_ladd rfl ?_
  refine g_lstore_n (i := 0) (L1 := [some (.long ((((((x - (((x.toUInt64 >>> ((Int32.ofInt 1).toInt64.toUInt64 &&& Int64.toUInt64 63)).toInt64) &&& (Int64.ofNat 6148914691236517205))) &&& (Int64.ofNat 3689348814741910323)) + ((((x - (((x.toUInt64 >>> ((Int32.ofInt 1).toInt64.toUInt64 &&& Int64.toUInt64 63)).toInt64) &&& (Int64.ofNat 6148914691236517205))).toUInt64 >>> ((Int32.ofInt 2).toInt64.toUInt64 &&& Int64.toUInt64 63)).toInt64) &&& (Int64.ofNat 3689348814741910323))) + (((((x - (((x.toUInt64 >>> ((Int32.ofInt 1).toInt64.toUInt64 &&& Int64.toUInt64 63)).toInt64) &&& (Int64.ofNat 6148914691236517205))) &&& (Int64.ofNat 3689348814741910323)) + ((((x - (((x.toUInt64 >>> ((Int32.ofInt 1).toInt64.toUInt64 &&& Int64.toUInt64 63)).toInt64) &&& (Int64.ofNat 6148914691236517205))).toUInt64 >>> ((Int32.ofInt 2).toInt64.toUInt64 &&& Int64.toUInt64 63)).toInt64) &&& (Int64.ofNat 3689348814741910323))).toUInt64 >>> ((Int32.ofInt 4).toInt64.toUInt64 &&& Int64.toUInt64 63)).toInt64)) &&& (Int64.ofNat 1085102592571150095)) + (((((((x - (((x.toUInt64 >>> ((Int32.ofInt 1).toInt64.toUInt64 &&& Int64.toUInt64 63)).toInt64) &&& (Int64.ofNat 6148914691236517205))) &&& (Int64.ofNat 3689348814741910323)) + ((((x - (((x.toUInt64 >>> ((Int32.ofInt 1).toInt64.toUInt64 &&& Int64.toUInt64 63)).toInt64) &&& (Int64.ofNat 6148914691236517205))).toUInt64 >>> ((Int32.ofInt 2).toInt64.toUInt64 &&& Int64.toUInt64 63)).toInt64) &&& (Int64.ofNat 3689348814741910323))) + (((((x - (((x.toUInt64 >>> ((Int32.ofInt 1).toInt64.toUInt64 &&& Int64.toUInt64 63)).toInt64) &&& (Int64.ofNat 6148914691236517205))) &&& (Int64.ofNat 3689348814741910323)) + ((((x - (((x.toUInt64 >>> ((Int32.ofInt 1).toInt64.toUInt64 &&& Int64.toUInt64 63)).toInt64) &&& (Int64.ofNat 6148914691236517205))).toUInt64 >>> ((Int32.ofInt 2).toInt64.toUInt64 &&& Int64.toUInt64 63)).toInt64) &&& (Int64.ofNat 3689348814741910323))).toUInt64 >>> ((Int32.ofInt 4).toInt64.toUInt64 &&& Int64.toUInt64 63)).toInt64)) &&& (Int64.ofNat 1085102592571150095)).toUInt64 >>> ((Int8.ofInt 8).toInt32.toInt64.toUInt64 &&& Int64.toUInt64 63)).toInt64))), none]) rfl (Nat.le_of_ble_eq_true rfl) rfl ?_
  refine g_lload_n (i := 0) rfl rfl ?_
  refine g_lload_n (i := 0) rfl rfl ?_
  refine g_bipush (n := 16) rfl ?_
  refine g_lushr rfl ?_
  refine g_ladd rfl ?_
  refine g_lstore_n (i := 0) (L1 := [some (.long (((((((x - (((x.toUInt64 >>> ((Int32.ofInt 1).toInt64.toUInt64 &&& Int64.toUInt64 63)).toInt64) &&& (Int64.ofNat 6148914691236517205))) &&& (Int64.ofNat 3689348814741910323)) + ((((x - (((x.toUInt64 >>> ((Int32.ofInt 1).toInt64.toUInt64 &&& Int64.toUInt64 63)).toInt64) &&& (Int64.ofNat 6148914691236517205))).toUInt64 >>> ((Int32.ofInt 2).toInt64.toUInt64 &&& Int64.toUInt64 63)).toInt64) &&& (Int64.ofNat 3689348814741910323))) + (((((x - (((x.toUInt64 >>> ((Int32.ofInt 1).toInt64.toUInt64 &&& Int64.toUInt64 63)).toInt64) &&& (Int64.ofNat 6148914691236517205))) &&& (Int64.ofNat 3689348814741910323)) + ((((x - (((x.toUInt64 >>> ((Int32.ofInt 1).toInt64.toUInt64 &&& Int64.toUInt64 63)).toInt64) &&& (Int64.ofNat 6148914691236517205))).toUInt64 >>> ((Int32.ofInt 2).toInt64.toUInt64 &&& Int64.toUInt64 63)).toInt64) &&& (Int64.ofNat 3689348814741910323))).toUInt64 >>> ((Int32.ofInt 4).toInt64.toUInt64 &&& Int64.toUInt64 63)).toInt64)) &&& (Int64.ofNat 1085102592571150095)) + (((((((x - (((x.toUInt64 >>> ((Int32.ofInt 1).toInt64.toUInt64 &&& Int64.toUInt64 63)).toInt64) &&& (Int64.ofNat 6148914691236517205))) &&& (Int64.ofNat 3689348814741910323)) + ((((x - (((x.toUInt64 >>> ((Int32.ofInt 1).toInt64.toUInt64 &&& Int64.toUInt64 63)).toInt64) &&& (Int64.ofNat 6148914691236517205))).toUInt64 >>> ((Int32.ofInt 2).toInt64.toUInt64 &&& Int64.toUInt64 63)).toInt64) &&& (Int64.ofNat 3689348814741910323))) + (((((x - (((x.toUInt64 >>> ((Int32.ofInt 1).toInt64.toUInt64 &&& Int64.toUInt64 63)).toInt64) &&& (Int64.ofNat 6148914691236517205))) &&& (Int64.ofNat 3689348814741910323)) + ((((x - (((x.toUInt64 >>> ((Int32.ofInt 1).toInt64.toUInt64 &&& Int64.toUInt64 63)).toInt64) &&& (Int64.ofNat 6148914691236517205))).toUInt64 >>> ((Int32.ofInt 2).toInt64.toUInt64 &&& Int64.toUInt64 63)).toInt64) &&& (Int64.ofNat 3689348814741910323))).toUInt64 >>> ((Int32.ofInt 4).toInt64.toUInt64 &&& Int64.toUInt64 63)).toInt64)) &&& (Int64.ofNat 1085102592571150095)).toUInt64 >>> ((Int8.ofInt 8).toInt32.toInt64.toUInt64 &&& Int64.toUInt64 63)).toInt64)) + ((((((((x - (((x.toUInt64 >>> ((Int32.ofInt 1).toInt64.toUInt64 &&& Int64.toUInt64 63)).toInt64) &&& (Int64.ofNat 6148914691236517205))) &&& (Int64.ofNat 3689348814741910323)) + ((((x - (((x.toUInt64 >>> ((Int32.ofInt 1).toInt64.toUInt64 &&& Int64.toUInt64 63)).toInt64) &&& (Int64.ofNat 6148914691236517205))).toUInt64 >>> ((Int32.ofInt 2).toInt64.toUInt64 &&& Int64.toUInt64 63)).toInt64) &&& (Int64.ofNat 3689348814741910323))) + (((((x - (((x.toUInt64 >>> ((Int32.ofInt 1).toInt64.toUInt64 &&& Int64.toUInt64 63)).toInt64) &&& (Int64.ofNat 6148914691236517205))) &&& (Int64.ofNat 3689348814741910323)) + ((((x - (((x.toUInt64 >>> ((Int32.ofInt 1).toInt64.toUInt64 &&& Int64.toUInt64 63)).toInt64) &&& (Int64.ofNat 6148914691236517205))).toUInt64 >>> ((Int32.ofInt 2).toInt64.toUInt64 &&& Int64.toUInt64 63)).toInt64) &&& (Int64.ofNat 3689348814741910323))).toUInt64 >>> ((Int32.ofInt 4).toInt64.toUInt64 &&& Int64.toUInt64 63)).toInt64)) &&& (Int64.ofNat 1085102592571150095)) + (((((((x - (((x.toUInt64 >>> ((Int32.ofInt 1).toInt64.toUInt64 &&& Int64.toUInt64 63)).toInt64) &&& (Int64.ofNat 6148914691236517205))) &&& (Int64.ofNat 3689348814741910323)) + ((((x - (((x.toUInt64 >>> ((Int32.ofInt 1).toInt64.toUInt64 &&& Int64.toUInt64 63)).toInt64) &&& (Int64.ofNat 6148914691236517205))).toUInt64 >>> ((Int32.ofInt 2).toInt64.toUInt64 &&& Int64.toUInt64 63)).toInt64) &&& (Int64.ofNat 3689348814741910323))) + (((((x - (((x.toUInt64 >>> ((Int32.ofInt 1).toInt64.toUInt64 &&& Int64.toUInt64 63)).toInt64) &&& (Int64.ofNat 6148914691236517205))) &&& (Int64.ofNat 3689348814741910323)) + ((((x - (((x.toUInt64 >>> ((Int32.ofInt 1).toInt64.toUInt64 &&& Int64.toUInt64 63)).toInt64) &&& (Int64.ofNat 6148914691236517205))).toUInt64 >>> ((Int32.ofInt 2).toInt64.toUInt64 &&& Int64.toUInt64 63)).toInt64) &&& (Int64.ofNat 3689348814741910323))).toUInt64 >>> ((Int32.ofInt 4).toInt64.toUInt64 &&& Int64.toUInt64 63)).toInt64)) &&& (Int64.ofNat 1085102592571150095)).toUInt64 >>> ((Int8.ofInt 8).toInt32.toInt64.toUInt64 &&& Int64.toUInt64 63)).toInt64)).toUInt64 >>> ((Int8.ofInt 16).toInt32.toInt64.toUInt64 &&& Int64.toUInt64 63)).toInt64))), none]) rfl (Nat.le_of_ble_eq_true rfl) rfl ?_
  refine g_lload_n (i := 0) rfl rfl ?_
  refine g_lload_n (i := 0) rfl rfl ?_
  refine g_bipush (n := 32) rfl ?_
  refine g_lushr rfl ?_
  refine g_ladd rfl ?_
  refine g_lstore_n (i := 0) (L1 := [some (.long ((((((((x - (((x.toUInt64 >>> ((Int32.ofInt 1).toInt64.toUInt64 &&& Int64.toUInt64 63)).toInt64) &&& (Int64.ofNat 6148914691236517205))) &&& (Int64.ofNat 3689348814741910323)) + ((((x - (((x.toUInt64 >>> ((Int32.ofInt 1).toInt64.toUInt64 &&& Int64.toUInt64 63)).toInt64) &&& (Int64.ofNat 6148914691236517205))).toUInt64 >>> ((Int32.ofInt 2).toInt64.toUInt64 &&& Int64.toUInt64 63)).toInt64) &&& (Int64.ofNat 3689348814741910323))) + (((((x - (((x.toUInt64 >>> ((Int32.ofInt 1).toInt64.toUInt64 &&& Int64.toUInt64 63)).toInt64) &&& (Int64.ofNat 6148914691236517205))) &&& (Int64.ofNat 3689348814741910323)) + ((((x - (((x.toUInt64 >>> ((Int32.ofInt 1).toInt64.toUInt64 &&& Int64.toUInt64 63)).toInt64) &&& (Int64.ofNat 6148914691236517205))).toUInt64 >>> ((Int32.ofInt 2).toInt64.toUInt64 &&& Int64.toUInt64 63)).toInt64) &&& (Int64.ofNat 3689348814741910323))).toUInt64 >>> ((Int32.ofInt 4).toInt64.toUInt64 &&& Int64.toUInt64 63)).toInt64)) &&& (Int64.ofNat 1085102592571150095)) + (((((((x - (((x.toUInt64 >>> ((Int32.ofInt 1).toInt64.toUInt64 &&& Int64.toUInt64 63)).toInt64) &&& (Int64.ofNat 6148914691236517205))) &&& (Int64.ofNat 3689348814741910323)) + ((((x - (((x.toUInt64 >>> ((Int32.ofInt 1).toInt64.toUInt64 &&& Int64.toUInt64 63)).toInt64) &&& (Int64.ofNat 6148914691236517205))).toUInt64 >>> ((Int32.ofInt 2).toInt64.toUInt64 &&& Int64.toUInt64 63)).toInt64) &&& (Int64.ofNat 3689348814741910323))) + (((((x - (((x.toUInt64 >>> ((Int32.ofInt 1).toInt64.toUInt64 &&& Int64.toUInt64 63)).toInt64) &&& (Int64.ofNat 6148914691236517205))) &&& (Int64.ofNat 3689348814741910323)) + ((((x - (((x.toUInt64 >>> ((Int32.ofInt 1).toInt64.toUInt64 &&& Int64.toUInt64 63)).toInt64) &&& (Int64.ofNat 6148914691236517205))).toUInt64 >>> ((Int32.ofInt 2).toInt64.toUInt64 &&& Int64.toUInt64 63)).toInt64) &&& (Int64.ofNat 3689348814741910323))).toUInt64 >>> ((Int32.ofInt 4).toInt64.toUInt64 &&& Int64.toUInt64 63)).toInt64)) &&& (Int64.ofNat 1085102592571150095)).toUInt64 >>> ((Int8.ofInt 8).toInt32.toInt64.toUInt64 &&& Int64.toUInt64 63)).toInt64)) + ((((((((x - (((x.toUInt64 >>> ((Int32.ofInt 1).toInt64.toUInt64 &&& Int64.toUInt64 63)).toInt64) &&& (Int64.ofNat 6148914691236517205))) &&& (Int64.ofNat 3689348814741910323)) + ((((x - (((x.toUInt64 >>> ((Int32.ofInt 1).toInt64.toUInt64 &&& Int64.toUInt64 63)).toInt64) &&& (Int64.ofNat 6148914691236517205))).toUInt64 >>> ((Int32.ofInt 2).toInt64.toUInt64 &&& Int64.toUInt64 63)).toInt64) &&& (Int64.ofNat 3689348814741910323))) + (((((x - (((x.toUInt64 >>> ((Int32.ofInt 1).toInt64.toUInt64 &&& Int64.toUInt64 63)).toInt64) &&& (Int64.ofNat 6148914691236517205))) &&& (Int64.ofNat 3689348814741910323)) + ((((x - (((x.toUInt64 >>> ((Int32.ofInt 1).toInt64.toUInt64 &&& Int64.toUInt64 63)).toInt64) &&& (Int64.ofNat 6148914691236517205))).toUInt64 >>> ((Int32.ofInt 2).toInt64.toUInt64 &&& Int64.toUInt64 63)).toInt64) &&& (Int64.ofNat 3689348814741910323))).toUInt64 >>> ((Int32.ofInt 4).toInt64.toUInt64 &&& Int64.toUInt64 63)).toInt64)) &&& (Int64.ofNat 1085102592571150095)) + (((((((x - (((x.toUInt64 >>> ((Int32.ofInt 1).toInt64.toUInt64 &&& Int64.toUInt64 63)).toInt64) &&& (Int64.ofNat 6148914691236517205))) &&& (Int64.ofNat 3689348814741910323)) + ((((x - (((x.toUInt64 >>> ((Int32.ofInt 1).toInt64.toUInt64 &&& Int64.toUInt64 63)).toInt64) &&& (Int64.ofNat 6148914691236517205))).toUInt64 >>> ((Int32.ofInt 2).toInt64.toUInt64 &&& Int64.toUInt64 63)).toInt64) &&& (Int64.ofNat 3689348814741910323))) + (((((x - (((x.toUInt64 >>> ((Int32.ofInt 1).toInt64.toUInt64 &&& Int64.toUInt64 63)).toInt64) &&& (Int64.ofNat 6148914691236517205))) &&& (Int64.ofNat 3689348814741910323)) + ((((x - (((x.toUInt64 >>> ((Int32.ofInt 1).toInt64.toUInt64 &&& Int64.toUInt64 63)).toInt64) &&& (Int64.ofNat 6148914691236517205))).toUInt64 >>> ((Int32.ofInt 2).toInt64.toUInt64 &&& Int64.toUInt64 63)).toInt64) &&& (Int64.ofNat 3689348814741910323))).toUInt64 >>> ((Int32.ofInt 4).toInt64.toUInt64 &&& Int64.toUInt64 63)).toInt64)) &&& (Int64.ofNat 1085102592571150095)).toUInt64 >>> ((Int8.ofInt 8).toInt32.toInt64.toUInt64 &&& Int64.toUInt64 63)).toInt64)).toUInt64 >>> ((Int8.ofInt 16).toInt32.toInt64.toUInt64 &&& Int64.toUInt64 63)).toInt64)) + (((((((((x - (((x.toUInt64 >>> ((Int32.ofInt 1).toInt64.toUInt64 &&& Int64.toUInt64 63)).toInt64) &&& (Int64.ofNat 6148914691236517205))) &&& (Int64.ofNat 3689348814741910323)) + ((((x - (((x.toUInt64 >>> ((Int32.ofInt 1).toInt64.toUInt64 &&& Int64.toUInt64 63)).toInt64) &&& (Int64.ofNat 6148914691236517205))).toUInt64 >>> ((Int32.ofInt 2).toInt64.toUInt64 &&& Int64.toUInt64 63)).toInt64) &&& (Int64.ofNat 3689348814741910323))) + (((((x - (((x.toUInt64 >>> ((Int32.ofInt 1).toInt64.toUInt64 &&& Int64.toUInt64 63)).toInt64) &&& (Int64.ofNat 6148914691236517205))) &&& (Int64.ofNat 3689348814741910323)) + ((((x - (((x.toUInt64 >>> ((Int32.ofInt 1).toInt64.toUInt64 &&& Int64.toUInt64 63)).toInt64) &&& (Int64.ofNat 6148914691236517205))).toUInt64 >>> ((Int32.ofInt 2).toInt64.toUInt64 &&& Int64.toUInt64 63)).toInt64) &&& (Int64.ofNat 3689348814741910323))).toUInt64 >>> ((Int32.ofInt 4).toInt64.toUInt64 &&& Int64.toUInt64 63)).toInt64)) &&& (Int64.ofNat 1085102592571150095)) + (((((((x - (((x.toUInt64 >>> ((Int32.ofInt 1).toInt64.toUInt64 &&& Int64.toUInt64 63)).toInt64) &&& (Int64.ofNat 6148914691236517205))) &&& (Int64.ofNat 3689348814741910323)) + ((((x - (((x.toUInt64 >>> ((Int32.ofInt 1).toInt64.toUInt64 &&& Int64.toUInt64 63)).toInt64) &&& (Int64.ofNat 6148914691236517205))).toUInt64 >>> ((Int32.ofInt 2).toInt64.toUInt64 &&& Int64.toUInt64 63)).toInt64) &&& (Int64.ofNat 3689348814741910323))) + (((((x - (((x.toUInt64 >>> ((Int32.ofInt 1).toInt64.toUInt64 &&& Int64.toUInt64 63)).toInt64) &&& (Int64.ofNat 6148914691236517205))) &&& (Int64.ofNat 3689348814741910323)) + ((((x - (((x.toUInt64 >>> ((Int32.ofInt 1).toInt64.toUInt64 &&& Int64.toUInt64 63)).toInt64) &&& (Int64.ofNat 6148914691236517205))).toUInt64 >>> ((Int32.ofInt 2).toInt64.toUInt64 &&& Int64.toUInt64 63)).toInt64) &&& (Int64.ofNat 3689348814741910323))).toUInt64 >>> ((Int32.ofInt 4).toInt64.toUInt64 &&& Int64.toUInt64 63)).toInt64)) &&& (Int64.ofNat 1085102592571150095)).toUInt64 >>> ((Int8.ofInt 8).toInt32.toInt64.toUInt64 &&& Int64.toUInt64 63)).toInt64)) + ((((((((x - (((x.toUInt64 >>> ((Int32.ofInt 1).toInt64.toUInt64 &&& Int64.toUInt64 63)).toInt64) &&& (Int64.ofNat 6148914691236517205))) &&& (Int64.ofNat 3689348814741910323)) + ((((x - (((x.toUInt64 >>> ((Int32.ofInt 1).toInt64.toUInt64 &&& Int64.toUInt64 63)).toInt64) &&& (Int64.ofNat 6148914691236517205))).toUInt64 >>> ((Int32.ofInt 2).toInt64.toUInt64 &&& Int64.toUInt64 63)).toInt64) &&& (Int64.ofNat 3689348814741910323))) + (((((x - (((x.toUInt64 >>> ((Int32.ofInt 1).toInt64.toUInt64 &&& Int64.toUInt64 63)).toInt64) &&& (Int64.ofNat 6148914691236517205))) &&& (Int64.ofNat 3689348814741910323)) + ((((x - (((x.toUInt64 >>> ((Int32.ofInt 1).toInt64.toUInt64 &&& Int64.toUInt64 63)).toInt64) &&& (Int64.ofNat 6148914691236517205))).toUInt64 >>> ((Int32.ofInt 2).toInt64.toUInt64 &&& Int64.toUInt64 63)).toInt64) &&& (Int64.ofNat 3689348814741910323))).toUInt64 >>> ((Int32.ofInt 4).toInt64.toUInt64 &&& Int64.toUInt64 63)).toInt64)) &&& (Int64.ofNat 1085102592571150095)) + (((((((x - (((x.toUInt64 >>> ((Int32.ofInt 1).toInt64.toUInt64 &&& Int64.toUInt64 63)).toInt64) &&& (Int64.ofNat 6148914691236517205))) &&& (Int64.ofNat 3689348814741910323)) + ((((x - (((x.toUInt64 >>> ((Int32.ofInt 1).toInt64.toUInt64 &&& Int64.toUInt64 63)).toInt64) &&& (Int64.ofNat 6148914691236517205))).toUInt64 >>> ((Int32.ofInt 2).toInt64.toUInt64 &&& Int64.toUInt64 63)).toInt64) &&& (Int64.ofNat 3689348814741910323))) + (((((x - (((x.toUInt64 >>> ((Int32.ofInt 1).toInt64.toUInt64 &&& Int64.toUInt64 63)).toInt64) &&& (Int64.ofNat 6148914691236517205))) &&& (Int64.ofNat 3689348814741910323)) + ((((x - (((x.toUInt64 >>> ((Int32.ofInt 1).toInt64.toUInt64 &&& Int64.toUInt64 63)).toInt64) &&& (Int64.ofNat 6148914691236517205))).toUInt64 >>> ((Int32.ofInt 2).toInt64.toUInt64 &&& Int64.toUInt64 63)).toInt64) &&& (Int64.ofNat 3689348814741910323))).toUInt64 >>> ((Int32.ofInt 4).toInt64.toUInt64 &&& Int64.toUInt64 63)).toInt64)) &&& (Int64.ofNat 1085102592571150095)).toUInt64 >>> ((Int8.ofInt 8).toInt32.toInt64.toUInt64 &&& Int64.toUInt64 63)).toInt64)).toUInt64 >>> ((Int8.ofInt 16).toInt32.toInt64.toUInt64 &&& Int64.toUInt64 63)).toInt64)).toUInt64 >>> ((Int8.ofInt 32).toInt32.toInt64.toUInt64 &&& Int64.toUInt64 63)).toInt64))), none]) rfl (Nat.le_of_ble_eq_true rfl) rfl ?_
  refine g_lload_n (i := 0) rfl rfl ?_
  refine g_l2i rfl ?_
  refine g_bipush (n := 127) rfl ?_
  refine g_iand rfl ?_
  refine g_ireturn (ty := .int) rfl rfl rfl ?_
  exact ⟨rfl, congrArg (fun z => some (Value.int z)) key⟩
end
