section
/-! ===== field of the reference ===== -/
/-- what bars a row (1), a cut (2) -/
def wtS (hd : Nat → Int32) (S : Nat) (w : Int) : Int32 := if (hd S).toInt = 3 - w then -2 else if (hd S).toInt = 0 then -3 else 0
theorem s_sh12z {d : Nat} {h : sHp} {s : Int32} (hd : 1 ≤ d) : sDo d 171 [.ref 60, .int s] h (fun r h' => h' = h ∧ ((0 ≤ s.toInt ∧ s.toInt < 8) ∧ r = some (.int 1) ∨ ¬ (0 ≤ s.toInt ∧ s.toInt < 8) ∧ r = some (.int 0))) := by
  obtain ⟨e, rfl⟩ : ∃ e, d = e + 1 := ⟨d - 1, by omega⟩
  refine sDo_mono (s_sh12 rfl) (fun r h' q => ⟨q.1, ?_⟩)
  by_cases z : 0 ≤ s.toInt ∧ s.toInt < 8
  · rw [if_pos z] at q; exact Or.inl ⟨z, q.2⟩
  · rw [if_neg z] at q; exact Or.inr ⟨z, q.2⟩
theorem s_wantsE {d : Nat} {h : sHp} {J hd : Nat → Int32} {s w : Int32} (hd1 : 2 ≤ d) (hr : h[60]? = some (mO J)) (a4 : h[67]? = some (.inl (0, 8, .inl hd))) (hw : w.toInt = 1 ∨ w.toInt = 2) : sDo d 184 [.ref 60, .int s, .int w] h (fun r h' => h' = h ∧ ((0 ≤ s.toInt ∧ s.toInt < 8) ∧ r = some (.int (wtS hd s.toInt.toNat w.toInt)) ∨ ¬ (0 ≤ s.toInt ∧ s.toInt < 8) ∧ r = some (.int (-1)))) := by
  unfold wtS
  refine sDo_of1 (nL := 3) (L := [some (.ref 60), some (.int s), some (.int w)]) (by omega) rfl rfl ?_
  refine g_aload_n (i := 0) rfl rfl ?_
  refine g_iload_n (i := 1) rfl rfl ?_
  refine g_virt1 (Qc := fun r h' => h' = h ∧ (((0 ≤ s.toInt ∧ s.toInt < 8) ∧ r = some (.int 1)) ∨ (¬ (0 ≤ s.toInt ∧ s.toInt < 8) ∧ r = some (.int 0)))) rfl (by decide) rfl hr rfl (Nat.le_of_ble_eq_true rfl) (s_sh12z (by omega)) (fun r h hq9 => ?_)
  obtain ⟨rfl, ⟨c_1, rfl⟩ | ⟨c_1, rfl⟩⟩ := hq9
  · skip
    obtain ⟨S, hS⟩ : ∃ S : Nat, s.toInt = S := ⟨s.toInt.toNat, by omega⟩
    rw [show s.toInt.toNat = S by omega]
    refine g_if_ne 12 rfl rfl (fun _ => ?_) (fun hc => absurd hc (by decide))
    refine g_aload_n (i := 0) rfl rfl ?_
    refine g_getfield (v := .ref 67) rfl hr (by decide) rfl ?_
    refine g_iload_n (i := 1) rfl rfl ?_
    refine g_iaload (n := 8) (f := hd) rfl a4 (i_in (by omega) (by omega)) ?_
    rw [i_nat hS]
    refine g_iconst (n := 3) rfl ?_
    refine g_iload_n (i := 2) rfl rfl ?_
    have k_2 : (Int32.ofInt 3).toInt = 3 := rfl
    refine g_isub rfl ?_
    have t_3 : ((Int32.ofInt 3) - w).toInt = 3 - w.toInt := by rw [i_sub (by rw [k_2]; omega) (by rw [k_2]; omega), k_2]
    refine g_icmp_ne 29 rfl rfl (fun c_4 => ?_) (fun c_4 => ?_)
    · skip
      rw [i_eq, t_3] at c_4
      refine g_aload_n (i := 0) rfl rfl ?_
      refine g_getfield (v := .ref 67) rfl hr (by decide) rfl ?_
      refine g_iload_n (i := 1) rfl rfl ?_
      refine g_iaload (n := 8) (f := hd) rfl a4 (i_in (by omega) (by omega)) ?_
      rw [i_nat hS]
      have k_6 : (0 : Int32).toInt = 0 := rfl
      refine g_if_ne 43 rfl rfl (fun c_5 => ?_) (fun c_5 => ?_)
      · skip
        rw [i_eq, k_6] at c_5
        refine g_iconst (n := 0) rfl ?_
        refine g_ireturn (ty := .int) rfl rfl rfl ?_
        exact ⟨rfl, Or.inl ⟨c_1, by rw [if_neg (by omega), if_neg (by omega)]; rfl⟩⟩
      · skip
        rw [i_eq, k_6] at c_5
        refine g_bipush (n := (-3)) rfl ?_
        refine g_goto 44 rfl rfl ?_
        refine g_ireturn (ty := .int) rfl rfl rfl ?_
        exact ⟨rfl, Or.inl ⟨c_1, by rw [if_neg (by omega), if_pos (by omega)]; rfl⟩⟩
    · skip
      rw [i_eq, t_3] at c_4
      refine g_bipush (n := (-2)) rfl ?_
      refine g_goto 44 rfl rfl ?_
      refine g_ireturn (ty := .int) rfl rfl rfl ?_
      exact ⟨rfl, Or.inl ⟨c_1, by rw [if_pos (by omega)]; rfl⟩⟩
  · skip
    refine g_if_ne 12 rfl rfl (fun hc => absurd hc (by decide)) (fun _ => ?_)
    refine g_iconst (n := (-1)) rfl ?_
    refine g_goto 44 rfl rfl ?_
    refine g_ireturn (ty := .int) rfl rfl rfl ?_
    exact ⟨rfl, Or.inr ⟨c_1, rfl⟩⟩
/-- alike in what a field is -/
def mQ (m m' : MF) : Prop := (∀ j, j < 7 → m'.1 j = m.1 j) ∧ m'.2 = m.2
theorem mQ_rfl (m : MF) : mQ m m := ⟨fun _ _ => rfl, rfl⟩
theorem mQ_tr {a b c : MF} (x : mQ a b) (y : mQ b c) : mQ a c := ⟨fun j hj => (y.1 j hj).trans (x.1 j hj), y.2.trans x.2⟩
theorem mQ_S {m m' : MF} (x : mS m m') : mQ m m' := ⟨fun j hj => x.1 j (by omega) (by omega) (by omega), x.2⟩
theorem upd7 {J J' : Nat → Int32} {k : Nat} {v : Int32} (a : ∀ j, j < 7 → J' j = J j) : ∀ j, j < 7 → upd J' k v j = upd J k v j := fun j hj => by
  by_cases e : j = k
  · rw [e, u_at, u_at]
  · rw [u_ne e, u_ne e, a j hj]
theorem mQ_do {m m' : MF} (q : mQ m m') (a : Act) : mQ (mfDo m a) (mfDo m' a) := by
  obtain ⟨J, R⟩ := m
  obtain ⟨J', R'⟩ := m'
  obtain ⟨q1, q2⟩ := q
  have q2 : R' = R := q2
  subst q2
  obtain ⟨k, x, y, z⟩ := a
  match k with
  | 0 => exact ⟨upd7 (upd7 (upd7 (upd7 q1))), rfl⟩
  | 1 => exact ⟨q1, rfl⟩
  | 2 => exact ⟨upd7 q1, rfl⟩
  | 3 =>
    have e : J' 6 = J 6 := q1 6 (by decide)
    show mQ (mfHeir (J 6).toNatClampNeg (Int32.ofNat x) (J, R')) (mfHeir (J' 6).toNatClampNeg (Int32.ofNat x) (J', R'))
    rw [e]
    exact ⟨upd7 q1, rfl⟩
  | k + 4 => exact ⟨q1, rfl⟩
theorem mQ_dos {m m' : MF} (q : mQ m m') : ∀ as : List Act, mQ (as.foldl mfDo m) (as.foldl mfDo m') := by
  intro as
  induction as generalizing m m' with
  | nil => exact q
  | cons a as ih => exact ih (mQ_do q a)
def fdM (h h' : sHp) : Prop := h'.length = h.length ∧ ∀ q, q ≠ 60 → q ≠ 74 → (q < 61 ∨ 66 < q) → h'[q]? = h[q]?
def qF12 (h : sHp) (m : MF) (q : Option (Nat × List Act)) (r : Option Value) (h' : sHp) : Prop := match q with
  | some (k, as) => r = some (.int (Int32.ofNat k)) ∧ (∃ m', MC h' m' ∧ mQ (as.foldl mfDo m) m') ∧ fdM h h'
  | none => r = some (.int (-6)) ∧ (∃ m0 g m', MC h' m' ∧ mQ (mfBack m0 (svF m g)) m') ∧ fdM h h'
theorem s_field12 {d : Nat} {h : sHp} {m : MF} {R hd sz : Nat → Int32} {gw wd : Nat → Int32} {cl : Nat → Int64} {S n : Nat} {x : Int32} {T : Nat → Int32} {s : Sg} (hd1 : 7 ≤ d) (M : MC h m) (hR : h[61]? = some (rFc R)) (hg : h[74]? = some (.inl (0, 180, .inl gw))) (w0 : h[73]? = some (.inl (0, 42, .inl wd))) (W : WD wd) (a4 : h[67]? = some (.inl (0, 8, .inl hd))) (a6 : h[69]? = some (.inl (0, 8, .inl sz))) (a8 : h[71]? = some (.inl (1, 800, .inr (.inl cl)))) (hS : S < 8) (hx : x.toInt = S) (h1 : hd S = 1) (hz : sz S = Int32.ofNat n) (RT1 : RT cl S n T) (hs : sgJ m.1 s) : sDo d 202 [.ref 60, .int x] h (qF12 h m (itsS T n 101 s 0)) := by
  have hwt : wtS hd x.toInt.toNat 1 = 0 := by
    unfold wtS
    rw [show x.toInt.toNat = S by omega, h1]
    rfl
  have e100 : (Int8.ofInt 100).toInt32 * x = Int32.ofNat (100 * S) := Int32.toInt_inj.mp (by rw [n_mul (X := 100) (Y := S) rfl hx (by omega), ofN_toInt (by omega)])
  refine sDo_of1 (nL := 5) (L := [some (.ref 60), some (.int x), none, none, none]) (by omega) rfl rfl ?_
  refine g_aload_n (i := 0) rfl rfl ?_
  refine g_iload_n (i := 1) rfl rfl ?_
  refine g_iconst (n := 1) rfl ?_
  refine g_virt2 rfl (by decide) rfl M.1 rfl (Nat.le_of_ble_eq_true rfl) (s_wantsE (by omega) M.1 a4 (Or.inl rfl)) (fun r h9 hq9 => ?_)
  obtain ⟨rfl, hq9 | hq9⟩ := hq9
  rotate_left
  · exact absurd (show 0 ≤ x.toInt ∧ x.toInt < 8 by omega) hq9.1
  obtain ⟨-, rfl⟩ := hq9
  rw [show wtS hd x.toInt.toNat (Int32.ofInt 1).toInt = 0 from hwt]
  refine g_istore_n (i := 2) (L1 := [some (.ref 60), some (.int x), some (.int 0), none, none]) rfl (Nat.le_of_ble_eq_true rfl) rfl ?_
  refine g_iload_n (i := 2) rfl rfl ?_
  refine g_if_eq 17 rfl rfl (fun _ => ?_) (fun hc => absurd hc (by decide))
  refine g_aload_n (i := 0) rfl rfl ?_
  refine g_aload_n (i := 0) rfl rfl ?_
  refine g_getfield (v := .ref 74) rfl M.1 (by decide) rfl ?_
  refine g_iconst (n := 0) rfl ?_
  refine g_virt2 (Qc := fun r h' => r = none ∧ h' = h9.set 74 (.inl (0, 180, .inl (svF m gw)))) rfl (by decide) rfl M.1 rfl (Nat.le_of_ble_eq_true rfl) (sDo_up (d := 2) (by omega) (s_saveE (d := 0) M hg (by decide))) (fun r h8 hq9 => ?_)
  obtain ⟨rfl, rfl⟩ := hq9
  have M2 : MC (h9.set 74 (.inl (0, 180, .inl (svF m gw)))) m := by
    obtain ⟨b0, b1, b2, b3, b4, b5⟩ := M
    exact ⟨by rw [s_set_ne (by decide)]; exact b0, by rw [s_set_ne (by decide)]; exact b1, by rw [s_set_ne (by decide)]; exact b2, by rw [s_set_ne (by decide)]; exact b3, by rw [s_set_ne (by decide)]; exact b4, by rw [s_set_ne (by decide)]; exact b5⟩
  have g2 : (h9.set 74 (.inl (0, 180, .inl (svF m gw))))[74]? = some (.inl (0, 180, .inl (svF m gw))) := s_set_eq hg
  have v0 : (h9.set 74 (.inl (0, 180, .inl (svF m gw))))[73]? = some (.inl (0, 42, .inl wd)) := by rw [s_set_ne (by decide)]; exact w0
  have v6 : (h9.set 74 (.inl (0, 180, .inl (svF m gw))))[69]? = some (.inl (0, 8, .inl sz)) := by rw [s_set_ne (by decide)]; exact a6
  have v8 : (h9.set 74 (.inl (0, 180, .inl (svF m gw))))[71]? = some (.inl (1, 800, .inr (.inl cl))) := by rw [s_set_ne (by decide)]; exact a8
  have vR : (h9.set 74 (.inl (0, 180, .inl (svF m gw))))[61]? = some (rFc R) := by rw [s_set_ne (by decide)]; exact hR
  have fd1 : fdM h9 (h9.set 74 (.inl (0, 180, .inl (svF m gw)))) := ⟨List.length_set, fun q e1 e2 e3 => s_set_ne (Ne.symm e2)⟩
  generalize h9.set 74 (.inl (0, 180, .inl (svF m gw))) = h2 at M2 g2 v0 v6 v8 vR fd1 ⊢
  refine g_aload_n (i := 0) rfl rfl ?_
  refine g_bipush (n := 100) rfl ?_
  refine g_iload_n (i := 1) rfl rfl ?_
  refine g_imul rfl ?_
  rw [e100]
  have M3 := MC_0 (f := (upd m.1 21 (Int32.ofNat (100 * S)))) M2
  refine g_putfield (h1 := List.set h2 60 (mO (upd m.1 21 (Int32.ofNat (100 * S))))) rfl M2.1 (by decide) (Nat.le_of_ble_eq_true rfl) rfl rfl ?_
  refine g_aload_n (i := 0) rfl rfl ?_
  refine g_iconst (n := 0) rfl ?_
  have M4 := MC_0 (f := (upd (upd m.1 21 (Int32.ofNat (100 * S))) 22 (Int32.ofInt 0))) M3
  refine g_putfield (h1 := List.set (List.set h2 60 (mO (upd m.1 21 (Int32.ofNat (100 * S))))) 60 (mO (upd (upd m.1 21 (Int32.ofNat (100 * S))) 22 (Int32.ofInt 0)))) rfl M3.1 (by decide) (Nat.le_of_ble_eq_true rfl) rfl rfl ?_
  refine g_aload_n (i := 0) rfl rfl ?_
  refine g_aload_n (i := 0) rfl rfl ?_
  refine g_getfield (v := .ref 69) rfl M4.1 (by decide) rfl ?_
  refine g_iload_n (i := 1) rfl rfl ?_
  refine g_iaload (n := 8) (f := sz) rfl (by (repeat rw [s_set_ne (by decide)]); exact v6) (i_in (by omega) (by omega)) ?_
  rw [i_nat hx, hz]
  have M5 := MC_0 (f := (upd (upd (upd m.1 21 (Int32.ofNat (100 * S))) 22 (Int32.ofInt 0)) 23 (Int32.ofNat n))) M4
  refine g_putfield (h1 := List.set (List.set (List.set h2 60 (mO (upd m.1 21 (Int32.ofNat (100 * S))))) 60 (mO (upd (upd m.1 21 (Int32.ofNat (100 * S))) 22 (Int32.ofInt 0)))) 60 (mO (upd (upd (upd m.1 21 (Int32.ofNat (100 * S))) 22 (Int32.ofInt 0)) 23 (Int32.ofNat n)))) rfl M4.1 (by decide) (Nat.le_of_ble_eq_true rfl) rfl rfl ?_
  refine g_aload_n (i := 0) rfl rfl ?_
  refine g_iconst (n := (-1)) rfl ?_
  have M6 := MC_0 (f := (upd (upd (upd (upd m.1 21 (Int32.ofNat (100 * S))) 22 (Int32.ofInt 0)) 23 (Int32.ofNat n)) 7 ((Int32.ofInt (-1))))) M5
  refine g_putfield (h1 := List.set (List.set (List.set (List.set h2 60 (mO (upd m.1 21 (Int32.ofNat (100 * S))))) 60 (mO (upd (upd m.1 21 (Int32.ofNat (100 * S))) 22 (Int32.ofInt 0)))) 60 (mO (upd (upd (upd m.1 21 (Int32.ofNat (100 * S))) 22 (Int32.ofInt 0)) 23 (Int32.ofNat n)))) 60 (mO (upd (upd (upd (upd m.1 21 (Int32.ofNat (100 * S))) 22 (Int32.ofInt 0)) 23 (Int32.ofNat n)) 7 ((Int32.ofInt (-1)))))) rfl M5.1 (by decide) (Nat.le_of_ble_eq_true rfl) rfl rfl ?_
  refine g_iconst (n := 1) rfl ?_
  refine g_istore_n (i := 3) (L1 := [some (.ref 60), some (.int x), some (.int 0), some (.int (Int32.ofInt 1)), none]) rfl (Nat.le_of_ble_eq_true rfl) rfl ?_
  have E2 : mE h2 (List.set (List.set (List.set (List.set h2 60 (mO (upd m.1 21 (Int32.ofNat (100 * S))))) 60 (mO (upd (upd m.1 21 (Int32.ofNat (100 * S))) 22 (Int32.ofInt 0)))) 60 (mO (upd (upd (upd m.1 21 (Int32.ofNat (100 * S))) 22 (Int32.ofInt 0)) 23 (Int32.ofNat n)))) 60 (mO (upd (upd (upd (upd m.1 21 (Int32.ofNat (100 * S))) 22 (Int32.ofInt 0)) 23 (Int32.ofNat n)) 7 ((Int32.ofInt (-1)))))) := mE_set (mE_set (mE_set (mE_set mE_rfl (by decide)) (by decide)) (by decide)) (by decide)
  have hs2 : sgJ (upd (upd (upd (upd m.1 21 (Int32.ofNat (100 * S))) 22 (Int32.ofInt 0)) 23 (Int32.ofNat n)) 7 ((Int32.ofInt (-1)))) s := hs
  refine s_fld_go (d := d - 1) (h0 := h2) W RT1 (by omega) v0 v8 101 0 1 _ ((upd (upd (upd (upd m.1 21 (Int32.ofNat (100 * S))) 22 (Int32.ofInt 0)) 23 (Int32.ofNat n)) 7 ((Int32.ofInt (-1)))), m.2) ((upd (upd (upd (upd m.1 21 (Int32.ofNat (100 * S))) 22 (Int32.ofInt 0)) 23 (Int32.ofNat n)) 7 ((Int32.ofInt (-1)))), m.2) s none 56 (Or.inl rfl) (by have := RT1.2.1; omega) (by omega) (by omega) M6 ⟨fun _ _ _ _ => rfl, rfl⟩ E2 ⟨rfl, rfl, rfl⟩ hs2 (fun h5 goes K' hK' hq => ?_)
  have hmQ : mQ m ((upd (upd (upd (upd m.1 21 (Int32.ofNat (100 * S))) 22 (Int32.ofInt 0)) 23 (Int32.ofNat n)) 7 ((Int32.ofInt (-1)))), m.2) := ⟨fun j hj => (u_ne (by omega)).trans ((u_ne (by omega)).trans ((u_ne (by omega)).trans (u_ne (by omega)))), rfl⟩
  obtain ⟨m', M', E', hq⟩ := hq
  have eK := ofN_toInt (n := K') (by omega)
  cases hi : itsS T n 101 s 0 with
  | none =>
    rw [hi] at hq
    have hq : goes = 0 := hq
    subst hq
    have g5 := (E'.2 74 (by decide) (by decide)).trans g2
    have r5 : h5[61]? = some (rFc R) := (E'.2 61 (by decide) (by decide)).trans vR
    refine g_iload (i := 4) rfl rfl ?_
    refine g_if_eq 140 rfl rfl (fun _ => ?_) (fun hc => absurd hc (by decide))
    refine g_aload_n (i := 0) rfl rfl ?_
    refine g_aload_n (i := 0) rfl rfl ?_
    refine g_getfield (v := .ref 74) rfl M'.1 (by decide) rfl ?_
    refine g_iconst (n := 1) rfl ?_
    refine g_virt2 (Qc := fun r h' => r = none ∧ MC h' (mfBack m' (svF m gw)) ∧ mE h5 h') rfl (by decide) rfl M'.1 rfl (Nat.le_of_ble_eq_true rfl) (sDo_up (d := 2) (by omega) (s_backE (d := 0) M' g5 (by decide))) (fun r h4 hq9 => ?_)
    obtain ⟨rfl, q1, q2⟩ := hq9
    refine g_aload_n (i := 0) rfl rfl ?_
    refine g_aload_n (i := 0) rfl rfl ?_
    refine g_getfield (v := .int ((mfBack m' (svF m gw)).1 25)) rfl q1.1 (by decide) rfl ?_
    have q3 := MC_0 (f := (upd (mfBack m' (svF m gw)).1 7 (((mfBack m' (svF m gw)).1 25)))) q1
    refine g_putfield (h1 := h4.set 60 (mO (upd (mfBack m' (svF m gw)).1 7 (((mfBack m' (svF m gw)).1 25))))) rfl q1.1 (by decide) (Nat.le_of_ble_eq_true rfl) rfl rfl ?_
    refine g_aload_n (i := 0) rfl rfl ?_
    refine g_bipush (n := (-6)) rfl ?_
    refine g_virt1 (Qc := fun r h' => r = some (.int (-6)) ∧ h' = List.set (h4.set 60 (mO (upd (mfBack m' (svF m gw)).1 7 (((mfBack m' (svF m gw)).1 25))))) 61 (rFc (bump R 6))) rfl (by decide) rfl q3.1 rfl (Nat.le_of_ble_eq_true rfl) (s_no2 (X := 6) (R := R) (by omega) q3.1 (by rw [s_set_ne (by decide), q2.2 61 (by decide) (by decide)]; exact r5) rfl (by decide)) (fun r h3 hq9 => ?_)
    obtain ⟨rfl, rfl⟩ := hq9
    refine g_ireturn (ty := .int) rfl rfl rfl ?_
    refine ⟨rfl, ⟨m', gw, _, MC_61 q3, ⟨fun j hj => u_ne (by omega), rfl⟩⟩, ?_, fun q e1 e2 e3 => ?_⟩
    · rw [List.length_set, List.length_set]; exact q2.1.trans (E'.1.trans fd1.1)
    · rw [s_set_ne (by omega), s_set_ne (Ne.symm e1), q2.2 q e1 (by omega), E'.2 q e1 (by omega)]
      exact fd1.2 q e1 e2 e3
  | some kb =>
    obtain ⟨k, as⟩ := kb
    rw [hi] at hq
    obtain ⟨rfl, e1, ms⟩ := hq
    have hk : K' = k := by omega
    subst hk
    refine g_iload (i := 4) rfl rfl ?_
    refine g_if_eq 140 rfl rfl (fun hc => absurd hc (by decide)) (fun _ => ?_)
    refine g_iload_n (i := 3) rfl rfl ?_
    refine g_ireturn (ty := .int) rfl rfl rfl ?_
    exact ⟨rfl, ⟨m', M', mQ_tr (mQ_dos hmQ as) (mQ_S ms)⟩, E'.1.trans fd1.1, fun q e1 e2 e3 => (E'.2 q e1 (by omega)).trans (fd1.2 q e1 e2 e3)⟩
end
section
/-! ===== what is alike of two fields ===== -/
def szC (W H : Nat) : Bool := decide (lowS (Int32.ofNat W * Int32.ofNat H) = stO (fun _ => true) (W * H)) && (decide (fcS (Int32.ofNat W) H = stO (fun i => decide (i % W = 0)) (W * H)) && (decide (fcS (Int32.ofNat W) H <<< ((Int32.ofNat W - Int32.ofInt 1).toInt64 &&& 63) = stO (fun i => decide (i % W = W - 1)) (W * H)) && (decide (lowS (Int32.ofNat W) = stO (fun i => decide (i < W)) (W * H)) && decide (lowS (Int32.ofNat W) <<< ((Int32.ofNat W * (Int32.ofNat H - Int32.ofInt 1)).toInt64 &&& 63) = stO (fun i => decide (W * (H - 1) ≤ i)) (W * H)))))
theorem sz_ck : ((List.range 9).all fun W => (List.range 9).all fun H => Nat.blt W 2 || (Nat.blt H 2 || szC W H)) = true := by decide +kernel
theorem blt_n {a b : Nat} (h : b ≤ a) : Nat.blt a b = false := by
  cases z : Nat.blt a b
  · rfl
  · have := Nat.le_of_ble_eq_true z; omega
theorem gdF_size {c : CF} {W H : Nat} (w2 : 2 ≤ W) (w8 : W ≤ 8) (h2 : 2 ≤ H) (h8 : H ≤ 8) : gdF (cfSize (Int32.ofNat W) (Int32.ofNat H) c) W H := by
  have h := rg_all (rg_all sz_ck W (by omega)) H (by omega)
  rw [blt_n w2, blt_n h2, Bool.false_or, Bool.false_or] at h
  unfold szC at h
  simp only [Bool.and_eq_true, decide_eq_true_eq] at h
  obtain ⟨a1, a2, a3, a4, a5⟩ := h
  have eH : (Int32.ofNat H).toInt.toNat = H := by rw [ofN_toInt (by omega)]; rfl
  have key : ∀ G : Nat → Int64, szG (Int32.ofNat W) (Int32.ofNat H) G 2 = lowS (Int32.ofNat W * Int32.ofNat H) ∧ szG (Int32.ofNat W) (Int32.ofNat H) G 3 = fcS (Int32.ofNat W) H ∧ szG (Int32.ofNat W) (Int32.ofNat H) G 4 = fcS (Int32.ofNat W) H <<< ((Int32.ofNat W - Int32.ofInt 1).toInt64 &&& 63) ∧ szG (Int32.ofNat W) (Int32.ofNat H) G 5 = lowS (Int32.ofNat W) ∧ szG (Int32.ofNat W) (Int32.ofNat H) G 6 = lowS (Int32.ofNat W) <<< ((Int32.ofNat W * (Int32.ofNat H - Int32.ofInt 1)).toInt64 &&& 63) := by
    intro G
    unfold szG
    rw [eH]
    exact ⟨rfl, rfl, rfl, rfl, rfl⟩
  obtain ⟨b1, b2, b3, b4, b5⟩ := key c.2.1
  exact ⟨rfl, rfl, w2, w8, h2, h8, b1.trans a1, b2.trans a2, b3.trans a3, b4.trans a4, b5.trans a5⟩
/-- ints and longs alike -/
def RN (c : CF) (m : MF) : Prop := ∃ W H N : Nat, gdF c W H ∧ N ≤ 5 ∧ c.1 11 = Int32.ofNat N ∧ m.1 0 = Int32.ofNat W ∧ m.1 1 = Int32.ofNat H ∧ m.1 6 = Int32.ofNat N ∧ ∀ k, k ≤ 3 → c.1 (7 + k) = m.1 (2 + k)
/-- what a relation of fields must bear -/
def relOk (Rel : CF → MF → Prop) : Prop := (∀ c m m', Rel c m → mQ m m' → Rel c m') ∧ (∀ c m s a, Rel c m → sgI c s → sgJ m.1 s → actOk s a → Rel (cfDo c a) (mfDo m a)) ∧ (∀ a b m, Rel a m → Rel (cfBecome a b) m) ∧ (∀ c m m' g, Rel c m → Rel c (mfBack m' (svF m g))) ∧ (∀ c m, Rel c m → RN c m) ∧ (∀ (c : CF) (m : MF) (s : Sg) (k : Nat) (v : Int32), Rel c m → sgI c s → k ≤ 3 → okPl (s.1 * s.2.1) (k : Int) v.toInt → Rel (upd c.1 (7 + k) v, c.2) (upd m.1 (2 + k) v, m.2))
theorem RN_sg {c : CF} {m : MF} (r : RN c m) : ∃ s : Sg, sgI c s ∧ sgJ m.1 s ∧ gdF c s.1 s.2.1 ∧ gdM m.1 s.1 s.2.1 := by
  obtain ⟨W, H, N, g, hN, c11, m0, m1, m6, -⟩ := r
  have g' := g
  obtain ⟨g0, g1, w2, w8, h2, h8, -⟩ := g'
  exact ⟨(W, H, N), ⟨g0, g1, c11, w2, w8, h2, h8, hN⟩, ⟨m0, m1, m6, w2, w8, h2, h8, hN⟩, g, ⟨m0, m1, w2, w8, h2, h8⟩⟩
theorem sg_do {c : CF} {m : MF} {s : Sg} {a : Act} (q : sgI c s) (p : sgJ m.1 s) (k : actOk s a) : sgI (cfDo c a) (sgDo s a) ∧ sgJ (mfDo m a).1 (sgDo s a) := by
  obtain ⟨q1, q2, q3, q4, q5, q6, q7, q8⟩ := q
  obtain ⟨p1, p2, p3, -⟩ := p
  obtain ⟨i, x, y, z⟩ := a
  match i, k with
  | 0, k => exact ⟨⟨rfl, rfl, q3, k.1, k.2.1, k.2.2.1, k.2.2.2, q8⟩, ⟨rfl, rfl, p3, k.1, k.2.1, k.2.2.1, k.2.2.2, q8⟩⟩
  | 1, k => exact ⟨⟨q1, q2, q3, q4, q5, q6, q7, q8⟩, ⟨p1, p2, p3, q4, q5, q6, q7, q8⟩⟩
  | 2, k =>
    have k1 : x < 4 := k.1
    exact ⟨⟨(u_ne (show (0 : Nat) ≠ 7 + x by omega)).trans q1, (u_ne (show (1 : Nat) ≠ 7 + x by omega)).trans q2, (u_ne (show (11 : Nat) ≠ 7 + x by omega)).trans q3, q4, q5, q6, q7, q8⟩, ⟨(u_ne (show (0 : Nat) ≠ 2 + x by omega)).trans p1, (u_ne (show (1 : Nat) ≠ 2 + x by omega)).trans p2, (u_ne (show (6 : Nat) ≠ 2 + x by omega)).trans p3, q4, q5, q6, q7, q8⟩⟩
  | 3, k =>
    have eN := ofN_toInt (n := s.2.2) (by omega)
    have e1 : (c.1 11).toNatClampNeg = s.2.2 := by rw [q3]; exact i_nat eN
    have e2 : (m.1 6).toNatClampNeg = s.2.2 := by rw [p3]; exact i_nat eN
    have k3 : s.2.2 < 5 := k.2.2
    refine ⟨?_, ?_⟩
    · show sgI (cfHeir (c.1 11).toNatClampNeg (Int32.ofNat x) c) (s.1, s.2.1, s.2.2 + 1)
      rw [e1]
      exact ⟨q1, q2, rfl, q4, q5, q6, q7, k3⟩
    · show sgJ (mfHeir (m.1 6).toNatClampNeg (Int32.ofNat x) m).1 (s.1, s.2.1, s.2.2 + 1)
      rw [e2]
      exact ⟨p1, p2, rfl, q4, q5, q6, q7, k3⟩
  | i + 4, k => exact ⟨⟨q1, q2, q3, q4, q5, q6, q7, q8⟩, ⟨p1, p2, p3, q4, q5, q6, q7, q8⟩⟩
theorem rel_dos {Rel : CF → MF → Prop} (ok : relOk Rel) : ∀ {as : List Act} {c : CF} {m : MF} {s : Sg}, Rel c m → sgI c s → sgJ m.1 s → actsOk s as → Rel (as.foldl cfDo c) (as.foldl mfDo m) := by
  intro as
  induction as with
  | nil => intro c m s r _ _ _; exact r
  | cons a as ih =>
    intro c m s r q p k
    have z := sg_do q p k.1
    exact ih (ok.2.1 c m s a r q p k.1) z.1 z.2 k.2
theorem gdF_I {c c' : CF} {W H : Nat} (g : gdF c W H) (e0 : c'.1 0 = c.1 0) (e1 : c'.1 1 = c.1 1) (e2 : ∀ j, 2 ≤ j → j ≤ 6 → c'.2.1 j = c.2.1 j) : gdF c' W H := by
  obtain ⟨g0, g1, w2, w8, h2, h8, a, b, c, d, e⟩ := g
  exact ⟨e0.trans g0, e1.trans g1, w2, w8, h2, h8, (e2 2 (by decide) (by decide)).trans a, (e2 3 (by decide) (by decide)).trans b, (e2 4 (by decide) (by decide)).trans c, (e2 5 (by decide) (by decide)).trans d, (e2 6 (by decide) (by decide)).trans e⟩
theorem bk_at (J g : Nat → Int32) : ∀ j, j < 7 → bkJ J g j = g (168 + j) := fun j hj => by
  match j, hj with
  | 0, _ => rfl
  | 1, _ => rfl
  | 2, _ => rfl
  | 3, _ => rfl
  | 4, _ => rfl
  | 5, _ => rfl
  | 6, _ => rfl
  | j + 7, hj => exact absurd hj (by omega)
theorem RN_J {c : CF} {m m' : MF} (r : RN c m) (e : ∀ j, j < 7 → m'.1 j = m.1 j) : RN c m' := by
  obtain ⟨W, H, N, g, hN, c11, m0, m1, m6, mk⟩ := r
  exact ⟨W, H, N, g, hN, c11, (e 0 (by decide)).trans m0, (e 1 (by decide)).trans m1, (e 6 (by decide)).trans m6, fun k hk => (mk k hk).trans (e (2 + k) (by omega)).symm⟩
theorem RN_C {c c' : CF} {m : MF} (r : RN c m) (e : ∀ j, j < 2 ∨ (7 ≤ j ∧ j ≤ 11) → c'.1 j = c.1 j) (e2 : ∀ j, 2 ≤ j → j ≤ 6 → c'.2.1 j = c.2.1 j) : RN c' m := by
  obtain ⟨W, H, N, g, hN, c11, m0, m1, m6, mk⟩ := r
  exact ⟨W, H, N, gdF_I g (e 0 (by decide)) (e 1 (by decide)) e2, hN, (e 11 (by decide)).trans c11, m0, m1, m6, fun k hk => (e (7 + k) (by omega)).trans (mk k hk)⟩
theorem bc_I (a b : Nat → Int32) : ∀ j, j < 2 ∨ (7 ≤ j ∧ j ≤ 11) → bcI a b j = a j := fun j hj => by
  rcases (show j = 0 ∨ j = 1 ∨ j = 7 ∨ j = 8 ∨ j = 9 ∨ j = 10 ∨ j = 11 by omega) with rfl | rfl | rfl | rfl | rfl | rfl | rfl <;> rfl
theorem bc_G (a b : Nat → Int64) : ∀ j, 2 ≤ j → j ≤ 6 → bcG a b j = a j := fun j h1 h2 => by
  rcases (show j = 2 ∨ j = 3 ∨ j = 4 ∨ j = 5 ∨ j = 6 by omega) with rfl | rfl | rfl | rfl | rfl <;> rfl
theorem RN_ok : relOk RN := by
  refine ⟨fun c m m' r q => RN_J r q.1, fun c m s a r q p k => ?_, fun a b m r => RN_C r (bc_I a.1 b.1) (bc_G a.2.1 b.2.1), fun c m m' g r => RN_J r (fun j hj => bk_sv j hj), fun c m r => r, fun c m s k v r q hk hv => ?_⟩
  · obtain ⟨W, H, N, g, hN, c11, m0, m1, m6, mk⟩ := r
    obtain ⟨i, x, y, z⟩ := a
    match i, k with
    | 0, k => exact ⟨x, y, N, gdF_size k.1 k.2.1 k.2.2.1 k.2.2.2, hN, c11, rfl, rfl, m6, fun j hj => by
        rcases (show j = 0 ∨ j = 1 ∨ j = 2 ∨ j = 3 by omega) with rfl | rfl | rfl | rfl
        · exact mk 0 (by decide)
        · rfl
        · rfl
        · exact mk 3 (by decide)⟩
    | 1, k => exact ⟨W, H, N, g, hN, c11, m0, m1, m6, mk⟩
    | 2, k =>
      have k1 : x < 4 := k.1
      refine ⟨W, H, N, gdF_I g (u_ne (by omega)) (u_ne (by omega)) (fun _ _ _ => rfl), hN, (u_ne (show (11 : Nat) ≠ 7 + x by omega)).trans c11, (u_ne (show (0 : Nat) ≠ 2 + x by omega)).trans m0, (u_ne (show (1 : Nat) ≠ 2 + x by omega)).trans m1, (u_ne (show (6 : Nat) ≠ 2 + x by omega)).trans m6, fun j hj => ?_⟩
      show upd c.1 (7 + x) (Int32.ofNat y) (7 + j) = upd m.1 (2 + x) (Int32.ofNat y) (2 + j)
      by_cases e : j = x
      · rw [e, u_at, u_at]
      · rw [u_ne (by omega), u_ne (by omega)]; exact mk j hj
    | 3, k =>
      have eN := ofN_toInt (n := N) (by omega)
      have e1 : (c.1 11).toNatClampNeg = N := by rw [c11]; exact i_nat eN
      have e2 : (m.1 6).toNatClampNeg = N := by rw [m6]; exact i_nat eN
      have k3 : s.2.2 < 5 := k.2.2
      have e3 : N = s.2.2 := by
        have := q.2.2.1
        rw [c11] at this
        have h2 := congrArg Int32.toInt this
        rw [ofN_toInt (by omega), ofN_toInt (by omega)] at h2
        omega
      show RN (cfHeir (c.1 11).toNatClampNeg (Int32.ofNat x) c) (mfHeir (m.1 6).toNatClampNeg (Int32.ofNat x) m)
      rw [e1, e2]
      refine ⟨W, H, N + 1, gdF_I g rfl rfl (fun _ _ _ => rfl), by omega, rfl, m0, m1, rfl, fun j hj => ?_⟩
      show upd c.1 11 (Int32.ofNat (N + 1)) (7 + j) = upd m.1 6 (Int32.ofNat (N + 1)) (2 + j)
      rw [u_ne (by omega), u_ne (by omega)]
      exact mk j hj
    | i + 4, k => exact ⟨W, H, N, g, hN, c11, m0, m1, m6, mk⟩
  · obtain ⟨W, H, N, g, hN, c11, m0, m1, m6, mk⟩ := r
    refine ⟨W, H, N, gdF_I g (u_ne (by omega)) (u_ne (by omega)) (fun _ _ _ => rfl), hN, (u_ne (show (11 : Nat) ≠ 7 + k by omega)).trans c11, (u_ne (show (0 : Nat) ≠ 2 + k by omega)).trans m0, (u_ne (show (1 : Nat) ≠ 2 + k by omega)).trans m1, (u_ne (show (6 : Nat) ≠ 2 + k by omega)).trans m6, fun j hj => ?_⟩
    show upd c.1 (7 + k) v (7 + j) = upd m.1 (2 + k) v (2 + j)
    by_cases e : j = k
    · rw [e, u_at, u_at]
    · rw [u_ne (by omega), u_ne (by omega)]; exact mk j hj
/-- FOND is 0 or 1 -/
def fb01 (c : CF) : Prop := ∀ k, k < 5 → c.2.2.2.2.2.1 k = 0 ∨ c.2.2.2.2.2.1 k = 1
theorem fb_do {c : CF} (h : fb01 c) (a : Act) : fb01 (cfDo c a) := by
  obtain ⟨i, x, y, z⟩ := a
  match i with
  | 0 => exact h
  | 1 => exact h
  | 2 => exact h
  | 3 =>
    intro k hk
    show upd c.2.2.2.2.2.1 (c.1 11).toNatClampNeg 0 k = 0 ∨ upd c.2.2.2.2.2.1 (c.1 11).toNatClampNeg 0 k = 1
    by_cases e : k = (c.1 11).toNatClampNeg
    · rw [e, u_at]; exact Or.inl rfl
    · rw [u_ne e]; exact h k hk
  | i + 4 => exact h
theorem fb_dos {c : CF} (h : fb01 c) : ∀ as : List Act, fb01 (as.foldl cfDo c) := by
  intro as
  induction as generalizing c with
  | nil => exact h
  | cons a as ih => exact ih (fb_do h a)
theorem fb_bc {a b : CF} (h : fb01 a) : fb01 (cfBecome a b) := fun k hk => by
  show cpI a.2.2.2.2.2.1 b.2.2.2.2.2.1 5 k = 0 ∨ cpI a.2.2.2.2.2.1 b.2.2.2.2.2.1 5 k = 1
  have e : cpI a.2.2.2.2.2.1 b.2.2.2.2.2.1 5 k = a.2.2.2.2.2.1 k := if_pos hk
  rw [e]; exact h k hk
end
section
/-! ===== the fields' ints, alike ===== -/
def nkC (h : sHp) (I : Nat → Int32) (G : Nat → Int64) (Ik : Nat → Int32) (Gk : Nat → Int64) (ik tf : Int32) : Prop := h[5]? = some (fO 5 I G) ∧ h[16]? = some (fO 16 Ik Gk) ∧ h[0]? = some (cO ik tf) ∧ fxR h 5 ∧ fxR h 16 ∧ fxR h 27
def nkM (h : sHp) (J g : Nat → Int32) : Prop := (∃ J', h[60]? = some (mO J') ∧ (∀ j, j < 7 → J' j = J j) ∧ J' 37 = J 37) ∧ h[75]? = some (.inl (0, 180, .inl g))
def RNi (I : Nat → Int32) (G : Nat → Int64) (J : Nat → Int32) : Prop := RN (I, G, (fun _ => 0), (fun _ => 0), (fun _ _ => 0), (fun _ => 0), (fun _ => 0)) (J, (fun _ => 0), (fun _ => 0), (fun _ => 0), (fun _ => 0), (fun _ => 0))
def bNK (h : sHp) : Prop := ∃ (I : Nat → Int32) (G : Nat → Int64) (Ik : Nat → Int32) (Gk : Nat → Int64) (ik tf : Int32) (J g : Nat → Int32), nkC h I G Ik Gk ik tf ∧ nkM h J g ∧ J 37 = ik ∧ RNi I G J ∧ (¬ ik = 0 → RNi Ik Gk (fun j => g (168 + j)))
def NKc : List Nat := (List.range 11).map (fun j => 0 * 64 + j) ++ ((List.range 17).map (fun j => 5 * 64 + j) ++ ((List.range 17).map (fun j => 16 * 64 + j) ++ [8 * 64, 19 * 64, 30 * 64]))
def NKm : List Nat := [3840, 3841, 3842, 3843, 3844, 3845, 3846, 3877, 4800]
theorem fxR_fr {W gg p : Nat} {h h' : sHp} (a : bFr W gg h h') (hp : p = 5 ∨ p = 16 ∨ p = 27) (hW : W.testBit ((p + 3) * 64) = false) (q : fxR h p) : fxR h' p := by
  obtain ⟨f, q1, q2⟩ := q
  rcases hp with rfl | rfl | rfl
  · exact ⟨f, bFr_arr a q1 (by decide) rfl hW, q2⟩
  · exact ⟨f, bFr_arr a q1 (by decide) rfl hW, q2⟩
  · exact ⟨f, bFr_arr a q1 (by decide) rfl hW, q2⟩
theorem nkC_fr {W gg : Nat} {h h' : sHp} {I : Nat → Int32} {G : Nat → Int64} {Ik : Nat → Int32} {Gk : Nat → Int64} {ik tf : Int32} (a : bFr W gg h h') (hW : ∀ b ∈ NKc, W.testBit b = false) (q : nkC h I G Ik Gk ik tf) : nkC h' I G Ik Gk ik tf := by
  obtain ⟨q1, q2, q3, q4, q5, q6⟩ := q
  refine ⟨bFr_obj (K := 5) (n := 17) a q1 rfl rfl (fun j hj => hW _ ?_), bFr_obj (K := 16) (n := 17) a q2 rfl rfl (fun j hj => hW _ ?_), bFr_obj (K := 0) (n := 11) a q3 rfl rfl (fun j hj => hW _ ?_), fxR_fr a (by decide) (hW _ (by decide)) q4, fxR_fr a (by decide) (hW _ (by decide)) q5, fxR_fr a (by decide) (hW _ (by decide)) q6⟩
  · exact List.mem_append_right _ (List.mem_append_left _ (List.mem_map.mpr ⟨j, List.mem_range.mpr hj, rfl⟩))
  · exact List.mem_append_right _ (List.mem_append_right _ (List.mem_append_left _ (List.mem_map.mpr ⟨j, List.mem_range.mpr hj, rfl⟩)))
  · exact List.mem_append_left _ (List.mem_map.mpr ⟨j, List.mem_range.mpr hj, rfl⟩)
theorem nkM_fr {W gg : Nat} {h h' : sHp} {J g : Nat → Int32} (hH' : bH h') (a : bFr W gg h h') (hW : ∀ b ∈ NKm, W.testBit b = false) (q : nkM h J g) : nkM h' J g := by
  obtain ⟨⟨J', q1, q2, q3⟩, q4⟩ := q
  obtain ⟨⟨J'', R⟩, M⟩ := MC_of hH'
  refine ⟨⟨J'', M.1, ?_⟩, bFr_arr a q4 (by decide) rfl (hW _ (by decide))⟩
  obtain ⟨c', h1, h2⟩ := a.2.2 60 _ q1
  have h3 := M.1
  rw [h1] at h3
  cases h3
  obtain ⟨-, -, e3, -⟩ := h2
  have k : ∀ j, (3840 + j) ∈ NKm → [Value.int (J'' 0), .int (J'' 1), .int (J'' 2), .int (J'' 3), .int (J'' 4), .int (J'' 5), .int (J'' 6), .int (J'' 7), .ref 61, .ref 62, .ref 63, .ref 64, .ref 65, .ref 66, .ref 67, .ref 68, .ref 69, .ref 70, .ref 71, .ref 72, .ref 73, .int (J'' 21), .int (J'' 22), .int (J'' 23), .int (J'' 24), .int (J'' 25), .ref 74, .ref 75, .int (J'' 28), .ref 76, .ref 77, .int (J'' 31), .int (J'' 32), .int (J'' 33), .int (J'' 34), .ref 78, .int (J'' 36), .int (J'' 37)][j]? = [Value.int (J' 0), .int (J' 1), .int (J' 2), .int (J' 3), .int (J' 4), .int (J' 5), .int (J' 6), .int (J' 7), .ref 61, .ref 62, .ref 63, .ref 64, .ref 65, .ref 66, .ref 67, .ref 68, .ref 69, .ref 70, .ref 71, .ref 72, .ref 73, .int (J' 21), .int (J' 22), .int (J' 23), .int (J' 24), .int (J' 25), .ref 74, .ref 75, .int (J' 28), .ref 76, .ref 77, .int (J' 31), .int (J' 32), .int (J' 33), .int (J' 34), .ref 78, .int (J' 36), .int (J' 37)][j]? := fun j hj => e3 j (hW _ hj)
  have inj : ∀ {x y : Int32}, (some (Value.int x) : Option Value) = some (Value.int y) → x = y := fun h => by cases h; rfl
  have ej : ∀ j, j < 7 → J'' j = J' j := fun j hj => by
    match j, hj with
    | 0, _ => exact inj (k 0 (by decide))
    | 1, _ => exact inj (k 1 (by decide))
    | 2, _ => exact inj (k 2 (by decide))
    | 3, _ => exact inj (k 3 (by decide))
    | 4, _ => exact inj (k 4 (by decide))
    | 5, _ => exact inj (k 5 (by decide))
    | 6, _ => exact inj (k 6 (by decide))
    | j + 7, hj => exact absurd hj (by omega)
  exact ⟨fun j hj => (ej j hj).trans (q2 j hj), (inj (k 37 (by decide))).trans q3⟩
theorem bNK_fr {W gg : Nat} {h h' : sHp} (hH' : bH h') (a : bFr W gg h h') (hc : ∀ b ∈ NKc, W.testBit b = false) (hm : ∀ b ∈ NKm, W.testBit b = false) (q : bNK h) : bNK h' := by
  obtain ⟨I, G, Ik, Gk, ik, tf, J, g, q1, q2, q3⟩ := q
  exact ⟨I, G, Ik, Gk, ik, tf, J, g, nkC_fr a hc q1, nkM_fr hH' a hm q2, q3⟩
/-- pairs that keep a relation -/
def pairR (R : sHp → Prop) (k1 k2 : Nat) (as : List Value) : Prop := ∀ h, bH h → R h → sDo 10 k1 (.ref 0 :: as) h (fun r1 h1 => bH h1 ∧ h1.length ≤ h.length + 1 ∧ sDo 10 k2 (.ref 60 :: as) h1 (fun r2 h2 => bH h2 ∧ h2.length ≤ h1.length + 1 ∧ R h2 ∧ ∃ x, r1 = some x ∧ r2 = some x))
theorem en_use {c : bCn} {vs : List Value} (hc : bHolds c) (hd : Nat.ble c.2.1 10 = true) (hg : Nat.ble c.2.2.2.2.2.1 1 = true) (ho : c.2.2.2.1 = []) {h : sHp} (hH : bH h) (ht : bTl h c.2.2.1 vs) : sDo 10 c.1 vs h (fun _ h' => bH h' ∧ h'.length ≤ h.length + 1 ∧ bFr c.2.2.2.2.1 c.2.2.2.2.2.1 h h') := by
  refine sDo_up (Nat.le_of_ble_eq_true hd) (sDo_mono (hc h vs hH ht (by rw [ho]; exact fun e he => by cases he)) (fun r h' hen => ⟨hen.1, ?_, hen.2.1⟩))
  have := hen.2.1.2.1
  have := Nat.le_of_ble_eq_true hg
  omega
theorem pr_mk {R : sHp → Prop} {c1 c2 : bCn} {as : List Value} (h1 : bHolds c1) (h2 : bHolds c2) (d1 : Nat.ble c1.2.1 10 = true) (d2 : Nat.ble c2.2.1 10 = true) (g1 : Nat.ble c1.2.2.2.2.2.1 1 = true) (g2 : Nat.ble c2.2.2.2.2.2.1 1 = true) (o1 : c1.2.2.2.1 = []) (o2 : c2.2.2.2.1 = []) (t1 : ∀ h, bH h → bTl h c1.2.2.1 (.ref 0 :: as)) (t2 : ∀ h, bH h → bTl h c2.2.2.1 (.ref 60 :: as)) (e : ∀ h, bH h → R h → sDo 10 c1.1 (.ref 0 :: as) h (fun r1 h1 => bH h1 → bFr c1.2.2.2.2.1 c1.2.2.2.2.2.1 h h1 → sDo 10 c2.1 (.ref 60 :: as) h1 (fun r2 h2 => bH h2 → bFr c2.2.2.2.2.1 c2.2.2.2.2.2.1 h1 h2 → R h2 ∧ ∃ x, r1 = some x ∧ r2 = some x))) : pairR R c1.1 c2.1 as := by
  intro h hH hR
  refine sDo_mono (sDo_and (e h hH hR) (en_use h1 d1 g1 o1 hH (t1 h hH))) (fun r1 h1' q => ⟨q.2.1, q.2.2.1, ?_⟩)
  exact sDo_mono (sDo_and (q.1 q.2.1 q.2.2.2) (en_use h2 d2 g2 o2 q.2.1 (t2 h1' q.2.1))) (fun r2 h2' z => ⟨z.2.1, z.2.2.1, z.1 z.2.1 z.2.2.2⟩)
theorem fr_useX {c : bCn} {vs : List Value} (hc : bHolds c) (hd : Nat.ble c.2.1 10 = true) (ho : c.2.2.2.1 = []) {h : sHp} (hH : bH h) (ht : bTl h c.2.2.1 vs) : sDo 10 c.1 vs h (fun _ h' => bFr c.2.2.2.2.1 c.2.2.2.2.2.1 h h') :=
  sDo_up (Nat.le_of_ble_eq_true hd) (sDo_mono (hc h vs hH ht (by rw [ho]; exact fun e he => by cases he)) (fun r h' hen => hen.2.1))
/-- one relation more, that both calls leave alone -/
theorem pr_and {R P : sHp → Prop} {c1 c2 : bCn} {as : List Value} (hp : pairR R c1.1 c2.1 as) (f1 : ∀ {g : Nat} {h h' : sHp}, bH h' → bFr c1.2.2.2.2.1 g h h' → P h → P h') (f2 : ∀ {g : Nat} {h h' : sHp}, bH h' → bFr c2.2.2.2.2.1 g h h' → P h → P h') (h1 : bHolds c1) (h2 : bHolds c2) (d1 : Nat.ble c1.2.1 10 = true) (d2 : Nat.ble c2.2.1 10 = true) (o1 : c1.2.2.2.1 = []) (o2 : c2.2.2.2.1 = []) (t1 : ∀ h, bH h → bTl h c1.2.2.1 (.ref 0 :: as)) (t2 : ∀ h, bH h → bTl h c2.2.2.1 (.ref 60 :: as)) : pairR (fun h => R h ∧ P h) c1.1 c2.1 as := by
  intro h hH hR
  refine sDo_mono (sDo_and (hp h hH hR.1) (fr_useX h1 d1 o1 hH (t1 h hH))) (fun r1 h1' q => ⟨q.1.1, q.1.2.1, ?_⟩)
  exact sDo_mono (sDo_and q.1.2.2 (fr_useX h2 d2 o2 q.1.1 (t2 h1' q.1.1))) (fun r2 h2' z => ⟨z.1.1, z.1.2.1, ⟨z.1.2.2.1, f2 z.1.1 z.2 (f1 q.1.1 q.2 hR.2)⟩, z.1.2.2.2⟩)
theorem nkC_43 {h : sHp} {I : Nat → Int32} {G : Nat → Int64} {Ik : Nat → Int32} {Gk : Nat → Int64} {ik tf : Int32} {c : va_E} (q : nkC h I G Ik Gk ik tf) : nkC (h.set 43 c) I G Ik Gk ik tf := by
  obtain ⟨q1, q2, q3, ⟨f5, a5, b5⟩, ⟨f6, a6, b6⟩, ⟨f7, a7, b7⟩⟩ := q
  exact ⟨by rw [s_set_ne (by decide)]; exact q1, by rw [s_set_ne (by decide)]; exact q2, by rw [s_set_ne (by decide)]; exact q3, ⟨f5, by rw [s_set_ne (by decide)]; exact a5, b5⟩, ⟨f6, by rw [s_set_ne (by decide)]; exact a6, b6⟩, ⟨f7, by rw [s_set_ne (by decide)]; exact a7, b7⟩⟩
/-- the class's part once now has become another -/
theorem nkC_5 {h h' : sHp} {I : Nat → Int32} {G : Nat → Int64} {Ik : Nat → Int32} {Gk : Nat → Int64} {ik tf : Int32} {c : CF} (q : nkC h I G Ik Gk ik tf) (F : FC h' 5 c) (E : fE 5 h h') : nkC h' c.1 c.2.1 Ik Gk ik tf := by
  obtain ⟨q1, q2, q3, q4, ⟨f6, a6, b6⟩, ⟨f7, a7, b7⟩⟩ := q
  exact ⟨F.1, (E.2 _ (by decide)).trans q2, (E.2 _ (by decide)).trans q3, F.2.2.2.1, ⟨f6, (E.2 _ (by decide)).trans a6, b6⟩, ⟨f7, (E.2 _ (by decide)).trans a7, b7⟩⟩
theorem nk_61 {h : sHp} {J g J0 : Nat → Int32} {c : va_E} (h60 : h[60]? = some (mO J)) (h75 : h[75]? = some (.inl (0, 180, .inl g))) (e : ∀ j, j < 7 → J j = J0 j) (e37 : J 37 = J0 37) : nkM (h.set 61 c) J0 g := ⟨⟨J, by rw [s_set_ne (by decide)]; exact h60, e, e37⟩, by rw [s_set_ne (by decide)]; exact h75⟩
theorem M75 {W gg : Nat} {h h' : sHp} {g : Nat → Int32} (a : bFr W gg h h') (q : h[75]? = some (.inl (0, 180, .inl g))) (hW : W.testBit 4800 = false) : h'[75]? = some (.inl (0, 180, .inl g)) := bFr_arr a q (by decide) rfl hW
theorem pn_size (x : Int32) (y : Int32) : pairR bNK 124 204 [.int x, .int y] := pr_mk (c1 := cn_X11_size_0) (c2 := cn_X12_size_0) ch_X11_size_0 ch_X12_size_0 (by decide +kernel) (by decide +kernel) (by decide +kernel) (by decide +kernel) rfl rfl (fun h hH => ⟨bt0 hH, vI0 x, vI0 y, trivial⟩) (fun h hH => ⟨bt60 hH, vI0 x, vI0 y, trivial⟩) (fun h hH hR => by
  obtain ⟨I, G, Ik, Gk, ik, tf, J, g, ⟨q5, q16, q0, x5, x16, x27⟩, qm, ej, rn, rk⟩ := hR
  obtain ⟨⟨so, sh, wo, fo, ow⟩, F, fb⟩ := FC_ext5 hH q5 x5
  obtain ⟨Rc, hRc⟩ := RA_of hH (p := 43) (Or.inl rfl)
  obtain ⟨s, sI, sJ, gF, gM⟩ := RN_sg rn
  refine sDo_mono (s_size11 (d := 10) (by omega) q0 hRc F) (fun r1 h1 q hH1 fr1 => ?_)
  obtain ⟨⟨J', M60, eJ, e37⟩, g75⟩ := nkM_fr hH1 fr1 (by decide +kernel) qm
  obtain ⟨⟨so', ow', sh', fo', va'⟩, M⟩ := MC_ext hH1 M60
  obtain ⟨Rm, hRm⟩ := RA_of hH1 (p := 61) (Or.inr rfl)
  have qC : nkC h I G Ik Gk ik tf := ⟨q5, q16, q0, x5, x16, x27⟩
  have sJ' : sgJ J' s := by obtain ⟨a, b, c, d⟩ := sJ; exact ⟨(eJ 0 (by decide)).trans a, (eJ 1 (by decide)).trans b, (eJ 6 (by decide)).trans c, d⟩
  have rnJ : RN (I, G, so, sh, wo, fo, ow) (J', so', ow', sh', fo', va') := RN_J (m := (J, so', ow', sh', fo', va')) rn eJ
  refine sDo_mono (s_size12 (x := x) (y := y) hH1 M) (fun r2 h2 p hH2 fr2 => ?_)
  have okE : okSz x y ↔ (2 ≤ x.toInt ∧ x.toInt ≤ 8 ∧ 2 ≤ y.toInt ∧ y.toInt ≤ 8) := Iff.rfl
  rcases q with ⟨k, rfl, F1, E1⟩ | ⟨k, rfl, rfl⟩
  · rcases p with ⟨-, rfl, M2⟩ | ⟨k2, -⟩
    · have nc := nkC_fr fr2 (by decide +kernel) (nkC_5 qC F1 E1)
      rw [okE] at k
      obtain ⟨X, hX⟩ : ∃ X : Nat, x.toInt = X := ⟨x.toInt.toNat, by omega⟩
      obtain ⟨Y, hY⟩ : ∃ Y : Nat, y.toInt = Y := ⟨y.toInt.toNat, by omega⟩
      have ex : x = Int32.ofNat X := Int32.toInt_inj.mp (by rw [hX, ofN_toInt (by omega)])
      have ey : y = Int32.ofNat Y := Int32.toInt_inj.mp (by rw [hY, ofN_toInt (by omega)])
      rw [ex, ey] at nc M2
      have h75 := (M75 fr2 g75 (by decide +kernel))
      have rn2 := RN_ok.2.1 _ _ s (0, X, Y, 0) rnJ sI sJ' ⟨by omega, by omega, by omega, by omega⟩
      exact ⟨⟨_, _, Ik, Gk, ik, tf, _, g, nc, ⟨⟨_, M2.1, fun _ _ => rfl, rfl⟩, h75⟩, e37.trans ej, rn2, rk⟩, _, rfl, rfl⟩
    · exact absurd k k2
  · rcases p with ⟨k2, -⟩ | ⟨-, rfl, M2⟩
    · exact absurd k2 k
    · have nc := nkC_fr fr2 (by decide +kernel) (nkC_43 (c := rFc (bump Rc 6)) qC)
      have h75 := (M75 fr2 g75 (by decide +kernel))
      exact ⟨⟨I, G, Ik, Gk, ik, tf, J, g, nc, ⟨⟨J', M2.1, eJ, e37⟩, h75⟩, ej, rn, rk⟩, _, rfl, rfl⟩)
theorem pn_place (x : Int32) (v : Int32) : pairR bNK 126 206 [.int x, .int v] := pr_mk (c1 := cn_X11_place_0) (c2 := cn_X12_place_0) ch_X11_place_0 ch_X12_place_0 (by decide +kernel) (by decide +kernel) (by decide +kernel) (by decide +kernel) rfl rfl (fun h hH => ⟨bt0 hH, vI0 x, vI0 v, trivial⟩) (fun h hH => ⟨bt60 hH, vI0 x, vI0 v, trivial⟩) (fun h hH hR => by
  obtain ⟨I, G, Ik, Gk, ik, tf, J, g, ⟨q5, q16, q0, x5, x16, x27⟩, qm, ej, rn, rk⟩ := hR
  obtain ⟨⟨so, sh, wo, fo, ow⟩, F, fb⟩ := FC_ext5 hH q5 x5
  obtain ⟨Rc, hRc⟩ := RA_of hH (p := 43) (Or.inl rfl)
  obtain ⟨s, sI, sJ, gF, gM⟩ := RN_sg rn
  have qC : nkC h I G Ik Gk ik tf := ⟨q5, q16, q0, x5, x16, x27⟩
  refine sDo_mono (s_place11 (d := 10) (x := x) (v := v) (by omega) q0 hRc F gF) (fun r1 h1 q hH1 fr1 => ?_)
  obtain ⟨⟨J', M60, eJ, e37⟩, g75⟩ := nkM_fr hH1 fr1 (by decide +kernel) qm
  obtain ⟨⟨so', ow', sh', fo', va'⟩, M⟩ := MC_ext hH1 M60
  obtain ⟨Rm, hRm⟩ := RA_of hH1 (p := 61) (Or.inr rfl)
  have sJ' : sgJ J' s := by obtain ⟨a, b, c, d⟩ := sJ; exact ⟨(eJ 0 (by decide)).trans a, (eJ 1 (by decide)).trans b, (eJ 6 (by decide)).trans c, d⟩
  have rnJ : RN (I, G, so, sh, wo, fo, ow) (J', so', ow', sh', fo', va') := RN_J (m := (J, so', ow', sh', fo', va')) rn eJ
  have gM' : gdM J' s.1 s.2.1 := ⟨sJ'.1, sJ'.2.1, sJ'.2.2.2.1, sJ'.2.2.2.2.1, sJ'.2.2.2.2.2.1, sJ'.2.2.2.2.2.2.1⟩
  refine sDo_mono (s_place12 (d := 10) (x := x) (v := v) (by omega) M hRm gM') (fun r2 h2 p hH2 fr2 => ?_)
  rcases q with ⟨K, hK, hx, k, rfl, rfl⟩ | ⟨k, rfl, rfl⟩
  · rcases p with ⟨K2, hK2, hx2, -, rfl, rfl⟩ | ⟨k2, -⟩
    · have eK : K2 = K := by omega
      subst eK
      have F1 := FC_0 (I := upd I (7 + K2) v) (G := G) F
      have nc := nkC_fr fr2 (by decide +kernel) (nkC_5 qC F1 (fE_set fE_rfl (by omega) (by omega)))
      have h75 := M75 fr2 g75 (by decide +kernel)
      rw [hx2] at k
      have rn2 := RN_ok.2.2.2.2.2 _ _ s K2 v rnJ sI hK k
      obtain ⟨W', H', N', -, -, -, -, -, -, mk⟩ := rnJ
      have ev : I (7 + K2) = J' (2 + K2) := mk K2 hK
      refine ⟨⟨_, _, Ik, Gk, ik, tf, upd J' (2 + K2) v, g, nc, ⟨⟨_, s_set_eq M60, fun _ _ => rfl, rfl⟩, h75⟩, (u_ne (by omega)).trans (e37.trans ej), rn2, rk⟩, _, rfl, ?_⟩
      exact congrArg (fun z => some (Value.int z)) ev.symm
    · exact absurd k k2
  · rcases p with ⟨-, -, -, k2, -⟩ | ⟨-, rfl, rfl⟩
    · exact absurd k2 k
    · have nc := nkC_fr fr2 (by decide +kernel) (nkC_43 (c := rFc (bump Rc 6)) qC)
      have h75 := M75 fr2 g75 (by decide +kernel)
      exact ⟨⟨I, G, Ik, Gk, ik, tf, J, g, nc, ⟨⟨J', by rw [s_set_ne (by decide)]; exact M60, eJ, e37⟩, h75⟩, ej, rn, rk⟩, _, rfl, rfl⟩)
theorem pn_heir (x : Int32) : pairR bNK 127 207 [.int x] := pr_mk (c1 := cn_X11_heir_0) (c2 := cn_X12_heir_0) ch_X11_heir_0 ch_X12_heir_0 (by decide +kernel) (by decide +kernel) (by decide +kernel) (by decide +kernel) rfl rfl (fun h hH => ⟨bt0 hH, vI0 x, trivial⟩) (fun h hH => ⟨bt60 hH, vI0 x, trivial⟩) (fun h hH hR => by
  obtain ⟨I, G, Ik, Gk, ik, tf, J, g, ⟨q5, q16, q0, x5, x16, x27⟩, qm, ej, rn, rk⟩ := hR
  obtain ⟨⟨so, sh, wo, fo, ow⟩, F, fb⟩ := FC_ext5 hH q5 x5
  obtain ⟨Rc, hRc⟩ := RA_of hH (p := 43) (Or.inl rfl)
  obtain ⟨s, sI, sJ, gF, gM⟩ := RN_sg rn
  have qC : nkC h I G Ik Gk ik tf := ⟨q5, q16, q0, x5, x16, x27⟩
  refine sDo_mono (s_heir11 (d := 10) (x := x) (N := s.2.2) (by omega) q0 hRc F sI.2.2.1 sI.2.2.2.2.2.2.2) (fun r1 h1 q hH1 fr1 => ?_)
  obtain ⟨⟨J', M60, eJ, e37⟩, g75⟩ := nkM_fr hH1 fr1 (by decide +kernel) qm
  obtain ⟨⟨so', ow', sh', fo', va'⟩, M⟩ := MC_ext hH1 M60
  obtain ⟨Rm, hRm⟩ := RA_of hH1 (p := 61) (Or.inr rfl)
  have sJ' : sgJ J' s := by obtain ⟨a, b, c, d⟩ := sJ; exact ⟨(eJ 0 (by decide)).trans a, (eJ 1 (by decide)).trans b, (eJ 6 (by decide)).trans c, d⟩
  have rnJ : RN (I, G, so, sh, wo, fo, ow) (J', so', ow', sh', fo', va') := RN_J (m := (J, so', ow', sh', fo', va')) rn eJ
  have gM' : gdM J' s.1 s.2.1 := ⟨sJ'.1, sJ'.2.1, sJ'.2.2.2.1, sJ'.2.2.2.2.1, sJ'.2.2.2.2.2.1, sJ'.2.2.2.2.2.2.1⟩
  refine sDo_mono (s_heir12 (d := 10) (x := x) (N := s.2.2) (by omega) M hRm sJ'.2.2.1 sJ'.2.2.2.2.2.2.2) (fun r2 h2 p hH2 fr2 => ?_)
  rcases q with ⟨k, k1, rfl, F1, E1⟩ | ⟨k, k1, rfl, rfl⟩ | ⟨k, rfl, rfl⟩
  · rcases p with ⟨-, -, rfl, M2, -⟩ | ⟨-, k2, -⟩ | ⟨k2, -⟩
    · have nc := nkC_fr fr2 (by decide +kernel) (nkC_5 qC F1 E1)
      have h75 := M75 fr2 g75 (by decide +kernel)
      obtain ⟨X, hX⟩ : ∃ X : Nat, x.toInt = X := ⟨x.toInt.toNat, by omega⟩
      have ex : x = Int32.ofNat X := Int32.toInt_inj.mp (by rw [hX, ofN_toInt (by omega)])
      have eN := ofN_toInt (n := s.2.2) (by omega)
      have rn2 := RN_ok.2.1 _ _ s (3, X, 0, 0) rnJ sI sJ' ⟨by omega, by omega, k1⟩
      have e1 : (I 11).toNatClampNeg = s.2.2 := by rw [show I 11 = Int32.ofNat s.2.2 from sI.2.2.1]; exact i_nat eN
      have e2 : (J' 6).toNatClampNeg = s.2.2 := by rw [show J' 6 = Int32.ofNat s.2.2 from sJ'.2.2.1]; exact i_nat eN
      have rn3 : RN (cfHeir s.2.2 x (I, G, so, sh, wo, fo, ow)) (mfHeir s.2.2 x (J', so', ow', sh', fo', va')) := by
        have rn2' : RN (cfHeir (I 11).toNatClampNeg (Int32.ofNat X) (I, G, so, sh, wo, fo, ow)) (mfHeir (J' 6).toNatClampNeg (Int32.ofNat X) (J', so', ow', sh', fo', va')) := rn2
        rw [e1, e2, ← ex] at rn2'
        exact rn2'
      exact ⟨⟨_, _, Ik, Gk, ik, tf, _, g, nc, ⟨⟨_, M2.1, fun _ _ => rfl, rfl⟩, h75⟩, e37.trans ej, rn3, rk⟩, _, rfl, rfl⟩
    · omega
    · exact absurd k k2
  · rcases p with ⟨-, k2, -⟩ | ⟨-, -, rfl, rfl⟩ | ⟨k2, -⟩
    · omega
    · have nc := nkC_fr fr2 (by decide +kernel) (nkC_43 (c := rFc (bump Rc 7)) qC)
      have h75 := M75 fr2 g75 (by decide +kernel)
      exact ⟨⟨I, G, Ik, Gk, ik, tf, J, g, nc, ⟨⟨J', by rw [s_set_ne (by decide)]; exact M60, eJ, e37⟩, h75⟩, ej, rn, rk⟩, _, rfl, rfl⟩
    · exact absurd k k2
  · rcases p with ⟨k2, -⟩ | ⟨k2, -⟩ | ⟨-, rfl, rfl⟩
    · exact absurd k2 k
    · exact absurd k2 k
    · have nc := nkC_fr fr2 (by decide +kernel) (nkC_43 (c := rFc (bump Rc 6)) qC)
      have h75 := M75 fr2 g75 (by decide +kernel)
      exact ⟨⟨I, G, Ik, Gk, ik, tf, J, g, nc, ⟨⟨J', by rw [s_set_ne (by decide)]; exact M60, eJ, e37⟩, h75⟩, ej, rn, rk⟩, _, rfl, rfl⟩)
theorem sv_at (m : MF) (g : Nat → Int32) : ∀ j, j < 7 → svF m g (168 + j) = m.1 j := fun j hj => by
  match j, hj with
  | 0, _ => rfl
  | 1, _ => rfl
  | 2, _ => rfl
  | 3, _ => rfl
  | 4, _ => rfl
  | 5, _ => rfl
  | 6, _ => rfl
  | j + 7, hj => exact absurd hj (by omega)
theorem pn_image : pairR bNK 154 254 [] := pr_mk (c1 := cn_X11_image_0) (c2 := cn_X12_image_0) ch_X11_image_0 ch_X12_image_0 (by decide +kernel) (by decide +kernel) (by decide +kernel) (by decide +kernel) rfl rfl (fun h hH => ⟨bt0 hH, trivial⟩) (fun h hH => ⟨bt60 hH, trivial⟩) (fun h hH hR => by
  obtain ⟨I, G, Ik, Gk, ik, tf, J, g, ⟨q5, q16, q0, x5, x16, x27⟩, qm, ej, rn, rk⟩ := hR
  obtain ⟨⟨so, sh, wo, fo, ow⟩, F, fb⟩ := FC_ext5 hH q5 x5
  obtain ⟨Rc, hRc⟩ := RA_of hH (p := 43) (Or.inl rfl)
  obtain ⟨s, sI, sJ, gF, gM⟩ := RN_sg rn
  have qC : nkC h I G Ik Gk ik tf := ⟨q5, q16, q0, x5, x16, x27⟩
  obtain ⟨⟨so2, sh2, wo2, fo2, ow2⟩, Fk, -⟩ := FC_ext16 hH q16 x16
  refine sDo_mono (s_image11 (d := 10) (by omega) q0 F Fk fb) (fun r1 h1 q hH1 fr1 => ?_)
  obtain ⟨rfl, F1, Fk1, z0, -, zq⟩ := q
  have M60 : ∃ J', h1[60]? = some (mO J') ∧ (∀ j, j < 7 → J' j = J j) ∧ J' 37 = J 37 := by
    obtain ⟨⟨J', a, b⟩, -⟩ := qm
    exact ⟨J', (zq 60 (by decide)).trans a, b⟩
  obtain ⟨J', M60, eJ, e37⟩ := M60
  have g75 := (zq 75 (by decide)).trans qm.2
  obtain ⟨⟨so', ow', sh', fo', va'⟩, M⟩ := MC_ext hH1 M60
  have rnJ : RN (I, G, so, sh, wo, fo, ow) (J', so', ow', sh', fo', va') := RN_J (m := (J, so', ow', sh', fo', va')) rn eJ
  refine sDo_mono (s_image12 M g75) (fun r2 h2 p hH2 fr2 => ?_)
  obtain ⟨rfl, M2, g2⟩ := p
  obtain ⟨f7, a7, b7⟩ := x27
  have nc : nkC h1 I G (cfBecome (I, G, so, sh, wo, fo, ow) (Ik, Gk, so2, sh2, wo2, fo2, ow2)).1 (cfBecome (I, G, so, sh, wo, fo, ow) (Ik, Gk, so2, sh2, wo2, fo2, ow2)).2.1 1 tf := ⟨F1.1, Fk1.1, z0, F1.2.2.2.1, Fk1.2.2.2.1, ⟨f7, (zq 30 (by decide)).trans a7, b7⟩⟩
  have nc2 := nkC_fr fr2 (by decide +kernel) nc
  have rk2 : RN (cfBecome (I, G, so, sh, wo, fo, ow) (Ik, Gk, so2, sh2, wo2, fo2, ow2)) (J', so', ow', sh', fo', va') := RN_ok.2.2.1 _ _ _ rnJ
  obtain ⟨W', H', N', -, -, c11, -, -, m6, -⟩ := id rnJ
  refine ⟨⟨I, G, _, _, 1, tf, upd J' 37 (Int32.ofInt 1), svF (J', so', ow', sh', fo', va') g, nc2, ⟨⟨_, M2.1, fun _ _ => rfl, rfl⟩, g2⟩, rfl, RN_J (m := (J', so', ow', sh', fo', va')) rnJ (fun j hj => u_ne (by omega)), fun _ => RN_J rk2 (fun j hj => sv_at _ _ j hj)⟩, _, rfl, ?_⟩
  exact congrArg (fun z => some (Value.int z)) (m6.trans c11.symm))
theorem pn_restore : pairR bNK 155 255 [] := pr_mk (c1 := cn_X11_restore_0) (c2 := cn_X12_restore_0) ch_X11_restore_0 ch_X12_restore_0 (by decide +kernel) (by decide +kernel) (by decide +kernel) (by decide +kernel) rfl rfl (fun h hH => ⟨bt0 hH, trivial⟩) (fun h hH => ⟨bt60 hH, trivial⟩) (fun h hH hR => by
  obtain ⟨I, G, Ik, Gk, ik, tf, J, g, ⟨q5, q16, q0, x5, x16, x27⟩, qm, ej, rn, rk⟩ := hR
  obtain ⟨⟨so, sh, wo, fo, ow⟩, F, fb⟩ := FC_ext5 hH q5 x5
  obtain ⟨Rc, hRc⟩ := RA_of hH (p := 43) (Or.inl rfl)
  obtain ⟨s, sI, sJ, gF, gM⟩ := RN_sg rn
  have qC : nkC h I G Ik Gk ik tf := ⟨q5, q16, q0, x5, x16, x27⟩
  obtain ⟨⟨so2, sh2, wo2, fo2, ow2⟩, Fk, fbk⟩ := FC_ext16 hH q16 x16
  refine sDo_mono (s_restore11 (d := 10) (by omega) q0 hRc F Fk fbk) (fun r1 h1 q hH1 fr1 => ?_)
  obtain ⟨⟨J', M60, eJ, e37⟩, g75⟩ := nkM_fr hH1 fr1 (by decide +kernel) qm
  obtain ⟨⟨so', ow', sh', fo', va'⟩, M⟩ := MC_ext hH1 M60
  obtain ⟨Rm, hRm⟩ := RA_of hH1 (p := 61) (Or.inr rfl)
  have sJ' : sgJ J' s := by obtain ⟨a, b, c, d⟩ := sJ; exact ⟨(eJ 0 (by decide)).trans a, (eJ 1 (by decide)).trans b, (eJ 6 (by decide)).trans c, d⟩
  have rnJ : RN (I, G, so, sh, wo, fo, ow) (J', so', ow', sh', fo', va') := RN_J (m := (J, so', ow', sh', fo', va')) rn eJ
  have gM' : gdM J' s.1 s.2.1 := ⟨sJ'.1, sJ'.2.1, sJ'.2.2.2.1, sJ'.2.2.2.2.1, sJ'.2.2.2.2.2.1, sJ'.2.2.2.2.2.2.1⟩
  have ei : J' 37 = ik := e37.trans ej
  refine sDo_mono (s_restore12 hH1 M g75) (fun r2 h2 p hH2 fr2 => ?_)
  rcases q with ⟨k, rfl, F1, E1⟩ | ⟨k, rfl, rfl⟩
  · rcases p with ⟨k2, -⟩ | ⟨-, rfl, M2, g2⟩
    · exact absurd (ei.symm.trans k2) k
    · have nc := nkC_fr fr2 (by decide +kernel) (nkC_5 qC F1 E1)
      have rk1 := rk k
      have rn2 : RN (cfBecome (Ik, Gk, so2, sh2, wo2, fo2, ow2) (I, G, so, sh, wo, fo, ow)) (mfBack (J', so', ow', sh', fo', va') g) := RN_J (RN_ok.2.2.1 (Ik, Gk, so2, sh2, wo2, fo2, ow2) (I, G, so, sh, wo, fo, ow) ((fun j => g (168 + j)), so', ow', sh', fo', va') rk1) (fun j hj => bk_at _ _ j hj)
      obtain ⟨W', H', N', -, -, c11, -, -, m6, -⟩ := id rk1
      refine ⟨⟨_, _, Ik, Gk, ik, tf, _, g, nc, ⟨⟨_, M2.1, fun _ _ => rfl, rfl⟩, g2⟩, ei, rn2, rk⟩, _, rfl, ?_⟩
      exact congrArg (fun z => some (Value.int z)) (show g 174 = Ik 11 from m6.trans c11.symm)
  · rcases p with ⟨-, rfl, M2, g2⟩ | ⟨k2, -⟩
    · have nc := nkC_fr fr2 (by decide +kernel) (nkC_43 (c := rFc (bump Rc 6)) qC)
      exact ⟨⟨I, G, Ik, Gk, ik, tf, J, g, nc, ⟨⟨J', M2.1, eJ, e37⟩, g2⟩, ej, rn, rk⟩, _, rfl, rfl⟩
    · exact absurd (ei.trans k) k2)
end
section
/-! ===== the pair of field ===== -/
theorem s_field11n {d : Nat} {h : sHp} {ik tf x b : Int32} {R : Nat → Int32} {B : Nat} (hd : 3 ≤ d) (h0 : h[0]? = some (cO ik tf)) (hR : h[43]? = some (rFc R)) (hb : b.toInt = -(B : Int)) (hB : 1 ≤ B ∧ B ≤ 7) (hno : sDo (d - 1) 161 [.ref 0, .int x] h (fun r h' => h' = h ∧ r = some (.int b))) : sDo d 122 [.ref 0, .int x] h (fun r h' => r = some (.int b) ∧ h' = h.set 43 (rFc (bump R B))) := by
  have hb0 : ¬ b = 0 := fun z => by rw [z] at hb; have e : (0 : Int32).toInt = 0 := rfl; omega
  refine sDo_of1 (nL := 5) (L := [some (.ref 0), some (.int x), none, none, none]) (by omega) rfl rfl ?_
  refine g_aload_n (i := 0) rfl rfl ?_
  refine g_iload_n (i := 1) rfl rfl ?_
  refine g_virt1 (Qc := fun r h' => h' = h ∧ r = some (.int b)) rfl (by decide) rfl h0 rfl (Nat.le_of_ble_eq_true rfl) (hno) (fun r h hq9 => ?_)
  obtain ⟨rfl, rfl⟩ := hq9
  refine g_istore_n (i := 2) (L1 := [some (.ref 0), some (.int x), some (.int b), none, none]) rfl (Nat.le_of_ble_eq_true rfl) rfl ?_
  refine g_iload_n (i := 2) rfl rfl ?_
  refine g_if_eq 16 rfl rfl (fun hc => absurd hc (by exact hb0)) (fun _ => ?_)
  refine g_aload_n (i := 0) rfl rfl ?_
  refine g_iload_n (i := 2) rfl rfl ?_
  refine g_virt1 (Qc := fun r h' => r = some (.int b) ∧ h' = h.set 43 (rFc (bump R B))) rfl (by decide) rfl h0 rfl (Nat.le_of_ble_eq_true rfl) (s_refuse2 (by omega) h0 hR hb hB) (fun r h9 hq9 => ?_)
  obtain ⟨rfl, rfl⟩ := hq9
  refine g_ireturn (ty := .int) rfl rfl rfl ?_
  exact ⟨rfl, rfl⟩
theorem s_field12n {d : Nat} {h : sHp} {J R hd : Nat → Int32} {x : Int32} {b : Int32} {B : Nat} (hd1 : 3 ≤ d) (hr : h[60]? = some (mO J)) (hR : h[61]? = some (rFc R)) (a4 : h[67]? = some (.inl (0, 8, .inl hd))) (hb : b.toInt = -(B : Int)) (hB : 1 ≤ B ∧ B ≤ 7) (hx : ((0 ≤ x.toInt ∧ x.toInt < 8) ∧ wtS hd x.toInt.toNat 1 = b) ∨ (¬ (0 ≤ x.toInt ∧ x.toInt < 8) ∧ b = -1)) : sDo d 202 [.ref 60, .int x] h (fun r h' => r = some (.int b) ∧ h' = h.set 61 (rFc (bump R B))) := by
  have hb0 : ¬ b = 0 := fun z => by rw [z] at hb; have e : (0 : Int32).toInt = 0 := rfl; omega
  refine sDo_of1 (nL := 5) (L := [some (.ref 60), some (.int x), none, none, none]) (by omega) rfl rfl ?_
  refine g_aload_n (i := 0) rfl rfl ?_
  refine g_iload_n (i := 1) rfl rfl ?_
  refine g_iconst (n := 1) rfl ?_
  refine g_virt2 (Qc := fun r h' => h' = h ∧ r = some (.int b)) rfl (by decide) rfl hr rfl (Nat.le_of_ble_eq_true rfl) (sDo_mono (s_wantsE (w := Int32.ofInt 1) (by omega) hr a4 (Or.inl rfl)) (fun r h9 q => ⟨q.1, ?_⟩)) (fun r h hq9 => ?_)
  · rcases q.2 with ⟨z, q2⟩ | ⟨z, q2⟩
    · rcases hx with ⟨-, y⟩ | ⟨y, -⟩
      · rw [q2, ← y]; rfl
      · exact absurd z y
    · rcases hx with ⟨y, -⟩ | ⟨-, y⟩
      · exact absurd y z
      · rw [q2, y]
  obtain ⟨rfl, rfl⟩ := hq9
  refine g_istore_n (i := 2) (L1 := [some (.ref 60), some (.int x), some (.int b), none, none]) rfl (Nat.le_of_ble_eq_true rfl) rfl ?_
  refine g_iload_n (i := 2) rfl rfl ?_
  refine g_if_eq 17 rfl rfl (fun hc => absurd hc (by exact hb0)) (fun _ => ?_)
  refine g_aload_n (i := 0) rfl rfl ?_
  refine g_iload_n (i := 2) rfl rfl ?_
  refine g_virt1 (Qc := fun r h' => r = some (.int b) ∧ h' = h.set 61 (rFc (bump R B))) rfl (by decide) rfl hr rfl (Nat.le_of_ble_eq_true rfl) (s_no2 (by omega) hr hR hb hB) (fun r h9 hq9 => ?_)
  obtain ⟨rfl, rfl⟩ := hq9
  refine g_ireturn (ty := .int) rfl rfl rfl ?_
  exact ⟨rfl, rfl⟩
theorem iso37 {W gg : Nat} {h h' : sHp} {J J' : Nat → Int32} (a : bFr W gg h h') (q : h[60]? = some (mO J)) (p : h'[60]? = some (mO J')) (hW : W.testBit 3877 = false) : J' 37 = J 37 := by
  obtain ⟨c', h1, h2⟩ := a.2.2 60 _ q
  rw [p] at h1
  cases h1
  obtain ⟨-, -, e3, -⟩ := h2
  have k : (some (Value.int (J' 37)) : Option Value) = some (Value.int (J 37)) := e3 37 hW
  have inj : ∀ {x y : Int32}, (some (Value.int x) : Option Value) = some (Value.int y) → x = y := fun h => by cases h; rfl
  exact inj k
theorem fdE_at {h h' : sHp} {lo q : Nat} {x : va_E} (E : fdE h h' lo) (hx : h[q]? = some x) (e1 : q < lo ∨ 15 < q) (e2 : q < 27 ∨ 37 < q) (e3 : q ≠ 0) (e4 : q ≠ 43) : h'[q]? = some x := (E.2 q e1 e2 e3 e4 (List.getElem?_eq_some_iff.mp hx).1).trans hx
theorem bR5_43 {h : sHp} {c : va_E} (q : bR5 h) : bR5 (h.set 43 c) := bR5_set q (by decide) (by decide) (by decide) (by decide) (by decide)
theorem nr_b {hd : Nat → Int32} {S : Nat} (h1 : hd S = 0 ∨ hd S = 2) : ∃ B : Nat, (1 ≤ B ∧ B ≤ 7) ∧ (nrOf hd S).toInt = -(B : Int) ∧ wtS hd S 1 = nrOf hd S := by
  unfold nrOf wtS
  rcases h1 with e | e
  · rw [e]; exact ⟨3, by decide, by decide, by decide⟩
  · rw [e]; exact ⟨2, by decide, by decide, by decide⟩
theorem pn_field (x : Int32) : pairR (fun h => bR5 h ∧ bNK h) 122 202 [.int x] := pr_mk (c1 := cn_X11_field_0) (c2 := cn_X12_field_0) ch_X11_field_0 ch_X12_field_0 (by decide +kernel) (by decide +kernel) (by decide +kernel) (by decide +kernel) rfl rfl (fun h hH => ⟨bt0 hH, vI0 x, trivial⟩) (fun h hH => ⟨bt60 hH, vI0 x, trivial⟩) (fun h hH hRR => by
  obtain ⟨hR5, hR⟩ := hRR
  obtain ⟨I, G, Ik, Gk, ik, tf, J, g, ⟨q5, q16, q0, x5, x16, x27⟩, qm, ej, rn, rk⟩ := hR
  have qC : nkC h I G Ik Gk ik tf := ⟨q5, q16, q0, x5, x16, x27⟩
  obtain ⟨⟨so, sh, wo, fo, ow⟩, F, fb⟩ := FC_ext5 hH q5 x5
  obtain ⟨cd, Fd, -⟩ := FC_at27 hH x27
  obtain ⟨Rc, hRc⟩ := RA_of hH (p := 43) (Or.inl rfl)
  obtain ⟨s, sI, sJ, gF, gM⟩ := RN_sg rn
  obtain ⟨hd, ro, sz, co, cl, f, gg, q4, bs⟩ := id hR5
  obtain ⟨⟨J', M60, eJ, e37⟩, g75⟩ := id qm
  have q4' := q4
  obtain ⟨a1, a2, a3, a4, a5, a6, a7, a8⟩ := q4'
  have sJ' : sgJ J' s := by obtain ⟨a, b, c, d⟩ := sJ; exact ⟨(eJ 0 (by decide)).trans a, (eJ 1 (by decide)).trans b, (eJ 6 (by decide)).trans c, d⟩
  have l79 := hH.1
  -- refused on both sides
  have refd : ∀ (b : Int32) (B : Nat), b.toInt = -(B : Int) → (1 ≤ B ∧ B ≤ 7) → sDo 9 161 [.ref 0, .int x] h (fun r h' => h' = h ∧ r = some (.int b)) → (((0 ≤ x.toInt ∧ x.toInt < 8) ∧ wtS hd x.toInt.toNat 1 = b) ∨ (¬ (0 ≤ x.toInt ∧ x.toInt < 8) ∧ b = -1)) → sDo 10 cn_X11_field_0.1 (.ref 0 :: [.int x]) h (fun r1 h1 => bH h1 → bFr cn_X11_field_0.2.2.2.2.1 cn_X11_field_0.2.2.2.2.2.1 h h1 → sDo 10 cn_X12_field_0.1 (.ref 60 :: [.int x]) h1 (fun r2 h2 => bH h2 → bFr cn_X12_field_0.2.2.2.2.1 cn_X12_field_0.2.2.2.2.2.1 h1 h2 → (bR5 h2 ∧ bNK h2) ∧ ∃ x, r1 = some x ∧ r2 = some x)) := by
    intro b B hb hB hno hx
    refine sDo_mono (s_field11n (d := 10) (by omega) q0 hRc hb hB hno) (fun r1 h1 q hH1 fr1 => ?_)
    obtain ⟨rfl, rfl⟩ := q
    obtain ⟨Rm, hRm⟩ := RA_of hH1 (p := 61) (Or.inr rfl)
    refine sDo_mono (s_field12n (d := 10) (by omega) (by rw [s_set_ne (by decide)]; exact M60) hRm (by rw [s_set_ne (by decide)]; exact a4) hb hB hx) (fun r2 h2 p hH2 fr2 => ?_)
    obtain ⟨rfl, rfl⟩ := p
    refine ⟨⟨bR5_fr fr2 (by decide +kernel) (bR5_43 hR5), I, G, Ik, Gk, ik, tf, J, g, nkC_fr fr2 (by decide +kernel) (nkC_43 qC), ⟨⟨J', by rw [s_set_ne (by decide), s_set_ne (by decide)]; exact M60, eJ, e37⟩, by rw [s_set_ne (by decide), s_set_ne (by decide)]; exact g75⟩, ej, rn, rk⟩, _, rfl, rfl⟩
  by_cases hS : 0 ≤ x.toInt ∧ x.toInt < 8
  · obtain ⟨S, hx⟩ : ∃ S : Nat, x.toInt = S := ⟨x.toInt.toNat, by omega⟩
    obtain ⟨ot, z, el, b1, b2, b3⟩ := bs S (by omega)
    have hno := s_noIn (d := 7) (el := el) hH q4 hx (by omega) b1 b3
    have row : hd S = 1 ∨ (hd S = 0 ∨ hd S = 2) := by
      rcases b3 with ⟨e, -⟩ | ⟨e, -⟩ | ⟨e, -⟩
      · exact Or.inr (Or.inl e)
      · exact Or.inl e
      · exact Or.inr (Or.inr e)
    rcases row with h1 | h1
    · -- a row
      rcases b3 with ⟨e, -⟩ | ⟨-, -, eo, o0, o3, ez, z0, z100, eel⟩ | ⟨e, -⟩
      · rw [h1] at e; exact absurd e (by decide)
      · obtain ⟨n, hn⟩ : ∃ n : Nat, z.toInt = n := ⟨z.toInt.toNat, by omega⟩
        have hz : z = Int32.ofNat n := Int32.toInt_inj.mp (by rw [hn, ofN_toInt (by omega)])
        have hno0 : sDo 9 161 [.ref 0, .int x] h (fun r h' => h' = h ∧ r = some (.int 0)) := sDo_mono hno (fun r h' q => ⟨q.1, by rw [q.2]; unfold nrOf; rw [if_pos h1]⟩)
        have sI2 : sgI (cfBecome (I, G, so, sh, wo, fo, ow) cd) s := ⟨(bc_I I cd.1 0 (by decide)).trans sI.1, (bc_I I cd.1 1 (by decide)).trans sI.2.1, (bc_I I cd.1 11 (by decide)).trans sI.2.2.1, sI.2.2.2⟩
        have RT1 : RT cl S n (tx el n) := ⟨by omega, by omega, fun i hi => by
            unfold tx
            rw [if_pos hi, eel i (by omega)], fun i hi => if_neg (by omega)⟩
        rw [hz] at b1
        refine sDo_mono (s_field11 (d := 10) (S := S) (n := n) (by omega) l79 q0 hRc F Fd fb (fun as => fb_dos (fb_bc (a := (I, G, so, sh, wo, fo, ow)) fb) as) (by omega) (by omega) hx a1 (a2 S (by omega)) b1 b2 sI2 hno0) (fun r1 h1' q hH1 fr1 => ?_)
        have hE : ∃ lo, (lo = 5 ∨ lo = 16) ∧ fdE h h1' lo := by
          unfold qF11 at q
          split at q
          · exact ⟨5, Or.inl rfl, q.2.2.2⟩
          · exact ⟨16, Or.inr rfl, q.2.2⟩
        obtain ⟨lo, hlo, E⟩ := hE
        have at_ : ∀ {p : Nat} {x : va_E}, h[p]? = some x → 43 < p → h1'[p]? = some x := fun hx hp => fdE_at E hx (by omega) (by omega) (by omega) (by omega)
        have M60' := at_ M60 (by decide)
        obtain ⟨⟨so', ow', sh', fo', va'⟩, M⟩ := MC_ext hH1 M60'
        obtain ⟨Rm, hRm⟩ := RA_of hH1 (p := 61) (Or.inr rfl)
        obtain ⟨gw, hgw, -, -⟩ := bA60 hH1 (p := 74) (by decide) rfl
        obtain ⟨wd, w0, WW⟩ := WD_of hH1
        have rnJ : RN (I, G, so, sh, wo, fo, ow) (J', so', ow', sh', fo', va') := RN_J (m := (J, so', ow', sh', fo', va')) rn eJ
        have x27' := fxR_fr fr1 (Or.inr (Or.inr rfl)) (by decide +kernel) x27
        have g75' := at_ g75 (by decide)
        refine sDo_mono (s_field12 (d := 10) (S := S) (n := n) (by omega) M hRm hgw w0 WW (at_ a4 (by decide)) (at_ a6 (by decide)) (at_ a8 (by decide)) (by omega) hx h1 (by rw [← ez, hz]) RT1 sJ') (fun r2 h2 p hH2 fr2 => ?_)
        have R2 := bR5_fr fr2 (by decide +kernel) (bR5_fr fr1 (by decide +kernel) hR5)
        cases hi : itsS (tx el n) n 101 s 0 with
        | none =>
          rw [hi] at q p
          obtain ⟨rfl, ⟨tf2, z0'⟩, E1⟩ := q
          obtain ⟨rfl, ⟨m0, g0, ⟨J2, R2'⟩, M2, mq⟩, E2⟩ := p
          obtain ⟨f6, a6', b6⟩ := x16
          obtain ⟨f5, a5', b5⟩ := x5
          have nc : nkC h1' I G Ik Gk ik tf2 := ⟨fdE_at E1 q5 (by decide) (by decide) (by decide) (by decide), fdE_at E1 q16 (by decide) (by decide) (by decide) (by decide), z0', ⟨f5, fdE_at E1 a5' (by decide) (by decide) (by decide) (by decide), b5⟩, ⟨f6, fdE_at E1 a6' (by decide) (by decide) (by decide) (by decide), b6⟩, x27'⟩
          have rn2 : RN (I, G, so, sh, wo, fo, ow) (J2, R2') := RN_ok.1 _ _ _ (RN_ok.2.2.2.1 _ _ m0 g0 rnJ) mq
          exact ⟨⟨R2, I, G, Ik, Gk, ik, tf2, J2, g, nkC_fr fr2 (by decide +kernel) nc, ⟨⟨J2, M2.1, fun _ _ => rfl, rfl⟩, (E2.2 75 (by decide) (by decide) (by decide)).trans g75'⟩, (iso37 fr2 M60' M2.1 (by decide +kernel)).trans (e37.trans ej), rn2, rk⟩, _, rfl, rfl⟩
        | some kb =>
          obtain ⟨k, as⟩ := kb
          rw [hi] at q p
          obtain ⟨rfl, F1, z0', E1⟩ := q
          obtain ⟨rfl, ⟨⟨J2, R2'⟩, M2, mq⟩, E2⟩ := p
          have ok := (its_ok hi sI2).1
          have rn1 : RN (cfBecome (I, G, so, sh, wo, fo, ow) cd) (J', so', ow', sh', fo', va') := RN_ok.2.2.1 _ _ _ rnJ
          have rn2 := RN_ok.2.2.1 _ (I, G, so, sh, wo, fo, ow) _ (rel_dos RN_ok rn1 sI2 sJ' ok)
          have rn3 := RN_ok.1 _ _ _ rn2 mq
          obtain ⟨f6, a6', b6⟩ := x16
          have nc : nkC h1' (cfBecome (as.foldl cfDo (cfBecome (I, G, so, sh, wo, fo, ow) cd)) (I, G, so, sh, wo, fo, ow)).1 (cfBecome (as.foldl cfDo (cfBecome (I, G, so, sh, wo, fo, ow) cd)) (I, G, so, sh, wo, fo, ow)).2.1 Ik Gk ik (-1) := ⟨F1.1, fdE_at E1 q16 (by decide) (by decide) (by decide) (by decide), z0', F1.2.2.2.1, ⟨f6, fdE_at E1 a6' (by decide) (by decide) (by decide) (by decide), b6⟩, x27'⟩
          exact ⟨⟨R2, _, _, Ik, Gk, ik, -1, J2, g, nkC_fr fr2 (by decide +kernel) nc, ⟨⟨J2, M2.1, fun _ _ => rfl, rfl⟩, (E2.2 75 (by decide) (by decide) (by decide)).trans g75'⟩, (iso37 fr2 M60' M2.1 (by decide +kernel)).trans (e37.trans ej), rn3, rk⟩, _, rfl, rfl⟩
      · rw [h1] at e; exact absurd e (by decide)
    · obtain ⟨B, hB, eB, ew⟩ := nr_b h1
      exact refd _ B eB hB hno (Or.inl ⟨hS, by rw [show x.toInt.toNat = S by omega]; exact ew⟩)
  · exact refd (-1) 1 (by decide) (by decide) (s_noOut (d := 7) hS) (Or.inr ⟨hS, rfl⟩))
end
section
/-! ===== shelves and the fields' ints together ===== -/
def bR7 (h : sHp) : Prop := bR5 h ∧ bNK h
def bR7M : List Nat := bRM ++ (NKc ++ NKm)
theorem bR7_fr {W gg : Nat} {h h' : sHp} (hH' : bH h') (a : bFr W gg h h') (hW : ∀ b ∈ bR7M, W.testBit b = false) (q : bR7 h) : bR7 h' := ⟨bR5_fr a (fun b hb => hW b (List.mem_append_left _ hb)) q.1, bNK_fr hH' a (fun b hb => hW b (List.mem_append_right _ (List.mem_append_left _ hb))) (fun b hb => hW b (List.mem_append_right _ (List.mem_append_right _ hb))) q.2⟩
theorem pr_swap {A B : sHp → Prop} {k1 k2 : Nat} {as : List Value} (p : pairR (fun h => A h ∧ B h) k1 k2 as) : pairR (fun h => B h ∧ A h) k1 k2 as := fun h hH hR => sDo_mono (p h hH ⟨hR.2, hR.1⟩) (fun r1 h1 q => ⟨q.1, q.2.1, sDo_mono q.2.2 (fun r2 h2 z => ⟨z.1, z.2.1, ⟨z.2.2.1.2, z.2.2.1.1⟩, z.2.2.2⟩)⟩)
theorem pr7_row (s : Int32) (a : Int32) (x : Int32) : pairR bR7 114 178 [.int s, .int a, .int x] := pr_and (R := bR5) (P := bNK) (c1 := cn_X11_row_0) (c2 := cn_X12_row_0) (pr_row s a x) (fun hH a q => bNK_fr hH a (by decide +kernel) (by decide +kernel) q) (fun hH a q => bNK_fr hH a (by decide +kernel) (by decide +kernel) q) ch_X11_row_0 ch_X12_row_0 (by decide +kernel) (by decide +kernel) rfl rfl (fun h hH => ⟨bt0 hH, vI0 s, vI0 a, vI0 x, trivial⟩) (fun h hH => ⟨bt60 hH, vI0 s, vI0 a, vI0 x, trivial⟩)
theorem pr7_set (s : Int32) (i : Int32) (v : Int64) : pairR bR7 115 179 [.int s, .int i, .long v] := pr_and (R := bR5) (P := bNK) (c1 := cn_X11_set_0) (c2 := cn_X12_set_0) (pr_set s i v) (fun hH a q => bNK_fr hH a (by decide +kernel) (by decide +kernel) q) (fun hH a q => bNK_fr hH a (by decide +kernel) (by decide +kernel) q) ch_X11_set_0 ch_X12_set_0 (by decide +kernel) (by decide +kernel) rfl rfl (fun h hH => ⟨bt0 hH, vI0 s, vI0 i, vL0 v, trivial⟩) (fun h hH => ⟨bt60 hH, vI0 s, vI0 i, vL0 v, trivial⟩)
theorem pr7_cut (s : Int32) (c : Int32) : pairR bR7 118 182 [.int s, .int c] := pr_and (R := bR5) (P := bNK) (c1 := cn_X11_cut_0) (c2 := cn_X12_cut_0) (pr_cut s c) (fun hH a q => bNK_fr hH a (by decide +kernel) (by decide +kernel) q) (fun hH a q => bNK_fr hH a (by decide +kernel) (by decide +kernel) q) ch_X11_cut_0 ch_X12_cut_0 (by decide +kernel) (by decide +kernel) rfl rfl (fun h hH => ⟨bt0 hH, vI0 s, vI0 c, trivial⟩) (fun h hH => ⟨bt60 hH, vI0 s, vI0 c, trivial⟩)
theorem pr7_copy (p : Int32) (q : Int32) (i : Int32) (j : Int32) (n : Int32) : pairR bR7 116 180 [.int p, .int q, .int i, .int j, .int n] := pr_and (R := bR5) (P := bNK) (c1 := cn_X11_copy_0) (c2 := cn_X12_copy_0) (pr_copy p q i j n) (fun hH a q => bNK_fr hH a (by decide +kernel) (by decide +kernel) q) (fun hH a q => bNK_fr hH a (by decide +kernel) (by decide +kernel) q) ch_X11_copy_0 ch_X12_copy_0 (by decide +kernel) (by decide +kernel) rfl rfl (fun h hH => ⟨bt0 hH, vI0 p, vI0 q, vI0 i, vI0 j, vI0 n, trivial⟩) (fun h hH => ⟨bt60 hH, vI0 p, vI0 q, vI0 i, vI0 j, vI0 n, trivial⟩)
theorem pr7_size (x : Int32) (y : Int32) : pairR bR7 124 204 [.int x, .int y] := pr_swap (A := bNK) (B := bR5) (pr_and (R := bNK) (P := bR5) (c1 := cn_X11_size_0) (c2 := cn_X12_size_0) (pn_size x y) (fun hH a q => bR5_fr a (by decide +kernel) q) (fun hH a q => bR5_fr a (by decide +kernel) q) ch_X11_size_0 ch_X12_size_0 (by decide +kernel) (by decide +kernel) rfl rfl (fun h hH => ⟨bt0 hH, vI0 x, vI0 y, trivial⟩) (fun h hH => ⟨bt60 hH, vI0 x, vI0 y, trivial⟩))
theorem pr7_place (x : Int32) (v : Int32) : pairR bR7 126 206 [.int x, .int v] := pr_swap (A := bNK) (B := bR5) (pr_and (R := bNK) (P := bR5) (c1 := cn_X11_place_0) (c2 := cn_X12_place_0) (pn_place x v) (fun hH a q => bR5_fr a (by decide +kernel) q) (fun hH a q => bR5_fr a (by decide +kernel) q) ch_X11_place_0 ch_X12_place_0 (by decide +kernel) (by decide +kernel) rfl rfl (fun h hH => ⟨bt0 hH, vI0 x, vI0 v, trivial⟩) (fun h hH => ⟨bt60 hH, vI0 x, vI0 v, trivial⟩))
theorem pr7_heir (x : Int32) : pairR bR7 127 207 [.int x] := pr_swap (A := bNK) (B := bR5) (pr_and (R := bNK) (P := bR5) (c1 := cn_X11_heir_0) (c2 := cn_X12_heir_0) (pn_heir x) (fun hH a q => bR5_fr a (by decide +kernel) q) (fun hH a q => bR5_fr a (by decide +kernel) q) ch_X11_heir_0 ch_X12_heir_0 (by decide +kernel) (by decide +kernel) rfl rfl (fun h hH => ⟨bt0 hH, vI0 x, trivial⟩) (fun h hH => ⟨bt60 hH, vI0 x, trivial⟩))
theorem pr7_image : pairR bR7 154 254 [] := pr_swap (A := bNK) (B := bR5) (pr_and (R := bNK) (P := bR5) (c1 := cn_X11_image_0) (c2 := cn_X12_image_0) (pn_image ) (fun hH a q => bR5_fr a (by decide +kernel) q) (fun hH a q => bR5_fr a (by decide +kernel) q) ch_X11_image_0 ch_X12_image_0 (by decide +kernel) (by decide +kernel) rfl rfl (fun h hH => ⟨bt0 hH, trivial⟩) (fun h hH => ⟨bt60 hH, trivial⟩))
theorem pr7_restore : pairR bR7 155 255 [] := pr_swap (A := bNK) (B := bR5) (pr_and (R := bNK) (P := bR5) (c1 := cn_X11_restore_0) (c2 := cn_X12_restore_0) (pn_restore ) (fun hH a q => bR5_fr a (by decide +kernel) q) (fun hH a q => bR5_fr a (by decide +kernel) q) ch_X11_restore_0 ch_X12_restore_0 (by decide +kernel) (by decide +kernel) rfl rfl (fun h hH => ⟨bt0 hH, trivial⟩) (fun h hH => ⟨bt60 hH, trivial⟩))
theorem pr7_field (x : Int32) : pairR bR7 122 202 [.int x] := pn_field x
end
section
/-! ===== calls that change nothing of the relation ===== -/
def vE (h h1 : sHp) : Prop := h1.length = h.length ∧ ∀ q, (q < 38 ∨ 43 < q) → h1[q]? = h[q]?
theorem vE_rfl {h : sHp} : vE h h := ⟨rfl, fun _ _ => rfl⟩
theorem vE_43 {h : sHp} {c : va_E} : vE h (h.set 43 c) := ⟨List.length_set, fun q hq => s_set_ne (by omega)⟩
theorem vE_at {h h1 : sHp} {q : Nat} {x : va_E} (e : vE h h1) (hx : h[q]? = some x) (hq : q < 38 ∨ 43 < q) : h1[q]? = some x := (e.2 q hq).trans hx
theorem pr_q {c1 c2 : bCn} {as : List Value} (h1 : bHolds c1) (h2 : bHolds c2) (d1 : Nat.ble c1.2.1 10 = true) (d2 : Nat.ble c2.2.1 10 = true) (g1 : Nat.ble c1.2.2.2.2.2.1 1 = true) (g2 : Nat.ble c2.2.2.2.2.2.1 1 = true) (o1 : c1.2.2.2.1 = []) (o2 : c2.2.2.2.1 = []) (t1 : ∀ h, bH h → bTl h c1.2.2.1 (.ref 0 :: as)) (t2 : ∀ h, bH h → bTl h c2.2.2.1 (.ref 60 :: as)) (w1 : ∀ b ∈ bR7M, c1.2.2.2.2.1.testBit b = false) (w2 : ∀ b ∈ bR7M, c2.2.2.2.2.1.testBit b = false) (e : ∀ h, bH h → bR7 h → ∃ v, sDo 10 c1.1 (.ref 0 :: as) h (fun r h1 => r = some v ∧ vE h h1) ∧ ∀ h1, bH h1 → vE h h1 → sDo 10 c2.1 (.ref 60 :: as) h1 (fun r _ => r = some v)) : pairR bR7 c1.1 c2.1 as := pr_mk h1 h2 d1 d2 g1 g2 o1 o2 t1 t2 (fun h hH hR => by
  obtain ⟨v, e1, e2⟩ := e h hH hR
  exact sDo_mono e1 (fun r1 h1' q hH1 fr1 => sDo_mono (e2 h1' hH1 q.2) (fun r2 h2' p hH2 fr2 => ⟨bR7_fr hH2 fr2 w2 (bR7_fr hH1 fr1 w1 hR), v, q.1, p⟩)))
theorem un7 {h : sHp} (hH : bH h) (hR : bR7 h) : ∃ (c : CF) (m : MF) (W H N : Nat) (ik tf : Int32) (R : Nat → Int32) (hd so sz co : Nat → Int32) (cl : Nat → Int64) (f g : Nat → Option Nat), FC h 5 c ∧ gdF c W H ∧ MC h m ∧ gdM m.1 W H ∧ h[0]? = some (cO ik tf) ∧ h[43]? = some (rFc R) ∧ bR4 h hd so sz co cl f g ∧ (∀ s, s < 8 → bRS hd so sz co cl g h s) ∧ N ≤ 5 ∧ c.1 11 = Int32.ofNat N ∧ m.1 6 = Int32.ofNat N := by
  obtain ⟨⟨hd, so, sz, co, cl, f, g, q4, bs⟩, I, G, Ik, Gk, ik, tf, J, gk, ⟨q5, -, q0, x5, -, -⟩, ⟨⟨J', M60, eJ, -⟩, -⟩, -, rn, -⟩ := hR
  obtain ⟨⟨s1, s2, s3, s4, s5⟩, F, -⟩ := FC_ext5 hH q5 x5
  obtain ⟨⟨n1, n2, n3, n4, n5⟩, M⟩ := MC_ext hH M60
  obtain ⟨R, hR⟩ := RA_of hH (p := 43) (Or.inl rfl)
  obtain ⟨W, H, N, gd, hN, c11, m0, m1, m6, -⟩ := rn
  have gd' := gd
  obtain ⟨g0, g1, w2, w8, h2, h8, -⟩ := gd'
  exact ⟨(I, G, s1, s2, s3, s4, s5), (J', n1, n2, n3, n4, n5), W, H, N, ik, tf, R, hd, so, sz, co, cl, f, g, F, gd, M, ⟨(eJ 0 (by decide)).trans m0, (eJ 1 (by decide)).trans m1, w2, w8, h2, h8⟩, q0, hR, q4, bs, hN, c11, (eJ 6 (by decide)).trans m6⟩
theorem s_noCutX {d : Nat} {h : sHp} {fs : List Value} {f g : Nat → Option Nat} {s : Int32} {S : Nat} {ot z nc : Int32} (hf : h[0]? = some (.inr (11, fs))) (f0 : fs[0]? = some (.ref 1)) (f1 : fs[1]? = some (.ref 2)) (a1 : h[1]? = some (.inl (3, 8, .inr (.inr (.inr (.inr f)))))) (a2 : ∀ s, s < 8 → f s = some (44 + 2 * s)) (a3 : h[2]? = some (.inl (4, 8, .inr (.inr (.inr (.inr g)))))) (hs : s.toInt = S) (hS : S < 8) (b1 : h[44 + 2 * S]? = some (.inr (7, [.int ot, .int z, .ref (45 + 2 * S)]))) (hn : (¬ ot = -1 ∧ nc = -2) ∨ (g S = none ∧ ot = -1 ∧ nc = -3) ∨ (∃ p, g S = some p ∧ ot = -1 ∧ nc = 0)) : sDo (d + 2) 162 [.ref 0, .int s] h (fun r h' => h' = h ∧ r = some (.int nc)) := by
  have sn : s.toNatClampNeg = S := i_nat hs
  have fS : va_rf (f s.toNatClampNeg) = .ref (44 + 2 * S) := by rw [sn, a2 S hS]; rfl
  refine sDo_of (d := d + 1) (nL := 2) (L := [some (.ref 0), some (.int s)]) rfl rfl ?_
  refine g_iload_n (i := 1) rfl rfl ?_
  refine g_static1 (Qc := fun r h' => h' = h ∧ r = some (.int 1)) rfl (by decide) rfl (Nat.le_of_ble_eq_true rfl) (s_sh11 (by rw [if_pos (by omega)])) (fun r h9 hq9 => ?_)
  obtain ⟨rfl, rfl⟩ := hq9
  refine g_if_ne 9 rfl rfl (fun _ => ?_) (fun hc => absurd hc (by decide))
  refine g_aload_n (i := 0) rfl rfl ?_
  refine g_getfield (v := .ref 1) rfl hf (by decide) f0 ?_
  refine g_iload_n (i := 1) rfl rfl ?_
  refine g_aaload rfl a1 (by decide) (i_in (by omega) (by omega)) ?_
  rw [fS]
  rcases hn with ⟨ho, rfl⟩ | ⟨hg, ho, rfl⟩ | ⟨p, hg, ho, rfl⟩
  · skip
    refine g_virt0 (Qc := fun r h' => h' = h9 ∧ r = some (.int 1)) rfl (by decide) rfl b1 rfl (Nat.le_of_ble_eq_true rfl) (s_isHeld b1 (by rw [if_neg ho])) (fun r h8 hq9 => ?_)
    obtain ⟨rfl, rfl⟩ := hq9
    refine g_if_eq 24 rfl rfl (fun hc => absurd hc (by decide)) (fun _ => ?_)
    refine g_bipush (n := (-2)) rfl ?_
    refine g_ireturn (ty := .int) rfl rfl rfl ?_
    exact ⟨rfl, rfl⟩
  · skip
    refine g_virt0 (Qc := fun r h' => h' = h9 ∧ r = some (.int 0)) rfl (by decide) rfl b1 rfl (Nat.le_of_ble_eq_true rfl) (s_isHeld b1 (by rw [if_pos ho])) (fun r h8 hq9 => ?_)
    obtain ⟨rfl, rfl⟩ := hq9
    refine g_if_eq 24 rfl rfl (fun _ => ?_) (fun hc => absurd hc (by decide))
    refine g_aload_n (i := 0) rfl rfl ?_
    refine g_getfield (v := .ref 2) rfl hf (by decide) f1 ?_
    refine g_iload_n (i := 1) rfl rfl ?_
    have hgS : va_rf (g s.toNatClampNeg) = .null := by rw [sn, hg]; rfl
    refine g_aaload rfl a3 (by decide) (i_in (by omega) (by omega)) ?_
    rw [hgS]
    refine g_ifnullN 37 rfl rfl ?_
    refine g_bipush (n := (-3)) rfl ?_
    refine g_ireturn (ty := .int) rfl rfl rfl ?_
    exact ⟨rfl, rfl⟩
  · skip
    refine g_virt0 (Qc := fun r h' => h' = h9 ∧ r = some (.int 0)) rfl (by decide) rfl b1 rfl (Nat.le_of_ble_eq_true rfl) (s_isHeld b1 (by rw [if_pos ho])) (fun r h8 hq9 => ?_)
    obtain ⟨rfl, rfl⟩ := hq9
    refine g_if_eq 24 rfl rfl (fun _ => ?_) (fun hc => absurd hc (by decide))
    refine g_aload_n (i := 0) rfl rfl ?_
    refine g_getfield (v := .ref 2) rfl hf (by decide) f1 ?_
    refine g_iload_n (i := 1) rfl rfl ?_
    have hgS : va_rf (g s.toNatClampNeg) = .ref p := by rw [sn, hg]; rfl
    refine g_aaload rfl a3 (by decide) (i_in (by omega) (by omega)) ?_
    rw [hgS]
    refine g_ifnull 37 rfl rfl ?_
    refine g_iconst (n := 0) rfl ?_
    refine g_goto 39 rfl rfl ?_
    refine g_ireturn (ty := .int) rfl rfl rfl ?_
    exact ⟨rfl, rfl⟩
theorem s_noCutOX {d : Nat} {h : sHp} {s : Int32} (hs : ¬ (0 ≤ s.toInt ∧ s.toInt < 8)) : sDo (d + 2) 162 [.ref 0, .int s] h (fun r h' => h' = h ∧ r = some (.int (-1))) := by
  refine sDo_of (d := d + 1) (nL := 2) (L := [some (.ref 0), some (.int s)]) rfl rfl ?_
  refine g_iload_n (i := 1) rfl rfl ?_
  refine g_static1 (Qc := fun r h' => h' = h ∧ r = some (.int 0)) rfl (by decide) rfl (Nat.le_of_ble_eq_true rfl) (s_sh11 (by rw [if_neg hs])) (fun r h9 hq9 => ?_)
  obtain ⟨rfl, rfl⟩ := hq9
  refine g_if_ne 9 rfl rfl (fun hc => absurd hc (by decide)) (fun _ => ?_)
  refine g_iconst (n := (-1)) rfl ?_
  refine g_ireturn (ty := .int) rfl rfl rfl ?_
  exact ⟨rfl, rfl⟩
/-- what noCut says of a shelf -/
def ncS (hd : Nat → Int32) (S : Nat) : Int32 := if hd S = 2 then 0 else if hd S = 1 then -2 else -3
theorem s_noCutIn {d : Nat} {h : sHp} {ik tf : Int32} {hd so sz co : Nat → Int32} {cl : Nat → Int64} {f g : Nat → Option Nat} {s : Int32} {S : Nat} (hd2 : 2 ≤ d) (h0 : h[0]? = some (cO ik tf)) (q4 : bR4 h hd so sz co cl f g) (bs : ∀ s, s < 8 → bRS hd so sz co cl g h s) (hs : s.toInt = S) (hS : S < 8) : sDo d 162 [.ref 0, .int s] h (fun r h' => h' = h ∧ r = some (.int (ncS hd S))) := by
  obtain ⟨e, rfl⟩ : ∃ e, d = e + 2 := ⟨d - 2, by omega⟩
  obtain ⟨ot, z, el, b1, -, b3⟩ := bs S hS
  obtain ⟨a1, a2, a3, -⟩ := q4
  refine s_noCutX h0 rfl rfl a1 a2 a3 hs hS b1 ?_
  unfold ncS
  rcases b3 with ⟨x1, x2, x3⟩ | ⟨x1, x2, x3, x4, -⟩ | ⟨x1, x2, pc, x3, x4, -⟩
  · exact Or.inr (Or.inl ⟨x2, x3, by rw [x1]; rfl⟩)
  · refine Or.inl ⟨fun z => ?_, by rw [x1]; rfl⟩
    rw [z] at x4
    exact absurd x4 (by decide)
  · exact Or.inr (Or.inr ⟨pc, x4, x2, by rw [x1]; rfl⟩)
theorem nc_b {hd : Nat → Int32} {S : Nat} (h1 : hd S = 0 ∨ hd S = 1) : ∃ B : Nat, (2 ≤ B ∧ B ≤ 3) ∧ (ncS hd S).toInt = -(B : Int) := by
  unfold ncS
  rcases h1 with e | e
  · rw [e]; exact ⟨3, by decide, by decide⟩
  · rw [e]; exact ⟨2, by decide, by decide⟩
theorem hd_3 {hd so sz co : Nat → Int32} {cl : Nat → Int64} {g : Nat → Option Nat} {h : sHp} {S : Nat} (b : bRS hd so sz co cl g h S) : hd S = 0 ∨ hd S = 1 ∨ hd S = 2 := by
  obtain ⟨ot, z, el, -, -, b3⟩ := b
  rcases b3 with ⟨e, -⟩ | ⟨e, -⟩ | ⟨e, -⟩
  · exact Or.inl e
  · exact Or.inr (Or.inl e)
  · exact Or.inr (Or.inr e)
/-- a shelf with a cut: its cell, its code as a number -/
theorem cut_at {hd so sz co : Nat → Int32} {cl : Nat → Int64} {g : Nat → Option Nat} {h : sHp} {S : Nat} (b : bRS hd so sz co cl g h S) (h2 : hd S = 2) : ∃ (pc C : Nat), 79 ≤ pc ∧ g S = some pc ∧ h[pc]? = some (.inr (bKl7 (C / 1000), cutFs (Int32.ofNat S) (co S))) ∧ C < 7000 ∧ (co S).toInt = C := by
  obtain ⟨ot, z, el, -, -, b3⟩ := b
  rcases b3 with ⟨e, -⟩ | ⟨e, -⟩ | ⟨-, -, pc, x3, x4, x5, x6, x7⟩
  · rw [h2] at e; exact absurd e (by decide)
  · rw [h2] at e; exact absurd e (by decide)
  · refine ⟨pc, (co S).toInt.toNat, x3, x4, ?_, by omega, by omega⟩
    have e : bKi (co S) = bKl7 ((co S).toInt.toNat / 1000) := by
      unfold bKi bKl7
      rw [show ((co S).toInt / 1000).toNat = (co S).toInt.toNat / 1000 by omega]
    rw [← e]
    exact x5
theorem s_side11c {d : Nat} {h : sHp} {ik tf : Int32} {c : CF} {W H : Nat} {gg : Nat → Option Nat} {s x : Int32} {S pc C : Nat} {side : Int32} (hd : 6 ≤ d) (h0 : h[0]? = some (cO ik tf)) (F : FC h 5 c) (g : gdF c W H) (a3 : h[2]? = some (.inl (4, 8, .inr (.inr (.inr (.inr gg)))))) (hs : s.toInt = S) (hS : S < 8) (hg : gg S = some pc) (hc : C < 7000) (a : h[pc]? = some (.inr (bKl7 (C / 1000), cutFs (Int32.ofNat S) x))) (hx : x.toInt = C) (hno : sDo (d - 1) 162 [.ref 0, .int s] h (fun r h' => h' = h ∧ r = some (.int 0))) : sDo d 121 [.ref 0, .int s, .int side] h (fun r h' => h' = h ∧ r = some (.long (sdS W (W * H) C side.toInt))) := by
  refine sDo_of1 (nL := 3) (L := [some (.ref 0), some (.int s), some (.int side)]) (by omega) rfl rfl ?_
  refine g_aload_n (i := 0) rfl rfl ?_
  refine g_iload_n (i := 1) rfl rfl ?_
  refine g_virt1 (Qc := fun r h' => h' = h ∧ r = some (.int (0))) rfl (by decide) rfl h0 rfl (Nat.le_of_ble_eq_true rfl) (hno) (fun r h hq9 => ?_)
  obtain ⟨rfl, rfl⟩ := hq9
  refine g_if_ne 22 rfl rfl (fun hc => absurd hc (by decide)) (fun _ => ?_)
  refine g_aload_n (i := 0) rfl rfl ?_
  refine g_aload_n (i := 0) rfl rfl ?_
  refine g_getfield (v := .ref 2) rfl h0 (by decide) rfl ?_
  refine g_iload_n (i := 1) rfl rfl ?_
  have gS : va_rf (gg s.toNatClampNeg) = .ref pc := by rw [i_nat hs, hg]; rfl
  refine g_aaload rfl a3 (by decide) (i_in (by omega) (by omega)) ?_
  rw [gS]
  refine g_iload_n (i := 2) rfl rfl ?_
  have hsd := s_sideOf11 (d := d - 1) (side := side) (by omega) h0 rfl F g hc rfl a hx
  refine g_virt2 (Qc := fun r h' => h' = h ∧ r = some (.long (sdS W (W * H) C side.toInt))) rfl (by decide) rfl h0 rfl (Nat.le_of_ble_eq_true rfl) (hsd) (fun r h hq9 => ?_)
  obtain ⟨rfl, rfl⟩ := hq9
  refine g_goto 23 rfl rfl ?_
  refine g_lreturn rfl rfl ?_
  exact ⟨rfl, rfl⟩
theorem s_side11n {d : Nat} {h : sHp} {ik tf s side b : Int32} (hd : 2 ≤ d) (h0 : h[0]? = some (cO ik tf)) (hb : ¬ b = 0) (hno : sDo (d - 1) 162 [.ref 0, .int s] h (fun r h' => h' = h ∧ r = some (.int b))) : sDo d 121 [.ref 0, .int s, .int side] h (fun r h' => h' = h ∧ r = some (.long (Int64.ofNat 0))) := by
  refine sDo_of1 (nL := 3) (L := [some (.ref 0), some (.int s), some (.int side)]) (by omega) rfl rfl ?_
  refine g_aload_n (i := 0) rfl rfl ?_
  refine g_iload_n (i := 1) rfl rfl ?_
  refine g_virt1 (Qc := fun r h' => h' = h ∧ r = some (.int (b))) rfl (by decide) rfl h0 rfl (Nat.le_of_ble_eq_true rfl) (hno) (fun r h hq9 => ?_)
  obtain ⟨rfl, rfl⟩ := hq9
  refine g_if_ne 22 rfl rfl (fun _ => ?_) (fun hc => absurd hc (by exact hb))
  refine g_lconst (n := 0) rfl ?_
  show sGo none 121 _ 23 [some (.ref 0), some (.int s), some (.int side)] [.long (Int64.ofNat 0)] _ _
  refine g_lreturn rfl rfl ?_
  exact ⟨rfl, rfl⟩
theorem s_side12c {d : Nat} {h : sHp} {J hd co : Nat → Int32} {W H : Nat} {s side : Int32} {S C : Nat} (hd1 : 3 ≤ d) (hr : h[60]? = some (mO J)) (a4 : h[67]? = some (.inl (0, 8, .inl hd))) (g : gdM J W H) (a7 : h[70]? = some (.inl (0, 8, .inl co))) (hs : s.toInt = S) (hS : S < 8) (h2 : hd S = 2) (hC : (co S).toInt = C) (hc : C < 7000) : sDo d 188 [.ref 60, .int s, .int side] h (fun r h' => h' = h ∧ r = some (.long (sdS W (W * H) C side.toInt))) := by
  have e2 : (hd S).toInt = 2 := by rw [h2]; rfl
  have hn := gdM_n g
  refine sDo_of1 (nL := 3) (L := [some (.ref 60), some (.int s), some (.int side)]) (by omega) rfl rfl ?_
  refine g_aload_n (i := 0) rfl rfl ?_
  refine g_iload_n (i := 1) rfl rfl ?_
  refine g_virt1 (Qc := fun r h' => h' = h ∧ (((0 ≤ s.toInt ∧ s.toInt < 8) ∧ r = some (.int 1)) ∨ (¬ (0 ≤ s.toInt ∧ s.toInt < 8) ∧ r = some (.int 0)))) rfl (by decide) rfl hr rfl (Nat.le_of_ble_eq_true rfl) (s_sh12z (by omega)) (fun r h hq9 => ?_)
  obtain ⟨rfl, ⟨c_1, rfl⟩ | ⟨c_1, rfl⟩⟩ := hq9
  · skip
    refine g_if_eq 41 rfl rfl (fun hc => absurd hc (by decide)) (fun _ => ?_)
    refine g_aload_n (i := 0) rfl rfl ?_
    refine g_getfield (v := .ref 67) rfl hr (by decide) rfl ?_
    refine g_iload_n (i := 1) rfl rfl ?_
    refine g_iaload (n := 8) (f := hd) rfl a4 (i_in (by omega) (by omega)) ?_
    rw [i_nat hs]
    refine g_iconst (n := 2) rfl ?_
    have k_3 : (Int32.ofInt 2).toInt = 2 := rfl
    refine g_icmp_ne 41 rfl rfl (fun c_2 => ?_) (fun c_2 => ?_)
    · skip
      rw [i_eq, e2, k_3] at c_2
      refine g_lconst (n := 0) rfl ?_
      show sGo none 188 _ 42 [some (.ref 60), some (.int s), some (.int side)] [.long (Int64.ofNat 0)] _ _
      refine g_lreturn rfl rfl ?_
      exact ⟨rfl, congrArg (fun z => some (Value.long z)) (sdS_o hn.1 (by omega))⟩
    · skip
      rw [i_eq, e2, k_3] at c_2
      refine g_iload_n (i := 2) rfl rfl ?_
      have k_5 : (0 : Int32).toInt = 0 := rfl
      refine g_if_lt 41 rfl rfl (fun c_4 => ?_) (fun c_4 => ?_)
      · skip
        rw [i_lt, k_5] at c_4
        refine g_lconst (n := 0) rfl ?_
        show sGo none 188 _ 42 [some (.ref 60), some (.int s), some (.int side)] [.long (Int64.ofNat 0)] _ _
        refine g_lreturn rfl rfl ?_
        exact ⟨rfl, congrArg (fun z => some (Value.long z)) (sdS_o hn.1 (by omega))⟩
      · skip
        rw [i_lt, k_5] at c_4
        refine g_iload_n (i := 2) rfl rfl ?_
        refine g_iconst (n := 3) rfl ?_
        have k_7 : (Int32.ofInt 3).toInt = 3 := rfl
        refine g_icmp_ge 41 rfl rfl (fun c_6 => ?_) (fun c_6 => ?_)
        · skip
          rw [i_le, k_7] at c_6
          refine g_lconst (n := 0) rfl ?_
          show sGo none 188 _ 42 [some (.ref 60), some (.int s), some (.int side)] [.long (Int64.ofNat 0)] _ _
          refine g_lreturn rfl rfl ?_
          exact ⟨rfl, congrArg (fun z => some (Value.long z)) (sdS_o hn.1 (by omega))⟩
        · skip
          rw [i_le, k_7] at c_6
          refine g_aload_n (i := 0) rfl rfl ?_
          refine g_aload_n (i := 0) rfl rfl ?_
          refine g_getfield (v := .ref 70) rfl hr (by decide) rfl ?_
          refine g_iload_n (i := 1) rfl rfl ?_
          refine g_iaload (n := 8) (f := co) rfl a7 (i_in (by omega) (by omega)) ?_
          rw [i_nat hs]
          refine g_iload_n (i := 2) rfl rfl ?_
          refine g_virt2 (Qc := fun r h' => h' = h ∧ r = some (.long (sdS W (W * H) C side.toInt))) rfl (by decide) rfl hr rfl (Nat.le_of_ble_eq_true rfl) (s_sideOf12 (by omega) hr g hC hc) (fun r h hq9 => ?_)
          obtain ⟨rfl, rfl⟩ := hq9
          refine g_goto 42 rfl rfl ?_
          refine g_lreturn rfl rfl ?_
          exact ⟨rfl, rfl⟩
  · skip
    omega
theorem s_side12n {d : Nat} {h : sHp} {J hd : Nat → Int32} {s side : Int32} (hd1 : 3 ≤ d) (hr : h[60]? = some (mO J)) (a4 : h[67]? = some (.inl (0, 8, .inl hd))) (hn : ¬ ((0 ≤ s.toInt ∧ s.toInt < 8) ∧ hd s.toInt.toNat = 2)) : sDo d 188 [.ref 60, .int s, .int side] h (fun r h' => h' = h ∧ r = some (.long (Int64.ofNat 0))) := by
  refine sDo_of1 (nL := 3) (L := [some (.ref 60), some (.int s), some (.int side)]) (by omega) rfl rfl ?_
  refine g_aload_n (i := 0) rfl rfl ?_
  refine g_iload_n (i := 1) rfl rfl ?_
  refine g_virt1 (Qc := fun r h' => h' = h ∧ (((0 ≤ s.toInt ∧ s.toInt < 8) ∧ r = some (.int 1)) ∨ (¬ (0 ≤ s.toInt ∧ s.toInt < 8) ∧ r = some (.int 0)))) rfl (by decide) rfl hr rfl (Nat.le_of_ble_eq_true rfl) (s_sh12z (by omega)) (fun r h hq9 => ?_)
  obtain ⟨rfl, ⟨c_1, rfl⟩ | ⟨c_1, rfl⟩⟩ := hq9
  · skip
    obtain ⟨S, hs⟩ : ∃ S : Nat, s.toInt = S := ⟨s.toInt.toNat, by omega⟩
    have e2 : ¬ (hd S).toInt = 2 := fun z => hn ⟨c_1, by rw [show s.toInt.toNat = S by omega]; exact Int32.toInt_inj.mp (by rw [z]; rfl)⟩
    refine g_if_eq 41 rfl rfl (fun hc => absurd hc (by decide)) (fun _ => ?_)
    refine g_aload_n (i := 0) rfl rfl ?_
    refine g_getfield (v := .ref 67) rfl hr (by decide) rfl ?_
    refine g_iload_n (i := 1) rfl rfl ?_
    refine g_iaload (n := 8) (f := hd) rfl a4 (i_in (by omega) (by omega)) ?_
    rw [i_nat hs]
    refine g_iconst (n := 2) rfl ?_
    refine g_icmp_ne 41 rfl rfl (fun _ => ?_) (fun hc => absurd hc (by rw [i_eq]; exact e2))
    refine g_lconst (n := 0) rfl ?_
    show sGo none 188 _ 42 [some (.ref 60), some (.int s), some (.int side)] [.long (Int64.ofNat 0)] _ _
    refine g_lreturn rfl rfl ?_
    exact ⟨rfl, rfl⟩
  · skip
    refine g_if_eq 41 rfl rfl (fun _ => ?_) (fun hc => absurd hc (by decide))
    refine g_lconst (n := 0) rfl ?_
    show sGo none 188 _ 42 [some (.ref 60), some (.int s), some (.int side)] [.long (Int64.ofNat 0)] _ _
    refine g_lreturn rfl rfl ?_
    exact ⟨rfl, rfl⟩
theorem pr7_side (s : Int32) (side : Int32) : pairR bR7 121 188 [.int s, .int side] := pr_q (c1 := cn_X11_side_0) (c2 := cn_X12_side_0) ch_X11_side_0 ch_X12_side_0 (by decide +kernel) (by decide +kernel) (by decide +kernel) (by decide +kernel) rfl rfl (fun h hH => ⟨bt0 hH, vI0 s, vI0 side, trivial⟩) (fun h hH => ⟨bt60 hH, vI0 s, vI0 side, trivial⟩) (by decide +kernel) (by decide +kernel) (fun h hH hR => by
  obtain ⟨c, m, W, H, N, ik, tf, R, hd, so, sz, co, cl, f, gg, F, g, M, gM, h0, hR43, q4, bs, hN, c11, m6⟩ := un7 hH hR
  have q4' := q4
  obtain ⟨a1, a2, a3, a4, a5, a6, a7, a8⟩ := q4'
  by_cases hS : 0 ≤ s.toInt ∧ s.toInt < 8
  · obtain ⟨S, hs⟩ : ∃ S : Nat, s.toInt = S := ⟨s.toInt.toNat, by omega⟩
    have hno := s_noCutIn (d := 9) (by omega) h0 q4 bs hs (by omega)
    by_cases h2 : hd S = 2
    · obtain ⟨pc, C, -, hg, a, hc, hx⟩ := cut_at (bs S (by omega)) h2
      unfold ncS at hno
      rw [if_pos h2] at hno
      refine ⟨_, sDo_mono (s_side11c (d := 10) (side := side) (by omega) h0 F g a3 hs (by omega) hg hc a hx hno) (fun r h' q => ⟨q.2, by rw [q.1]; exact vE_rfl⟩), fun h1 hH1 E => ?_⟩
      exact sDo_mono (s_side12c (d := 10) (by omega) (vE_at E M.1 (by decide)) (vE_at E a4 (by decide)) gM (vE_at E a7 (by decide)) hs (by omega) h2 hx hc) (fun r h' q => q.2)
    · have hb : ¬ ncS hd S = 0 := fun z => by
        rcases hd_3 (bs S (by omega)) with e | e | e
        · unfold ncS at z; rw [e] at z; exact absurd z (by decide)
        · unfold ncS at z; rw [e] at z; exact absurd z (by decide)
        · exact h2 e
      refine ⟨_, sDo_mono (s_side11n (d := 10) (by omega) h0 hb hno) (fun r h' q => ⟨q.2, by rw [q.1]; exact vE_rfl⟩), fun h1 hH1 E => ?_⟩
      exact sDo_mono (s_side12n (d := 10) (by omega) (vE_at E M.1 (by decide)) (vE_at E a4 (by decide)) (fun z => h2 (by rw [show S = s.toInt.toNat by omega]; exact z.2))) (fun r h' q => q.2)
  · refine ⟨_, sDo_mono (s_side11n (d := 10) (by omega) h0 (show ¬ (-1 : Int32) = 0 by decide) (s_noCutOX (d := 7) hS)) (fun r h' q => ⟨q.2, by rw [q.1]; exact vE_rfl⟩), fun h1 hH1 E => ?_⟩
    exact sDo_mono (s_side12n (d := 10) (by omega) (vE_at E M.1 (by decide)) (vE_at E a4 (by decide)) (fun z => hS z.1)) (fun r h' q => q.2))
theorem low_st : ∀ n, n < 64 → (Int64.ofNat 1 <<< ((Int32.ofNat n).toInt64 &&& 63)) - Int64.ofNat 1 = stO (fun _ => true) n := by decide +kernel
theorem m1_st : lM1 = stO (fun _ => true) 64 := bt_ext (fun i hi => by rw [bt_m1, bt_stO _ _ (by decide), Bool.and_true])
theorem in_iff {x : Int64} {n : Nat} (hn : n ≤ 64) : x &&& (stO (fun _ => true) n ^^^ lM1) = Int64.ofNat 0 ↔ inN x n := by
  rw [bt_eq0]
  unfold inN
  refine forall_congr' (fun i => forall_congr' (fun hi => ?_))
  rw [bt_and, bt_not, bt_stO _ _ hn, decide_eq_true hi, Bool.and_true, Bool.true_and]
  cases bt x i
  · exact ⟨fun _ z => absurd z (by decide), fun _ => rfl⟩
  · rw [Bool.true_and, Bool.not_eq_false', decide_eq_true_eq]
    exact ⟨fun z _ => z, fun z => z rfl⟩
theorem s_hasAll {d : Nat} {h : sHp} {p : Nat} {c : CF} {W H : Nat} {x : Int64} (hd : 1 ≤ d) (F : FC h p c) (g : gdF c W H) : sDo d 24 [.ref p, .long x] h (fun r h' => h' = h ∧ (inN x (W * H) ∧ r = some (.int 1) ∨ ¬ inN x (W * H) ∧ r = some (.int 0))) := by
  have g2 := g.2.2.2.2.2.2.1
  have key := in_iff (x := x) (gdF_n g).1
  refine sDo_of1 (nL := 3) (L := [some (.ref p), some (.long x), none]) hd rfl rfl ?_
  refine g_lload_n (i := 1) rfl rfl ?_
  refine g_aload_n (i := 0) rfl rfl ?_
  refine g_getfield (v := .long (c.2.1 2)) rfl F.1 (by decide) rfl ?_
  refine g_ldc2_w (j := 18446744073709551615) rfl ?_
  refine g_lxor rfl ?_
  refine g_land rfl ?_
  refine g_lconst (n := 0) rfl ?_
  show sGo none 24 _ 11 [some (.ref p), some (.long x), none] [.long (Int64.ofNat 0), .long (x &&& ((c.2.1 2) ^^^ (Int64.ofNat 18446744073709551615)))] _ _
  refine g_lcmp rfl ?_
  refine g_if_ne 19 rfl rfl (fun c_1 => ?_) (fun c_1 => ?_)
  · skip
    rw [lc_eq] at c_1
    refine g_iconst (n := 0) rfl ?_
    refine g_ireturn (ty := .boolean) rfl rfl (by decide) ?_
    rw [g2] at c_1; exact ⟨rfl, Or.inr ⟨fun z => c_1 (key.mpr z), rfl⟩⟩
  · skip
    rw [lc_eq] at c_1
    refine g_iconst (n := 1) rfl ?_
    refine g_goto 20 rfl rfl ?_
    refine g_ireturn (ty := .boolean) rfl rfl (by decide) ?_
    rw [g2] at c_1; exact ⟨rfl, Or.inl ⟨key.mp c_1, rfl⟩⟩
theorem s_all12 {d : Nat} {h : sHp} {J : Nat → Int32} {W H : Nat} (hd : 1 ≤ d) (hr : h[60]? = some (mO J)) (g : gdM J W H) : sDo d 174 [.ref 60] h (fun r h' => h' = h ∧ r = some (.long (stO (fun _ => true) (W * H)))) := by
  have gd := g
  obtain ⟨gw, gh, w2, w8, h2, h8⟩ := gd
  have hn := gdM_n g
  have hw0 : (J 0).toInt = ((W : Nat) : Int) := by rw [gw]; exact ofN_toInt (by omega)
  have hw1 : (J 1).toInt = ((H : Nat) : Int) := by rw [gh]; exact ofN_toInt (by omega)
  have hwn : (J 0 * J 1).toInt = ((W * H : Nat) : Int) := n_mul hw0 hw1 (by omega)
  have e64 : (Int8.ofInt 64).toInt32.toInt = 64 := rfl
  have eWH : J 0 * J 1 = Int32.ofNat (W * H) := Int32.toInt_inj.mp (by rw [hwn, ofN_toInt (by omega)])
  refine sDo_of1 (nL := 1) (L := [some (.ref 60)]) (by omega) rfl rfl ?_
  refine g_aload_n (i := 0) rfl rfl ?_
  refine g_getfield (v := .int (J 0)) rfl hr (by decide) rfl ?_
  refine g_aload_n (i := 0) rfl rfl ?_
  refine g_getfield (v := .int (J 1)) rfl hr (by decide) rfl ?_
  refine g_imul rfl ?_
  refine g_bipush (n := 64) rfl ?_
  have k_2 : ((Int8.ofInt 64).toInt32).toInt = 64 := rfl
  refine g_icmp_ne 20 rfl rfl (fun c_1 => ?_) (fun c_1 => ?_)
  · skip
    rw [i_eq, hwn, k_2] at c_1
    refine g_lconst (n := 1) rfl ?_
    show sGo none 174 _ 21 [some (.ref 60)] [.long (Int64.ofNat 1)] _ _
    refine g_aload_n (i := 0) rfl rfl ?_
    refine g_getfield (v := .int (J 0)) rfl hr (by decide) rfl ?_
    refine g_aload_n (i := 0) rfl rfl ?_
    refine g_getfield (v := .int (J 1)) rfl hr (by decide) rfl ?_
    refine g_imul rfl ?_
    refine g_lshl rfl ?_
    refine g_lconst (n := 1) rfl ?_
    show sGo none 174 _ 32 [some (.ref 60)] [.long (Int64.ofNat 1), .long ((Int64.ofNat 1) <<< (((J 0) * (J 1)).toInt64 &&& 63))] _ _
    refine g_lsub rfl ?_
    refine g_lreturn rfl rfl ?_
    exact ⟨rfl, by rw [eWH]; exact congrArg (fun z => some (Value.long z)) (low_st _ (by omega))⟩
  · skip
    rw [i_eq, hwn, k_2] at c_1
    refine g_ldc2_w (j := 18446744073709551615) rfl ?_
    refine g_goto 33 rfl rfl ?_
    refine g_lreturn rfl rfl ?_
    exact ⟨rfl, by rw [show W * H = 64 by omega]; exact congrArg (fun z => some (Value.long z)) m1_st⟩
theorem s_isSet12 {d : Nat} {h : sHp} {J : Nat → Int32} {W H : Nat} {x : Int64} (hd : 2 ≤ d) (hr : h[60]? = some (mO J)) (g : gdM J W H) : sDo d 175 [.ref 60, .long x] h (fun r h' => h' = h ∧ (inN x (W * H) ∧ r = some (.int 1) ∨ ¬ inN x (W * H) ∧ r = some (.int 0))) := by
  have key := in_iff (x := x) (gdM_n g).1
  refine sDo_of1 (nL := 3) (L := [some (.ref 60), some (.long x), none]) (by omega) rfl rfl ?_
  refine g_lload_n (i := 1) rfl rfl ?_
  refine g_aload_n (i := 0) rfl rfl ?_
  refine g_virt0 (Qc := fun r h' => h' = h ∧ r = some (.long (stO (fun _ => true) (W * H)))) rfl (by decide) rfl hr rfl (Nat.le_of_ble_eq_true rfl) (s_all12 (by omega) hr g) (fun r h hq9 => ?_)
  obtain ⟨rfl, rfl⟩ := hq9
  refine g_ldc2_w (j := 18446744073709551615) rfl ?_
  refine g_lxor rfl ?_
  refine g_land rfl ?_
  refine g_lconst (n := 0) rfl ?_
  show sGo none 175 _ 11 [some (.ref 60), some (.long x), none] [.long (Int64.ofNat 0), .long (x &&& ((stO (fun _ => true) (W * H)) ^^^ (Int64.ofNat 18446744073709551615)))] _ _
  refine g_lcmp rfl ?_
  refine g_if_ne 19 rfl rfl (fun c_1 => ?_) (fun c_1 => ?_)
  · skip
    rw [lc_eq] at c_1
    refine g_iconst (n := 0) rfl ?_
    refine g_ireturn (ty := .boolean) rfl rfl (by decide) ?_
    exact ⟨rfl, Or.inr ⟨fun z => c_1 (key.mpr z), rfl⟩⟩
  · skip
    rw [lc_eq] at c_1
    refine g_iconst (n := 1) rfl ?_
    refine g_goto 20 rfl rfl ?_
    refine g_ireturn (ty := .boolean) rfl rfl (by decide) ?_
    exact ⟨rfl, Or.inl ⟨key.mp c_1, rfl⟩⟩
theorem s_parts11 {d : Nat} {h : sHp} {ik tf : Int32} {c : CF} {W H : Nat} {x : Int64} (hd : 4 ≤ d) (h0 : h[0]? = some (cO ik tf)) (F : FC h 5 c) (g : gdF c W H) : sDo d 140 [.ref 0, .long x] h (fun r h' => h' = h ∧ (inN x (W * H) ∧ r = some (.int (Int32.ofNat (ptS W (W * H) 64 x))) ∨ ¬ inN x (W * H) ∧ r = some (.int 0))) := by
  refine sDo_of1 (nL := 3) (L := [some (.ref 0), some (.long x), none]) (by omega) rfl rfl ?_
  refine g_aload_n (i := 0) rfl rfl ?_
  refine g_getfield (v := .ref 5) rfl h0 (by decide) rfl ?_
  refine g_lload_n (i := 1) rfl rfl ?_
  refine g_virt1 (Qc := fun r h' => h' = h ∧ (((inN x (W * H)) ∧ r = some (.int 1)) ∨ (¬ (inN x (W * H)) ∧ r = some (.int 0)))) rfl (by decide) rfl F.1 rfl (Nat.le_of_ble_eq_true rfl) (s_hasAll (by omega) F g) (fun r h hq9 => ?_)
  obtain ⟨rfl, ⟨c_1, rfl⟩ | ⟨c_1, rfl⟩⟩ := hq9
  · skip
    refine g_if_eq 22 rfl rfl (fun hc => absurd hc (by decide)) (fun _ => ?_)
    refine g_aload_n (i := 0) rfl rfl ?_
    refine g_getfield (v := .ref 5) rfl h0 (by decide) rfl ?_
    refine g_lload_n (i := 1) rfl rfl ?_
    refine g_virt1 (Qc := fun r h' => h' = h ∧ r = some (.int (Int32.ofNat (ptS W (W * H) 64 x)))) rfl (by decide) rfl F.1 rfl (Nat.le_of_ble_eq_true rfl) (s_pieces (by omega) F g c_1) (fun r h hq9 => ?_)
    obtain ⟨rfl, rfl⟩ := hq9
    refine g_goto 23 rfl rfl ?_
    refine g_ireturn (ty := .int) rfl rfl rfl ?_
    exact ⟨rfl, Or.inl ⟨c_1, rfl⟩⟩
  · skip
    refine g_if_eq 22 rfl rfl (fun _ => ?_) (fun hc => absurd hc (by decide))
    refine g_iconst (n := 0) rfl ?_
    refine g_ireturn (ty := .int) rfl rfl rfl ?_
    exact ⟨rfl, Or.inr ⟨c_1, rfl⟩⟩
theorem s_parts12 {d : Nat} {h : sHp} {J : Nat → Int32} {W H : Nat} {x : Int64} (hd : 5 ≤ d) (hr : h[60]? = some (mO J)) (g : gdM J W H) : sDo d 225 [.ref 60, .long x] h (fun r h' => h' = h ∧ (inN x (W * H) ∧ r = some (.int (Int32.ofNat (ptS W (W * H) 64 x))) ∨ ¬ inN x (W * H) ∧ r = some (.int 0))) := by
  refine sDo_of1 (nL := 3) (L := [some (.ref 60), some (.long x), none]) (by omega) rfl rfl ?_
  refine g_aload_n (i := 0) rfl rfl ?_
  refine g_lload_n (i := 1) rfl rfl ?_
  refine g_virt1 (Qc := fun r h' => h' = h ∧ (((inN x (W * H)) ∧ r = some (.int 1)) ∨ (¬ (inN x (W * H)) ∧ r = some (.int 0)))) rfl (by decide) rfl hr rfl (Nat.le_of_ble_eq_true rfl) (s_isSet12 (by omega) hr g) (fun r h hq9 => ?_)
  obtain ⟨rfl, ⟨c_1, rfl⟩ | ⟨c_1, rfl⟩⟩ := hq9
  · skip
    refine g_if_eq 16 rfl rfl (fun hc => absurd hc (by decide)) (fun _ => ?_)
    refine g_aload_n (i := 0) rfl rfl ?_
    refine g_lload_n (i := 1) rfl rfl ?_
    refine g_virt1 (Qc := fun r h' => h' = h ∧ r = some (.int (Int32.ofNat (ptS W (W * H) 64 x)))) rfl (by decide) rfl hr rfl (Nat.le_of_ble_eq_true rfl) (s_partsOf (by omega) hr g) (fun r h hq9 => ?_)
    obtain ⟨rfl, rfl⟩ := hq9
    refine g_goto 17 rfl rfl ?_
    refine g_ireturn (ty := .int) rfl rfl rfl ?_
    exact ⟨rfl, Or.inl ⟨c_1, rfl⟩⟩
  · skip
    refine g_if_eq 16 rfl rfl (fun _ => ?_) (fun hc => absurd hc (by decide))
    refine g_iconst (n := 0) rfl ?_
    refine g_ireturn (ty := .int) rfl rfl rfl ?_
    exact ⟨rfl, Or.inr ⟨c_1, rfl⟩⟩
theorem pr7_parts (x : Int64) : pairR bR7 140 225 [.long x] := pr_q (c1 := cn_X11_parts_0) (c2 := cn_X12_parts_0) ch_X11_parts_0 ch_X12_parts_0 (by decide +kernel) (by decide +kernel) (by decide +kernel) (by decide +kernel) rfl rfl (fun h hH => ⟨bt0 hH, vL0 x, trivial⟩) (fun h hH => ⟨bt60 hH, vL0 x, trivial⟩) (by decide +kernel) (by decide +kernel) (fun h hH hR => by
  obtain ⟨c, m, W, H, N, ik, tf, R, hd, so, sz, co, cl, f, gg, F, g, M, gM, h0, hR43, q4, bs, hN, c11, m6⟩ := un7 hH hR
  have q4' := q4
  obtain ⟨a1, a2, a3, a4, a5, a6, a7, a8⟩ := q4'
  by_cases hx : inN x (W * H)
  · refine ⟨_, sDo_mono (s_parts11 (d := 10) (by omega) h0 F g) (fun r h' q => ⟨(q.2.resolve_right (fun z => z.1 hx)).2, by rw [q.1]; exact vE_rfl⟩), fun h1 hH1 E => ?_⟩
    exact sDo_mono (s_parts12 (d := 10) (by omega) (vE_at E M.1 (by decide)) gM) (fun r h' q => (q.2.resolve_right (fun z => z.1 hx)).2)
  · refine ⟨_, sDo_mono (s_parts11 (d := 10) (by omega) h0 F g) (fun r h' q => ⟨(q.2.resolve_left (fun z => hx z.1)).2, by rw [q.1]; exact vE_rfl⟩), fun h1 hH1 E => ?_⟩
    exact sDo_mono (s_parts12 (d := 10) (by omega) (vE_at E M.1 (by decide)) gM) (fun r h' q => (q.2.resolve_left (fun z => hx z.1)).2))
end
