/-! ===== field of the reference ===== -/
/-- what bars a row (1), a cut (2) -/
def wtS (hd : Nat → Int32) (S : Nat) (w : Int) : Int32 := if (hd S).toInt = 3 - w then -2 else if (hd S).toInt = 0 then -3 else 0
theorem s_sh12z {d : Nat} {h : sHp} {s : Int32} (hd : 1 ≤ d) : sDo d 171 [.ref 60, .int s] h (fun r h' => h' = h ∧ ((0 ≤ s.toInt ∧ s.toInt < 8) ∧ r = some (.int 1) ∨ ¬ (0 ≤ s.toInt ∧ s.toInt < 8) ∧ r = some (.int 0))) := by
  obtain ⟨e, rfl⟩ : ∃ e, d = e + 1 := ⟨d - 1, by omega⟩
  refine sDo_mono (s_sh12 rfl) (fun r h' q => ⟨q.1, ?_⟩)
  by_cases z : 0 ≤ s.toInt ∧ s.toInt < 8
  · rw [if_pos z] at q; exact Or.inl ⟨z, q.2⟩
  · rw [if_neg z] at q; exact Or.inr ⟨z, q.2⟩
theorem s_wantsE {d : Nat} {h : sHp} {J hd : Nat → Int32} {s w : Int32} (hd1 : 2 ≤ d) (hr : h[60]? = some (mO J)) (a4 : h[67]? = some (.inl (0, 8, .inl hd))) (hw : w.toInt = 1 ∨ w.toInt = 2) : sDo d 184 [.ref 60, .int s, .int w] h (fun r h' => h' = h ∧ ((0 ≤ s.toInt ∧ s.toInt < 8) ∧ r = some (.int (wtS hd s.toInt.toNat w.toInt)) ∨ ¬ (0 ≤ s.toInt ∧ s.toInt < 8) ∧ r = some (.int (-1)))) := by
  unfold wtS
  refine sDo_of1 (nL := 3) (L := [some (.ref 60), some (.int s), some (.int w)]) (by omega) rfl rfl ?_
  refine g_aload_n (i := 0) rfl rfl ?_
  refine g_iload_n (i := 1) rfl rfl ?_
  refine g_virt1 (Qc := fun r h' => h' = h ∧ (((0 ≤ s.toInt ∧ s.toInt < 8) ∧ r = some (.int 1)) ∨ (¬ (0 ≤ s.toInt ∧ s.toInt < 8) ∧ r = some (.int 0)))) rfl (by decide) rfl hr rfl (Nat.le_of_ble_eq_true rfl) (s_sh12z (by omega)) (fun r h hq9 => ?_)
  obtain ⟨rfl, ⟨c_1, rfl⟩ | ⟨c_1, rfl⟩⟩ := hq9
  · skip
    obtain ⟨S, hS⟩ : ∃ S : Nat, s.toInt = S := ⟨s.toInt.toNat, by omega⟩
    rw [show s.toInt.toNat = S by omega]
    refine g_if_ne 12 rfl rfl (fun _ => ?_) (fun hc => absurd hc (by decide))
    refine g_aload_n (i := 0) rfl rfl ?_
    refine g_getfield (v := .ref 67) rfl hr (by decide) rfl ?_
    refine g_iload_n (i := 1) rfl rfl ?_
    refine g_iaload (n := 8) (f := hd) rfl a4 (i_in (by omega) (by omega)) ?_
    rw [i_nat hS]
    refine g_iconst (n := 3) rfl ?_
    refine g_iload_n (i := 2) rfl rfl ?_
    have k_2 : (Int32.ofInt 3).toInt = 3 := rfl
    refine g_isub rfl ?_
    have t_3 : ((Int32.ofInt 3) - w).toInt = 3 - w.toInt := by rw [i_sub (by rw [k_2]; omega) (by rw [k_2]; omega), k_2]
    refine g_icmp_ne 29 rfl rfl (fun c_4 => ?_) (fun c_4 => ?_)
    · skip
      rw [i_eq, t_3] at c_4
      refine g_aload_n (i := 0) rfl rfl ?_
      refine g_getfield (v := .ref 67) rfl hr (by decide) rfl ?_
      refine g_iload_n (i := 1) rfl rfl ?_
      refine g_iaload (n := 8) (f := hd) rfl a4 (i_in (by omega) (by omega)) ?_
      rw [i_nat hS]
      have k_6 : (0 : Int32).toInt = 0 := rfl
      refine g_if_ne 43 rfl rfl (fun c_5 => ?_) (fun c_5 => ?_)
      · skip
        rw [i_eq, k_6] at c_5
        refine g_iconst (n := 0) rfl ?_
        refine g_ireturn (ty := .int) rfl rfl rfl ?_
        exact ⟨rfl, Or.inl ⟨c_1, by rw [if_neg (by omega), if_neg (by omega)]; rfl⟩⟩
      · skip
        rw [i_eq, k_6] at c_5
        refine g_bipush (n := (-3)) rfl ?_
        refine g_goto 44 rfl rfl ?_
        refine g_ireturn (ty := .int) rfl rfl rfl ?_
        exact ⟨rfl, Or.inl ⟨c_1, by rw [if_neg (by omega), if_pos (by omega)]; rfl⟩⟩
    · skip
      rw [i_eq, t_3] at c_4
      refine g_bipush (n := (-2)) rfl ?_
      refine g_goto 44 rfl rfl ?_
      refine g_ireturn (ty := .int) rfl rfl rfl ?_
      exact ⟨rfl, Or.inl ⟨c_1, by rw [if_pos (by omega)]; rfl⟩⟩
  · skip
    refine g_if_ne 12 rfl rfl (fun hc => absurd hc (by decide)) (fun _ => ?_)
    refine g_iconst (n := (-1)) rfl ?_
    refine g_goto 44 rfl rfl ?_
    refine g_ireturn (ty := .int) rfl rfl rfl ?_
    exact ⟨rfl, Or.inr ⟨c_1, rfl⟩⟩
/-- alike in what a field is -/
def mQ (m m' : MF) : Prop := (∀ j, j < 7 → m'.1 j = m.1 j) ∧ m'.2 = m.2
theorem mQ_rfl (m : MF) : mQ m m := ⟨fun _ _ => rfl, rfl⟩
theorem mQ_tr {a b c : MF} (x : mQ a b) (y : mQ b c) : mQ a c := ⟨fun j hj => (y.1 j hj).trans (x.1 j hj), y.2.trans x.2⟩
theorem mQ_S {m m' : MF} (x : mS m m') : mQ m m' := ⟨fun j hj => x.1 j (by omega) (by omega) (by omega), x.2⟩
theorem upd7 {J J' : Nat → Int32} {k : Nat} {v : Int32} (a : ∀ j, j < 7 → J' j = J j) : ∀ j, j < 7 → upd J' k v j = upd J k v j := fun j hj => by
  by_cases e : j = k
  · rw [e, u_at, u_at]
  · rw [u_ne e, u_ne e, a j hj]
theorem mQ_do {m m' : MF} (q : mQ m m') (a : Act) : mQ (mfDo m a) (mfDo m' a) := by
  obtain ⟨J, R⟩ := m
  obtain ⟨J', R'⟩ := m'
  obtain ⟨q1, q2⟩ := q
  have q2 : R' = R := q2
  subst q2
  obtain ⟨k, x, y, z⟩ := a
  match k with
  | 0 => exact ⟨upd7 (upd7 (upd7 (upd7 q1))), rfl⟩
  | 1 => exact ⟨q1, rfl⟩
  | 2 => exact ⟨upd7 q1, rfl⟩
  | 3 =>
    have e : J' 6 = J 6 := q1 6 (by decide)
    show mQ (mfHeir (J 6).toNatClampNeg (Int32.ofNat x) (J, R')) (mfHeir (J' 6).toNatClampNeg (Int32.ofNat x) (J', R'))
    rw [e]
    exact ⟨upd7 q1, rfl⟩
  | k + 4 => exact ⟨q1, rfl⟩
theorem mQ_dos {m m' : MF} (q : mQ m m') : ∀ as : List Act, mQ (as.foldl mfDo m) (as.foldl mfDo m') := by
  intro as
  induction as generalizing m m' with
  | nil => exact q
  | cons a as ih => exact ih (mQ_do q a)
def fdM (h h' : sHp) : Prop := h'.length = h.length ∧ ∀ q, q ≠ 60 → q ≠ 74 → (q < 61 ∨ 66 < q) → h'[q]? = h[q]?
def qF12 (h : sHp) (m : MF) (q : Option (Nat × List Act)) (r : Option Value) (h' : sHp) : Prop := match q with
  | some (k, as) => r = some (.int (Int32.ofNat k)) ∧ (∃ m', MC h' m' ∧ mQ (as.foldl mfDo m) m') ∧ fdM h h'
  | none => r = some (.int (-6)) ∧ (∃ m0 g m', MC h' m' ∧ mQ (mfBack m0 (svF m g)) m') ∧ fdM h h'
theorem s_field12 {d : Nat} {h : sHp} {m : MF} {R hd sz : Nat → Int32} {gw wd : Nat → Int32} {cl : Nat → Int64} {S n : Nat} {x : Int32} {T : Nat → Int32} {s : Sg} (hd1 : 7 ≤ d) (M : MC h m) (hR : h[61]? = some (rFc R)) (hg : h[74]? = some (.inl (0, 180, .inl gw))) (w0 : h[73]? = some (.inl (0, 42, .inl wd))) (W : WD wd) (a4 : h[67]? = some (.inl (0, 8, .inl hd))) (a6 : h[69]? = some (.inl (0, 8, .inl sz))) (a8 : h[71]? = some (.inl (1, 800, .inr (.inl cl)))) (hS : S < 8) (hx : x.toInt = S) (h1 : hd S = 1) (hz : sz S = Int32.ofNat n) (RT1 : RT cl S n T) (hs : sgJ m.1 s) : sDo d 202 [.ref 60, .int x] h (qF12 h m (itsS T n 101 s 0)) := by
  have hwt : wtS hd x.toInt.toNat 1 = 0 := by
    unfold wtS
    rw [show x.toInt.toNat = S by omega, h1]
    rfl
  have e100 : (Int8.ofInt 100).toInt32 * x = Int32.ofNat (100 * S) := Int32.toInt_inj.mp (by rw [n_mul (X := 100) (Y := S) rfl hx (by omega), ofN_toInt (by omega)])
  refine sDo_of1 (nL := 5) (L := [some (.ref 60), some (.int x), none, none, none]) (by omega) rfl rfl ?_
  refine g_aload_n (i := 0) rfl rfl ?_
  refine g_iload_n (i := 1) rfl rfl ?_
  refine g_iconst (n := 1) rfl ?_
  refine g_virt2 rfl (by decide) rfl M.1 rfl (Nat.le_of_ble_eq_true rfl) (s_wantsE (by omega) M.1 a4 (Or.inl rfl)) (fun r h9 hq9 => ?_)
  obtain ⟨rfl, hq9 | hq9⟩ := hq9
  rotate_left
  · exact absurd (show 0 ≤ x.toInt ∧ x.toInt < 8 by omega) hq9.1
  obtain ⟨-, rfl⟩ := hq9
  rw [show wtS hd x.toInt.toNat (Int32.ofInt 1).toInt = 0 from hwt]
  refine g_istore_n (i := 2) (L1 := [some (.ref 60), some (.int x), some (.int 0), none, none]) rfl (Nat.le_of_ble_eq_true rfl) rfl ?_
  refine g_iload_n (i := 2) rfl rfl ?_
  refine g_if_eq 17 rfl rfl (fun _ => ?_) (fun hc => absurd hc (by decide))
  refine g_aload_n (i := 0) rfl rfl ?_
  refine g_aload_n (i := 0) rfl rfl ?_
  refine g_getfield (v := .ref 74) rfl M.1 (by decide) rfl ?_
  refine g_iconst (n := 0) rfl ?_
  refine g_virt2 (Qc := fun r h' => r = none ∧ h' = h9.set 74 (.inl (0, 180, .inl (svF m gw)))) rfl (by decide) rfl M.1 rfl (Nat.le_of_ble_eq_true rfl) (sDo_up (d := 2) (by omega) (s_saveE (d := 0) M hg (by decide))) (fun r h8 hq9 => ?_)
  obtain ⟨rfl, rfl⟩ := hq9
  have M2 : MC (h9.set 74 (.inl (0, 180, .inl (svF m gw)))) m := by
    obtain ⟨b0, b1, b2, b3, b4, b5⟩ := M
    exact ⟨by rw [s_set_ne (by decide)]; exact b0, by rw [s_set_ne (by decide)]; exact b1, by rw [s_set_ne (by decide)]; exact b2, by rw [s_set_ne (by decide)]; exact b3, by rw [s_set_ne (by decide)]; exact b4, by rw [s_set_ne (by decide)]; exact b5⟩
  have g2 : (h9.set 74 (.inl (0, 180, .inl (svF m gw))))[74]? = some (.inl (0, 180, .inl (svF m gw))) := s_set_eq hg
  have v0 : (h9.set 74 (.inl (0, 180, .inl (svF m gw))))[73]? = some (.inl (0, 42, .inl wd)) := by rw [s_set_ne (by decide)]; exact w0
  have v6 : (h9.set 74 (.inl (0, 180, .inl (svF m gw))))[69]? = some (.inl (0, 8, .inl sz)) := by rw [s_set_ne (by decide)]; exact a6
  have v8 : (h9.set 74 (.inl (0, 180, .inl (svF m gw))))[71]? = some (.inl (1, 800, .inr (.inl cl))) := by rw [s_set_ne (by decide)]; exact a8
  have vR : (h9.set 74 (.inl (0, 180, .inl (svF m gw))))[61]? = some (rFc R) := by rw [s_set_ne (by decide)]; exact hR
  have fd1 : fdM h9 (h9.set 74 (.inl (0, 180, .inl (svF m gw)))) := ⟨List.length_set, fun q e1 e2 e3 => s_set_ne (Ne.symm e2)⟩
  generalize h9.set 74 (.inl (0, 180, .inl (svF m gw))) = h2 at M2 g2 v0 v6 v8 vR fd1 ⊢
  refine g_aload_n (i := 0) rfl rfl ?_
  refine g_bipush (n := 100) rfl ?_
  refine g_iload_n (i := 1) rfl rfl ?_
  refine g_imul rfl ?_
  rw [e100]
  have M3 := MC_0 (f := (upd m.1 21 (Int32.ofNat (100 * S)))) M2
  refine g_putfield (h1 := List.set h2 60 (mO (upd m.1 21 (Int32.ofNat (100 * S))))) rfl M2.1 (by decide) (Nat.le_of_ble_eq_true rfl) rfl rfl ?_
  refine g_aload_n (i := 0) rfl rfl ?_
  refine g_iconst (n := 0) rfl ?_
  have M4 := MC_0 (f := (upd (upd m.1 21 (Int32.ofNat (100 * S))) 22 (Int32.ofInt 0))) M3
  refine g_putfield (h1 := List.set (List.set h2 60 (mO (upd m.1 21 (Int32.ofNat (100 * S))))) 60 (mO (upd (upd m.1 21 (Int32.ofNat (100 * S))) 22 (Int32.ofInt 0)))) rfl M3.1 (by decide) (Nat.le_of_ble_eq_true rfl) rfl rfl ?_
  refine g_aload_n (i := 0) rfl rfl ?_
  refine g_aload_n (i := 0) rfl rfl ?_
  refine g_getfield (v := .ref 69) rfl M4.1 (by decide) rfl ?_
  refine g_iload_n (i := 1) rfl rfl ?_
  refine g_iaload (n := 8) (f := sz) rfl (by (repeat rw [s_set_ne (by decide)]); exact v6) (i_in (by omega) (by omega)) ?_
  rw [i_nat hx, hz]
  have M5 := MC_0 (f := (upd (upd (upd m.1 21 (Int32.ofNat (100 * S))) 22 (Int32.ofInt 0)) 23 (Int32.ofNat n))) M4
  refine g_putfield (h1 := List.set (List.set (List.set h2 60 (mO (upd m.1 21 (Int32.ofNat (100 * S))))) 60 (mO (upd (upd m.1 21 (Int32.ofNat (100 * S))) 22 (Int32.ofInt 0)))) 60 (mO (upd (upd (upd m.1 21 (Int32.ofNat (100 * S))) 22 (Int32.ofInt 0)) 23 (Int32.ofNat n)))) rfl M4.1 (by decide) (Nat.le_of_ble_eq_true rfl) rfl rfl ?_
  refine g_aload_n (i := 0) rfl rfl ?_
  refine g_iconst (n := (-1)) rfl ?_
  have M6 := MC_0 (f := (upd (upd (upd (upd m.1 21 (Int32.ofNat (100 * S))) 22 (Int32.ofInt 0)) 23 (Int32.ofNat n)) 7 ((Int32.ofInt (-1))))) M5
  refine g_putfield (h1 := List.set (List.set (List.set (List.set h2 60 (mO (upd m.1 21 (Int32.ofNat (100 * S))))) 60 (mO (upd (upd m.1 21 (Int32.ofNat (100 * S))) 22 (Int32.ofInt 0)))) 60 (mO (upd (upd (upd m.1 21 (Int32.ofNat (100 * S))) 22 (Int32.ofInt 0)) 23 (Int32.ofNat n)))) 60 (mO (upd (upd (upd (upd m.1 21 (Int32.ofNat (100 * S))) 22 (Int32.ofInt 0)) 23 (Int32.ofNat n)) 7 ((Int32.ofInt (-1)))))) rfl M5.1 (by decide) (Nat.le_of_ble_eq_true rfl) rfl rfl ?_
  refine g_iconst (n := 1) rfl ?_
  refine g_istore_n (i := 3) (L1 := [some (.ref 60), some (.int x), some (.int 0), some (.int (Int32.ofInt 1)), none]) rfl (Nat.le_of_ble_eq_true rfl) rfl ?_
  have E2 : mE h2 (List.set (List.set (List.set (List.set h2 60 (mO (upd m.1 21 (Int32.ofNat (100 * S))))) 60 (mO (upd (upd m.1 21 (Int32.ofNat (100 * S))) 22 (Int32.ofInt 0)))) 60 (mO (upd (upd (upd m.1 21 (Int32.ofNat (100 * S))) 22 (Int32.ofInt 0)) 23 (Int32.ofNat n)))) 60 (mO (upd (upd (upd (upd m.1 21 (Int32.ofNat (100 * S))) 22 (Int32.ofInt 0)) 23 (Int32.ofNat n)) 7 ((Int32.ofInt (-1)))))) := mE_set (mE_set (mE_set (mE_set mE_rfl (by decide)) (by decide)) (by decide)) (by decide)
  have hs2 : sgJ (upd (upd (upd (upd m.1 21 (Int32.ofNat (100 * S))) 22 (Int32.ofInt 0)) 23 (Int32.ofNat n)) 7 ((Int32.ofInt (-1)))) s := hs
  refine s_fld_go (d := d - 1) (h0 := h2) W RT1 (by omega) v0 v8 101 0 1 _ ((upd (upd (upd (upd m.1 21 (Int32.ofNat (100 * S))) 22 (Int32.ofInt 0)) 23 (Int32.ofNat n)) 7 ((Int32.ofInt (-1)))), m.2) ((upd (upd (upd (upd m.1 21 (Int32.ofNat (100 * S))) 22 (Int32.ofInt 0)) 23 (Int32.ofNat n)) 7 ((Int32.ofInt (-1)))), m.2) s none 56 (Or.inl rfl) (by have := RT1.2.1; omega) (by omega) (by omega) M6 ⟨fun _ _ _ _ => rfl, rfl⟩ E2 ⟨rfl, rfl, rfl⟩ hs2 (fun h5 goes K' hK' hq => ?_)
  have hmQ : mQ m ((upd (upd (upd (upd m.1 21 (Int32.ofNat (100 * S))) 22 (Int32.ofInt 0)) 23 (Int32.ofNat n)) 7 ((Int32.ofInt (-1)))), m.2) := ⟨fun j hj => (u_ne (by omega)).trans ((u_ne (by omega)).trans ((u_ne (by omega)).trans (u_ne (by omega)))), rfl⟩
  obtain ⟨m', M', E', hq⟩ := hq
  have eK := ofN_toInt (n := K') (by omega)
  cases hi : itsS T n 101 s 0 with
  | none =>
    rw [hi] at hq
    have hq : goes = 0 := hq
    subst hq
    have g5 := (E'.2 74 (by decide) (by decide)).trans g2
    have r5 : h5[61]? = some (rFc R) := (E'.2 61 (by decide) (by decide)).trans vR
    refine g_iload (i := 4) rfl rfl ?_
    refine g_if_eq 140 rfl rfl (fun _ => ?_) (fun hc => absurd hc (by decide))
    refine g_aload_n (i := 0) rfl rfl ?_
    refine g_aload_n (i := 0) rfl rfl ?_
    refine g_getfield (v := .ref 74) rfl M'.1 (by decide) rfl ?_
    refine g_iconst (n := 1) rfl ?_
    refine g_virt2 (Qc := fun r h' => r = none ∧ MC h' (mfBack m' (svF m gw)) ∧ mE h5 h') rfl (by decide) rfl M'.1 rfl (Nat.le_of_ble_eq_true rfl) (sDo_up (d := 2) (by omega) (s_backE (d := 0) M' g5 (by decide))) (fun r h4 hq9 => ?_)
    obtain ⟨rfl, q1, q2⟩ := hq9
    refine g_aload_n (i := 0) rfl rfl ?_
    refine g_aload_n (i := 0) rfl rfl ?_
    refine g_getfield (v := .int ((mfBack m' (svF m gw)).1 25)) rfl q1.1 (by decide) rfl ?_
    have q3 := MC_0 (f := (upd (mfBack m' (svF m gw)).1 7 (((mfBack m' (svF m gw)).1 25)))) q1
    refine g_putfield (h1 := h4.set 60 (mO (upd (mfBack m' (svF m gw)).1 7 (((mfBack m' (svF m gw)).1 25))))) rfl q1.1 (by decide) (Nat.le_of_ble_eq_true rfl) rfl rfl ?_
    refine g_aload_n (i := 0) rfl rfl ?_
    refine g_bipush (n := (-6)) rfl ?_
    refine g_virt1 (Qc := fun r h' => r = some (.int (-6)) ∧ h' = List.set (h4.set 60 (mO (upd (mfBack m' (svF m gw)).1 7 (((mfBack m' (svF m gw)).1 25))))) 61 (rFc (bump R 6))) rfl (by decide) rfl q3.1 rfl (Nat.le_of_ble_eq_true rfl) (s_no2 (X := 6) (R := R) (by omega) q3.1 (by rw [s_set_ne (by decide), q2.2 61 (by decide) (by decide)]; exact r5) rfl (by decide)) (fun r h3 hq9 => ?_)
    obtain ⟨rfl, rfl⟩ := hq9
    refine g_ireturn (ty := .int) rfl rfl rfl ?_
    refine ⟨rfl, ⟨m', gw, _, MC_61 q3, ⟨fun j hj => u_ne (by omega), rfl⟩⟩, ?_, fun q e1 e2 e3 => ?_⟩
    · rw [List.length_set, List.length_set]; exact q2.1.trans (E'.1.trans fd1.1)
    · rw [s_set_ne (by omega), s_set_ne (Ne.symm e1), q2.2 q e1 (by omega), E'.2 q e1 (by omega)]
      exact fd1.2 q e1 e2 e3
  | some kb =>
    obtain ⟨k, as⟩ := kb
    rw [hi] at hq
    obtain ⟨rfl, e1, ms⟩ := hq
    have hk : K' = k := by omega
    subst hk
    refine g_iload (i := 4) rfl rfl ?_
    refine g_if_eq 140 rfl rfl (fun hc => absurd hc (by decide)) (fun _ => ?_)
    refine g_iload_n (i := 3) rfl rfl ?_
    refine g_ireturn (ty := .int) rfl rfl rfl ?_
    exact ⟨rfl, ⟨m', M', mQ_tr (mQ_dos hmQ as) (mQ_S ms)⟩, E'.1.trans fd1.1, fun q e1 e2 e3 => (E'.2 q e1 (by omega)).trans (fd1.2 q e1 e2 e3)⟩
